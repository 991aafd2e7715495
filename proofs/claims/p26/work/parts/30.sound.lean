/-! What the model says of a method holds of it in the machine; and of the law. -/
theorem ret3 : ∀ k, k < 112 → rkf (m_ret k) = 3 → m_ret k = some (.object "PoleShop$Plant") := by
  have h : ∀ k ∈ List.range 112, rkf (m_ret k) = 3 → m_ret k = some (.object "PoleShop$Plant") := by decide +kernel
  exact fun k hk => h k (List.mem_range.mpr hk)
theorem rkf0 {r : Option FieldType} (h : rkf r = 0) : r = none := by
  unfold rkf at h
  split at h
  · rfl
  · cases h
  · cases h
  · cases h
theorem rkf1 {r : Option FieldType} (h : rkf r = 1) : r = some .int := by
  unfold rkf at h
  split at h
  · cases h
  · rfl
  · cases h
  · cases h
theorem rkf2 {r : Option FieldType} (h : rkf r = 2) : r = some .boolean := by
  unfold rkf at h
  split at h
  · cases h
  · cases h
  · rfl
  · cases h
theorem lg_sl_len : ∀ (vs : List Value), okar vs → (lg_sl vs).length = vs.length
  | [], _ => rfl
  | v :: vs, h => by
    have h1 := h v List.mem_cons_self
    have h2 := lg_sl_len vs (fun w hw => h w (List.mem_cons_of_mem _ hw))
    have e : ¬ v.category = 2 := by omega
    show ((if v.category = 2 then [Slot.val v, Slot.second] else [Slot.val v]) ++ lg_sl vs).length = _
    rw [if_neg e]
    simp [h2]
theorem lv_args_in : ∀ (vs : List Value) (i j : Nat) (v : Value), okar vs → vs[j]? = some v → (i + j, v) ∈ lv_args i vs
  | [], _, _, _, _, h => by simp at h
  | w :: vs, i, 0, v, h, hj => by
    have e : w = v := by simpa using hj
    subst e
    exact List.mem_cons_self
  | w :: vs, i, j + 1, v, h, hj => by
    have h1 := h w List.mem_cons_self
    have e : ¬ w.category = 2 := by omega
    have h2 := lv_args_in vs (i + 1) j v (fun w hw => h w (List.mem_cons_of_mem _ hw)) (by simpa using hj)
    rw [show i + (j + 1) = i + 1 + j by omega]
    unfold lv_args
    rw [if_neg e]
    exact List.mem_cons_of_mem _ h2
theorem LV.entry {b sz n : Nat} {ar : List Value} (h : okar ar) (hn : ar.length ≤ n) : LV b sz n (lv0 n ar) ((lg_sl (ar.map (cv b sz)) ++ List.replicate (n - (lg_sl (ar.map (cv b sz))).length) Slot.unset).toArray) := by
  have h' : okar (ar.map (cv b sz)) := fun v hv => by
    obtain ⟨w, hw, rfl⟩ := List.mem_map.mp hv
    rw [cv_cat]
    exact h w hw
  have hl := lg_sl_len _ h'
  rw [List.length_map] at hl
  have hh := lv_entry (ar.map (cv b sz)) (n := n) (by omega)
  refine ⟨by simp [lv0]; omega, ⟨hh.1, hh.2.1⟩, fun j v hj => ?_⟩
  unfold lv0 at hj
  by_cases q : j < ar.length
  · rw [List.getElem?_append_left (by rw [List.length_map]; exact q), List.getElem?_map] at hj
    have hj2 : ar[j]? = some v := by
      cases hq : ar[j]? with
      | none => rw [hq] at hj; cases hj
      | some w => rw [hq] at hj; cases hj; rfl
    refine ⟨?_, h v (List.mem_of_getElem? hj2)⟩
    have := hh.2.2 _ (lv_args_in (ar.map (cv b sz)) 0 j (cv b sz v) h' (by rw [List.getElem?_map, hj2]; rfl))
    rw [Nat.zero_add] at this
    exact this
  · rw [List.getElem?_append_right (by rw [List.length_map]; omega)] at hj
    have := List.eq_of_mem_replicate (List.mem_of_getElem? hj)
    cases this
section SX
variable {p : Program} {l : Launch} {e : Env} {R : Room} {s : State} {m : MethodId} {args : Array Value} {below : List Frame} {meth : Method} {c : Code} {D : va_G} {K : KK} {b sz L : Nat} {xs : Nat → Int32} {k : Nat}
/-- the end of a method -/
theorem end_M {r : Res} (hk : k < 112) (hx : p.tables.exec = Jvm.exec) (hb : c.code = m_b k) (hr : meth.sig.returnType = m_ret k) (hlocks : meth.locks = false) : ∀ v, r.1 = .inl v → ∀ pc H locs ls, RH D K b sz L xs s.heap r.2.1 H locs → rok k v pc → W p l e R s m args below meth c H locs r.2.2.1 r.2.2.2 (vx_MQ below (QcM D K b sz L xs r) (XcM D K b sz L xs r) args s r.2.2.1 r.2.2.2 (fun q => sz ≤ q)) (F0 m pc ls (v.toList.map (cv b sz))) := by
  intro v hv pc H locs ls hR hok
  have hW : ∀ t : State, t.heap = H → Wh D K b sz L xs r.2.1 t ∧ va_F (fun q => sz ≤ q) s t := fun t ht => Wh.of hR (by rw [ht]; exact Nat.le_refl _) (fun q _ => by rw [ht])
  refine vx_ret ?_
  cases v with
  | none =>
    obtain ⟨h1, h2⟩ := hok
    exact W.vret hx hb (hr.trans (rkf0 h2)) (fun t ht _ => ⟨⟨none, hv, rfl, (hW t ht).1⟩, (hW t ht).2⟩) hR.2.1.2.2 h1 hlocks
  | some v =>
    cases v with
    | int x =>
      obtain ⟨h1, h2⟩ := hok
      rcases h2 with h2 | ⟨h2, h3⟩
      · exact W.zret (ty := .int) hx hb (hr.trans (rkf1 h2)) rfl (fun t ht _ => ⟨⟨some (.int x), hv, rfl, (hW t ht).1⟩, (hW t ht).2⟩) hR.2.1.2.2 h1 hlocks
      · refine W.zret (ty := .boolean) hx hb (hr.trans (rkf2 h2)) ?_ (fun t ht _ => ⟨⟨some (.int x), hv, rfl, (hW t ht).1⟩, (hW t ht).2⟩) hR.2.1.2.2 h1 hlocks
        rcases h3 with rfl | rfl <;> rfl
    | ref a =>
      obtain ⟨h1, h2⟩ := hok
      exact W.aret hx hb (hr.trans (ret3 k hk h2)) (Or.inl ⟨_, rfl⟩) (Or.inr ⟨_, rfl⟩) (fun t ht _ => ⟨⟨some (.ref a), hv, rfl, (hW t ht).1⟩, (hW t ht).2⟩) hR.2.1.2.2 h1 hlocks
    | _ => exact hok.elim
end SX
theorem sound {l : Launch} (hl : l.stackTraces = false) (D : va_G) (K : KK) (b sz L : Nat) (xs : Nat → Int32) : ∀ d k ar h r, k < 111 → Ev d k ar h r → MetM l D K b sz L xs d k ar h r
  | 0, _, _, _, _, _, hE => hE.elim
  | d + 1, k, ar, h, r, hk, ⟨⟨h1, h2, h3, h4⟩, f, hrun⟩ => by
    obtain ⟨⟨p1, p2, p3, p4⟩, ⟨p5, p6⟩, p7, p8, p9, ⟨p10, p11⟩, p12⟩ := mp_all k hk
    have hih := sound hl D K b sz L xs d
    by_cases hh : m_hh k = []
    · refine vx_ofW (cc := m_b k) (maxL := m_L k) (ret := m_ret k) p1 (by unfold wsM; rw [m_cw_nil hh]) ?_
      intro p e s m args below meth c s₁ B hml hexc hv
      obtain ⟨rfl, ⟨w1, w2, w3, w4, w5⟩, hz⟩ := hv
      have hts := fun w hw => atoms_spec (ws := wsM k) B.pre w (List.mem_cons_of_mem _ hw)
      have hC : Cx l p s m (ar.map (cv b sz)).toArray meth c D K b sz L xs k := ⟨B.exec, B.bytes, hml, hts, by rw [← p2]; exact findClass_of_methodNamed B.named, w4, w5, B.notSynchronized, hl, fun _ => by
        rw [hh]
        cases hq : c.exceptionTable.toList with
        | nil => rfl
        | cons a t => exact (hexc a (by rw [hq]; exact List.mem_cons_self)).elim, fun h2 => (name_of_methodNamed B.named B.method).1.trans (p9 h2).2.1⟩
      rw [lg_entry_eq]
      exact run_sound (R := rmD (d + 1) r.2.2.1 r.2.2.2) hC (Nat.lt_succ_of_lt hk) p12 (fun x ar h q hx hE => hih x ar h q hx hE) (Nat.le_refl _) (by show 44 * d + 38 ≤ 44 * (d + 1); omega) ⟨Nat.le_refl _, Nat.le_refl _⟩
        (fun E hE => ⟨rfl, h4 E hE, by have := h4 E hE; show 82 ≤ 44 * (d + 1); omega, by omega⟩) (end_M (Nat.lt_succ_of_lt hk) B.exec B.bytes B.returns B.notSynchronized) f 0 [] _ [] h 0 0 hrun okS.nil s.heap [] _ ⟨w1, va_S.rf, w2, w3⟩ hz (LV.entry h2 h1)
    · refine vx_ofWH (cc := m_b k) (maxL := m_L k) (ret := m_ret k) (hh := m_hh k) p1 (by unfold wsM; rw [m_cw_cons hh]) ?_
      intro p e s m args below meth c s₁ B hml hv
      obtain ⟨rfl, ⟨w1, w2, w3, w4, w5⟩, hz⟩ := hv
      have hts0 := atoms_spec (ws := wsM k) B.pre
      have hts := fun w hw => hts0 w (List.mem_cons_of_mem _ hw)
      have htab := vx_table (x := m_y k) B (by have := hts0 _ List.mem_cons_self; rw [m_cw_cons hh] at this; exact this)
      have hC : Cx l p s m (ar.map (cv b sz)).toArray meth c D K b sz L xs k := ⟨B.exec, B.bytes, hml, hts, by rw [← p2]; exact findClass_of_methodNamed B.named, w4, w5, B.notSynchronized, hl, fun _ => htab, fun h2 => (name_of_methodNamed B.named B.method).1.trans (p9 h2).2.1⟩
      rw [lg_entry_eq]
      exact run_sound (R := rmD (d + 1) r.2.2.1 r.2.2.2) hC (Nat.lt_succ_of_lt hk) p12 (fun x ar h q hx hE => hih x ar h q hx hE) (Nat.le_refl _) (by show 44 * d + 38 ≤ 44 * (d + 1); omega) ⟨Nat.le_refl _, Nat.le_refl _⟩
        (fun E hE => ⟨rfl, h4 E hE, by have := h4 E hE; show 82 ≤ 44 * (d + 1); omega, by omega⟩) (end_M (Nat.lt_succ_of_lt hk) B.exec B.bytes B.returns B.notSynchronized) f 0 [] _ [] h 0 0 hrun okS.nil s.heap [] _ ⟨w1, va_S.rf, w2, w3⟩ hz (LV.entry h2 h1)
