/-! What makes cells. -/
section MA
variable {p : Program} {l : Launch} {e : Env} {R : Room} {s : State} {m : MethodId} {args : Array Value} {below : List Frame} {meth : Method} {c : Code} {D : va_G} {K : KK} {b sz L : Nat} {xs : Nat → Int32} {Q : State → Prop} {k : Nat}
variable {pc : Nat} {is : List Ent} {lv : List (Option Value)} {st : List Value} {h : MH} {c0 s0 : Nat} {o : Out}
theorem W_sz {H : Heap} {locs : List Loc} {g : JFrame} (kk : H.size ≤ s.heap.size + c0 → W p l e R s m args below meth c H locs c0 s0 Q g) : W p l e R s m args below meth c H locs c0 s0 Q g := fun T hT X => by
  have h1 : T.heap.size ≤ s.heap.size + c0 := X.same.2.2.1
  rw [hT] at h1
  exact kk h1 T hT X
theorem RH.lo {H0 H : Heap} {locs : List Loc} (hR : RH D K b sz L xs H0 h H locs) (hsz : sz ≤ H0.size) : sz + h.1 ≤ H.size := hR.2.2.2.2
theorem RH.push {H0 H H1 : Heap} {locs : List Loc} {x : MC} (hR : RH D K b sz L xs H0 h H locs) (hs : H.size = sz + h.1) (z1 : H1.size = H.size + 1) (o1 : ∀ q, q < H.size → H1[q]? = H[q]?) (e1 : va_at D vwCl (sz + h.1, ce K b sz (some x)) H1) : RH D K b sz L xs H0 (hpush h x) H1 locs := by
  refine ⟨?_, ⟨Nat.le_trans hR.2.1.1 (by omega), fun q h1 h2 => (o1 q (Nat.lt_of_lt_of_le h1 hR.2.1.1)).trans (hR.2.1.2.1 q h1 h2), hR.2.1.2.2⟩, fun a y hy => ?_, ?_, ?_⟩
  · rw [← mkw_push]
    refine (hR.1.kept (fun k x hx => o1 x.1 ((hR.1 k x hx).lt))).app (fun k x hx => ?_)
    have hz : k < 1 := (List.getElem?_eq_some_iff.mp hx).1
    rw [show k = 0 by omega] at hx
    cases hx
    exact e1
  · show a ≤ h.1 + 1
    by_cases e : a = h.1 + 1
    · omega
    · have := hR.2.2.1 a y (by simpa [hpush, e] using hy)
      omega
  · show (if 0 = h.1 + 1 then some x else h.2.2 0) = _
    rw [if_neg (by omega)]
    exact hR.2.2.2.1
  · show sz + (h.1 + 1) ≤ H1.size
    omega
theorem dfl_cv (x : Nat) : (dfl x).map (cv b sz) = dfl x := by
  unfold dfl
  split <;> rfl
theorem sd_new (hx : p.tables.exec = Jvm.exec) (hb : c.code = m_b k) (hts : ∀ w ∈ lwg, w.before args s = true) (hown : s.vm.findClass (cnm (m_cn k)) = some m.cls) (hK : va_K D vwCl (tysK K) s) (hsz : sz ≤ s.heap.size) {ix x : Nat} (hx9 : x < 8) (hE : (m_cn k, ix, x) ∈ newT) (d : decode (m_b k) pc = .ok (.new ix, 3)) (hs : s_new (m_cn k) ix x (pc + 3) is lv st h c0 s0 = some o)
    (hB : ∀ g, o = .inl g → g.2.2.2.2.2.1 ≤ R.cells ∧ g.2.2.2.2.2.2 ≤ R.slots) (kn : ∀ pc' is' lv' st' h' c' s', o = .inl (pc', is', lv', st', h', c', s') → ((pc' = pc + 3 ∧ is' = is) ∨ is' = []) → MW p l e R s m args below meth c D K b sz L xs Q k pc' lv' st' h' c' s') : MW p l e R s m args below meth c D K b sz L xs Q k pc lv st h c0 s0 := by
  intro H locs ls hR hZ hL
  refine W_sz fun hle => ?_
  unfold s_new at hs
  rw [if_pos hx9] at hs
  split at hs
  · cases hs
  · next hf =>
    have hf : h.2.1 = false := by simpa using hf
    simp only [nx, Option.some.injEq] at hs
    have hse : H.size = sz + h.1 := by have := hR.lo hsz; have := hZ hf; omega
    obtain ⟨-, C, T, N, n1, n2⟩ := newT_ok _ hE
    obtain ⟨C', T', N', ty, g1, g2, g3, g4, g5, g6, g7, g8⟩ := cls_ok x hx9
    cases Option.some.inj (g1.symm.trans n1)
    have hB' := hB _ hs.symm
    have hKn := hK.1 x _ n1
    refine W.newcK hx hb hown (hts _ n2) (hts _ g6) (hts _ g7) rfl d (by rw [g8] at hB'; exact hB'.1) (by rw [g8] at hB'; exact hB'.2) hKn.2.1 rfl fun H1 kC hkC e1 z1 o1 => ?_
    rw [← g8]
    have hR1 : RH D K b sz L xs s.heap (hpush h (mO x (dfl x))) H1 locs := by
      refine hR.push hse z1 o1 ⟨_, n1, ?_⟩
      show t_OB (sz + h.1) (D.1 x) N (D.2 x) H1 (vp_V ((dfl x).map (cv b sz)))
      rw [dfl_cv, ← hse]
      exact (u_born ty hts g4 hKn hkC e1 g2).to g5
    have h9 := kn _ _ _ _ _ _ _ hs.symm (Or.inl ⟨rfl, rfl⟩) H1 locs ls hR1 (fun _ => by show s.heap.size + (c0 + 1) = sz + (h.1 + 1); have := hZ hf; omega) hL
    have ea : ad b sz (h.1 + 1) = H.size := hse.symm
    simp only [List.map_cons, cv, ea] at h9
    exact h9
theorem sd_newa (hx : p.tables.exec = Jvm.exec) (hb : c.code = m_b k) (hts : ∀ w ∈ lwg, w.before args s = true) (hown : s.vm.findClass (cnm (m_cn k)) = some m.cls) (hK : va_K D vwCl (tysK K) s) (hsz : sz ≤ s.heap.size) {t : ClassFile.ArrayType} (d : decode (m_b k) pc = .ok (.newarray t, 2)) (hs : s_newa t (pc + 2) is lv st h c0 s0 = some o)
    (hB : ∀ g, o = .inl g → g.2.2.2.2.2.1 ≤ R.cells ∧ g.2.2.2.2.2.2 ≤ R.slots) (kn : ∀ pc' is' lv' st' h' c' s', o = .inl (pc', is', lv', st', h', c', s') → ((pc' = pc + 2 ∧ is' = is) ∨ is' = []) → MW p l e R s m args below meth c D K b sz L xs Q k pc' lv' st' h' c' s') : MW p l e R s m args below meth c D K b sz L xs Q k pc lv st h c0 s0 := by
  intro H locs ls hR hZ hL
  refine W_sz fun hle => ?_
  unfold s_newa at hs
  split at hs
  · next n st' =>
    split at hs
    · cases hs
    · next hf =>
      have hf1 : h.2.1 = false := by
        cases q : h.2.1
        · rfl
        · exact absurd (Or.inl q) hf
      have hn : ¬ n < 0 := fun q => hf (Or.inr (Or.inl q))
      have hn2 : n.toNatClampNeg ≤ 100 := Nat.not_lt.mp fun q => hf (Or.inr (Or.inr q))
      have hse : H.size = sz + h.1 := by have := hR.lo hsz; have := hZ hf1; omega
      have ea : ad b sz (h.1 + 1) = H.size := hse.symm
      split at hs
      · simp only [nx, Option.some.injEq] at hs
        have hB' := hB _ hs.symm
        refine va_newaK (atype := .int) hx hb (hts _ w_ci) rfl d rfl hn rfl (by show n.toNatClampNeg * 4 ≤ _; omega) hB'.1 hB'.2 rfl fun H1 cA e1 z1 o1 hAr hNm => ?_
        have hcA : K.1 = cA := Option.some.inj ((hK.2 0 (K.1, .int) rfl).2.symm.trans hNm)
        have hR1 : RH D K b sz L xs s.heap (hpush h (mI n.toNatClampNeg (fun _ => 0))) H1 locs := by
          refine hR.push hse z1 o1 ?_
          show H1[sz + h.1]? = some (arrV K.1 n.toNatClampNeg (fun _ => .int 0))
          rw [← hse, hcA]
          exact e1
        have h9 := kn _ _ _ _ _ _ _ hs.symm (Or.inl ⟨rfl, rfl⟩) H1 locs ls hR1 (fun _ => by show s.heap.size + (c0 + 1) = sz + (h.1 + 1); have := hZ hf1; omega) hL
        simp only [List.map_cons, cv, ea] at h9
        exact h9
      · cases hs
  · cases hs
theorem sd_ana (hx : p.tables.exec = Jvm.exec) (hb : c.code = m_b k) (hts : ∀ w ∈ lwg, w.before args s = true) (hown : s.vm.findClass (cnm (m_cn k)) = some m.cls) (hK : va_K D vwCl (tysK K) s) (hsz : sz ≤ s.heap.size) (hO : va_AO "PoleShop$Plant" s) {ix : Nat} (hE : (m_cn k, ix) ∈ anaT) (d : decode (m_b k) pc = .ok (.anewarray ix, 3)) (hs : s_ana (pc + 3) is lv st h c0 s0 = some o)
    (hB : ∀ g, o = .inl g → g.2.2.2.2.2.1 ≤ R.cells ∧ g.2.2.2.2.2.2 ≤ R.slots) (kn : ∀ pc' is' lv' st' h' c' s', o = .inl (pc', is', lv', st', h', c', s') → ((pc' = pc + 3 ∧ is' = is) ∨ is' = []) → MW p l e R s m args below meth c D K b sz L xs Q k pc' lv' st' h' c' s') : MW p l e R s m args below meth c D K b sz L xs Q k pc lv st h c0 s0 := by
  intro H locs ls hR hZ hL
  refine W_sz fun hle => ?_
  unfold s_ana at hs
  split at hs
  · next n st' =>
    split at hs
    · cases hs
    · next hf =>
      have hf1 : h.2.1 = false := by
        cases q : h.2.1
        · rfl
        · exact absurd (Or.inl q) hf
      have hn : ¬ n < 0 := fun q => hf (Or.inr (Or.inl q))
      have hn2 : n.toNatClampNeg ≤ 100 := Nat.not_lt.mp fun q => hf (Or.inr (Or.inr q))
      have hse : H.size = sz + h.1 := by have := hR.lo hsz; have := hZ hf1; omega
      have ea : ad b sz (h.1 + 1) = H.size := hse.symm
      simp only [nx, Option.some.injEq] at hs
      have hB' := hB _ hs.symm
      refine W.anew hx hb hown (hts _ (anaT_ok _ hE)) (va_AO.use hO) rfl d rfl hn (by omega) hB'.1 hB'.2 fun cA kA comp f1 f2 f3 f4 => ?_
      generalize hH1 : H.push ({ cls := cA, slots := Array.replicate n.toNatClampNeg .null, vm := .none } : Cell) = H1
      have z1 : H1.size = H.size + 1 := by rw [← hH1, Array.size_push]
      have e1 : H1[H.size]? = some (arrV cA n.toNatClampNeg (fun _ => .null)) := by rw [← hH1, Array.getElem?_push_size, ← arrV_new]
      have o1 : ∀ q : Nat, q < H.size → H1[q]? = H[q]? := fun q hq => by rw [← hH1, Array.getElem?_push, if_neg (Nat.ne_of_lt hq)]
      obtain ⟨kA', comp', -, -, -, r4⟩ := (hK.2 3 (K.2.2.2, .object "PoleShop$Plant") rfl).2
      have hcA : K.2.2.2 = cA := Option.some.inj (r4.symm.trans f1)
      have hR1 : RH D K b sz L xs s.heap (hpush h (mQ 1 n.toNatClampNeg (fun _ => none))) H1 locs := by
        refine hR.push hse z1 o1 ?_
        show H1[sz + h.1]? = some (arrV K.2.2.2 n.toNatClampNeg (fun _ => .null))
        rw [← hse, hcA]
        exact e1
      have h9 := kn _ _ _ _ _ _ _ hs.symm (Or.inl ⟨rfl, rfl⟩) H1 locs ls hR1 (fun _ => by show s.heap.size + (c0 + 1) = sz + (h.1 + 1); have := hZ hf1; omega) hL
      simp only [List.map_cons, cv, ea] at h9
      exact h9
  · cases hs
theorem g_outer (c : ClassId) (N h0 : Nat) : ∀ i : Nat, Jvm.Free.Multi.outerC c N h0 i = arrV c N (fun j => va_rf (if j < i then some (h0 + 1 + j) else none)) := vr_outer c N h0
theorem RH.grid {H0 H H1 : Heap} {locs : List Loc} {n m : Nat} (hR : RH D K b sz L xs H0 h H locs) (hs : H.size = sz + h.1) (z1 : H1.size = H.size + 1 + n) (o1 : ∀ q, q < H.size → H1[q]? = H[q]?) (e1 : H1[H.size]? = some (arrV K.2.2.1 n (fun j => va_rf (if j < n then some (H.size + 1 + j) else none)))) (e2 : ∀ j, j < n → H1[H.size + 1 + j]? = some (arrV K.1 m (fun _ => .int 0))) : RH D K b sz L xs H0 (hgrid h n m) H1 locs := by
  refine ⟨?_, ⟨Nat.le_trans hR.2.1.1 (by omega), fun q h1 h2 => (o1 q (Nat.lt_of_lt_of_le h1 hR.2.1.1)).trans (hR.2.1.2.1 q h1 h2), hR.2.1.2.2⟩, fun a y hy => ?_, ?_, ?_⟩
  · rw [← mkw_grid]
    refine ((hR.1.kept (fun k x hx => o1 x.1 ((hR.1 k x hx).lt))).app (fun k x hx => ?_)).app (fun k x hx => ?_)
    · have hz : k < 1 := (List.getElem?_eq_some_iff.mp hx).1
      rw [show k = 0 by omega] at hx
      cases hx
      show H1[sz + h.1]? = some (arrV K.2.2.1 n (fun j => va_rf ((if j < n then some (h.1 + 2 + j) else none).map (ad b sz))))
      rw [← hs, e1]
      refine congrArg (fun f => some (arrV K.2.2.1 n f)) (funext fun j => ?_)
      by_cases q : j < n
      · rw [if_pos q, if_pos q]
        show Value.ref _ = Value.ref (ad b sz (h.1 + 2 + j))
        have : ad b sz (h.1 + 2 + j) = sz + (h.1 + 1 + j) := by
          rw [show h.1 + 2 + j = (h.1 + 1 + j) + 1 by omega]
          rfl
        rw [this]
        exact congrArg _ (by omega)
      · rw [if_neg q, if_neg q]
        rfl
    · obtain ⟨i, hi, rfl⟩ := List.mem_map.mp (List.mem_of_getElem? hx)
      have hi := List.mem_range.mp hi
      show H1[sz + h.1 + 1 + i]? = some (arrV K.1 m (fun _ => .int 0))
      rw [← hs]
      exact e2 i hi
  · show a ≤ h.1 + 1 + n
    by_cases e : a = h.1 + 1
    · omega
    · by_cases e' : h.1 + 1 < a ∧ a ≤ h.1 + 1 + n
      · omega
      · have := hR.2.2.1 a y (by simpa [hgrid, e, e'] using hy)
        omega
  · have q1 : ¬ 0 = h.1 + 1 := by omega
    have q2 : ¬ (h.1 + 1 < 0 ∧ 0 ≤ h.1 + 1 + n) := by omega
    simp only [hgrid, q1, q2, if_false]
    exact hR.2.2.2.1
  · show sz + (h.1 + 1 + n) ≤ H1.size
    omega
theorem sd_mna (hx : p.tables.exec = Jvm.exec) (hb : c.code = m_b k) (hts : ∀ w ∈ lwg, w.before args s = true) (hown : s.vm.findClass (cnm (m_cn k)) = some m.cls) (hK : va_K D vwCl (tysK K) s) (hsz : sz ≤ s.heap.size) (hO : (Cond.arrayOver (.array .int)).before args s = true) {ix : Nat} (hE : (m_cn k, ix) ∈ mnaT) (d : decode (m_b k) pc = .ok (.multianewarray ix 2, 4)) (hs : s_mna (pc + 4) is lv st h c0 s0 = some o)
    (hB : ∀ g, o = .inl g → g.2.2.2.2.2.1 ≤ R.cells ∧ g.2.2.2.2.2.2 ≤ R.slots) (kn : ∀ pc' is' lv' st' h' c' s', o = .inl (pc', is', lv', st', h', c', s') → ((pc' = pc + 4 ∧ is' = is) ∨ is' = []) → MW p l e R s m args below meth c D K b sz L xs Q k pc' lv' st' h' c' s') : MW p l e R s m args below meth c D K b sz L xs Q k pc lv st h c0 s0 := by
  intro H locs ls hR hZ hL
  refine W_sz fun hle => ?_
  unfold s_mna at hs
  split at hs
  · next n2 n1 st' =>
    split at hs
    · cases hs
    · next hf =>
      have hf1 : h.2.1 = false := by
        cases q : h.2.1
        · rfl
        · exact absurd (Or.inl q) hf
      have hn : ¬ n1 < 0 := fun q => hf (Or.inr (Or.inl q))
      have hn2 : n1.toNatClampNeg ≤ 100 := Nat.not_lt.mp fun q => hf (Or.inr (Or.inr (Or.inl q)))
      have hm : ¬ n2 < 0 := fun q => hf (Or.inr (Or.inr (Or.inr (Or.inl q))))
      have hm2 : n2.toNatClampNeg ≤ 100 := Nat.not_lt.mp fun q => hf (Or.inr (Or.inr (Or.inr (Or.inr q))))
      have hse : H.size = sz + h.1 := by have := hR.lo hsz; have := hZ hf1; omega
      have ea : ad b sz (h.1 + 1) = H.size := hse.symm
      simp only [nx, Option.some.injEq] at hs
      have hB' := hB _ hs.symm
      intro T hT Xs
      obtain ⟨vm₁, cA, comp, -, fA, fC, hO9, -, X', st9⟩ := Xs.multianewarray2F (ty := .int) hx hown (hts _ (mnaT_ok _ hE)) hO (hts _ w_ci) (g := F0 m pc ls (.int n2 :: .int n1 :: st'.map (cv b sz))) rfl (by rw [hb]; exact d) rfl hn hm (by omega) (by show n2.toNatClampNeg * 4 ≤ _; omega) (by omega) rfl rfl (by have := hB'.1; simp only at this; omega) (by have := hB'.2; simp only at this; omega)
      have ec : comp = K.1 := Option.some.inj (fC.symm.trans (hK.2 0 (K.1, .int) rfl).2)
      have eA : cA = K.2.2.1 := Option.some.inj (fA.symm.trans (hK.2 2 (K.2.2.1, .array .int) rfl).2)
      subst ec
      subst eA
      generalize hF : Jvm.Free.Multi.fill (T.setVm vm₁) K.2.2.1 K.1 n1.toNatClampNeg n2.toNatClampNeg (defaultValue .int) n1.toNatClampNeg = F at X' st9
      have hTh : (T.setVm vm₁).heap = H := hT
      obtain ⟨f1, f2, -, -⟩ := Jvm.Free.Multi.fill_facts (T.setVm vm₁) K.2.2.1 K.1 n1.toNatClampNeg n2.toNatClampNeg (defaultValue .int) n1.toNatClampNeg
      rw [hF, hTh] at f1 f2
      have hold : ∀ x : Nat, x < H.size → F.heap[x]? = H[x]? := fun x hx => by
        have := Jvm.Free.Multi.fill_old (T.setVm vm₁) K.2.2.1 K.1 n1.toNatClampNeg n2.toNatClampNeg (defaultValue .int) (a := x) (by rw [hTh]; exact hx) n1.toNatClampNeg
        rw [hF, hTh] at this
        exact this
      have hrow : ∀ j : Nat, j < n1.toNatClampNeg → F.heap[H.size + 1 + j]? = some (arrV K.1 n2.toNatClampNeg (fun _ => .int 0)) := fun j hj => by
        have := Jvm.Free.Multi.fill_inner (T.setVm vm₁) K.2.2.1 K.1 n1.toNatClampNeg n2.toNatClampNeg (defaultValue .int) n1.toNatClampNeg j hj
        rw [hF, hTh] at this
        rw [this]
        show some ({ cls := K.1, slots := Array.replicate n2.toNatClampNeg (defaultValue .int), vm := .none } : Cell) = _
        rw [arrV_new]
        rfl
      rw [g_outer] at f2
      have hR1 : RH D K b sz L xs s.heap (hgrid h n1.toNatClampNeg n2.toNatClampNeg) F.heap locs := hR.grid hse (by rw [f1]) hold f2 hrow
      have h9 := kn _ _ _ _ _ _ _ hs.symm (Or.inl ⟨rfl, rfl⟩) F.heap locs ls hR1 (fun _ => by show s.heap.size + (c0 + 1 + n1.toNatClampNeg) = sz + (h.1 + 1 + n1.toNatClampNeg); have := hZ hf1; omega) hL
      simp only [List.map_cons, cv, ea] at h9
      obtain ⟨t, a1, b1⟩ := h9 F rfl X'
      have e9 : T.heap.size = H.size := by rw [hT]
      exact ⟨t, st9 t (by rw [e9]; exact a1), b1⟩
  · cases hs
end MA
