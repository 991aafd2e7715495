/-! Fields and arrays. -/
def tysK (K : KK) : List (ClassId × FieldType) := [(K.1, .int), (K.1, .int), (K.2.2.1, .array .int), (K.2.2.2, .object "PoleShop$Plant")]
theorem ad_ge {b sz : Nat} {a : Nat} (h : a ≠ 0) : sz ≤ ad b sz a := by
  cases a with
  | zero => exact absurd rfl h
  | succ j => exact Nat.le_add_right _ _
theorem vwlt {ci : Nat} {q : vw_C} (h : vwCl[ci]? = some q) : ci < 8 := (List.getElem?_eq_some_iff.mp h).1
theorem va_S.rfl2 {A : Nat → Prop} {H0 H : Heap} {locs : List Loc} (h : va_S A H0 H locs) : va_S A H H locs := ⟨Nat.le_refl _, fun _ _ _ => rfl, h.2.2⟩
theorem va_S.tr2 {A : Nat → Prop} {H0 H H1 : Heap} {locs locs1 : List Loc} (h : va_S A H0 H locs) (h' : va_S A H H1 locs1) : va_S A H0 H1 locs1 := ⟨Nat.le_trans h.1 h'.1, fun q h1 h2 => (h'.2.1 q (Nat.lt_of_lt_of_le h1 h.1) h2).trans (h.2.1 q h1 h2), h'.2.2⟩
theorem RH.rf {D : va_G} {K : KK} {b sz L : Nat} {xs : Nat → Int32} {H0 : Heap} {h : MH} {H : Heap} {locs : List Loc} (hR : RH D K b sz L xs H0 h H locs) : va_S (fun q => sz ≤ q) H H locs := hR.2.1.rfl2
theorem RH.up {D : va_G} {K : KK} {b sz L : Nat} {xs : Nat → Int32} {H0 H1 : Heap} {h : MH} {H : Heap} {locs locs1 : List Loc} {a : Nat} {x y : MC} (hR : RH D K b sz L xs H0 h H locs) (h0 : a ≠ 0) (hy : h.2.2 a = some y) (hP : va_P D vwCl ((mkw K b sz h).set (mps K b sz h a) (ad b sz a, ce K b sz (some x))) H1) (hS : va_S (fun q => sz ≤ q) H H1 locs1) : RH D K b sz L xs H0 (hup h a x) H1 locs1 := by
  have hN := hR.2.2.1 _ _ hy
  refine ⟨by rw [← mkw_set hy h0 hN]; exact hP, hR.2.1.tr2 hS, fun j y hj => ?_, ?_, Nat.le_trans hR.2.2.2.2 hS.1⟩
  · by_cases e : j = a
    · rw [e]; exact hN
    · exact hR.2.2.1 j y (by simpa [hup, e] using hj)
  · show (if 0 = a then some x else h.2.2 0) = _
    rw [if_neg (Ne.symm h0)]
    exact hR.2.2.2.1
section ME
variable {p : Program} {l : Launch} {e : Env} {R : Room} {s : State} {m : MethodId} {args : Array Value} {below : List Frame} {meth : Method} {c : Code} {D : va_G} {K : KK} {b sz L : Nat} {xs : Nat → Int32} {Q : State → Prop} {k : Nat}
variable {pc : Nat} {is : List Ent} {lv : List (Option Value)} {st : List Value} {h : MH} {c0 s0 : Nat} {o : Out}
theorem RH.ne0 {H0 : Heap} {H : Heap} {locs : List Loc} {a : Nat} {x : MC} (hR : RH D K b sz L xs H0 h H locs) (ha : h.2.2 a = some x) (hx : ∀ n f, x ≠ mI n f) : a ≠ 0 := by
  intro e
  subst e
  rw [hR.2.2.2.1] at ha
  exact hx _ _ (Option.some.inj ha).symm
set_option maxHeartbeats 1000000 in
theorem sd_getf (hx : p.tables.exec = Jvm.exec) (hb : c.code = m_b k) (hts : ∀ w ∈ lwg, w.before args s = true) (hown : s.vm.findClass (cnm (m_cn k)) = some m.cls) (hK : va_K D vwCl (tysK K) s) {ix x y : Nat} (hE : (m_cn k, ix, x, y) ∈ fldT) (d : decode (m_b k) pc = .ok (.getfield ix, 3)) (hs : s_getf x y (pc + 3) is lv st h c0 s0 = some o) (kn : ∀ pc' is' lv' st' h' c' s', o = .inl (pc', is', lv', st', h', c', s') → ((pc' = pc + 3 ∧ is' = is) ∨ is' = []) → MW p l e R s m args below meth c D K b sz L xs Q k pc' lv' st' h' c' s') : MW p l e R s m args below meth c D K b sz L xs Q k pc lv st h c0 s0 := by
  intro H locs ls hR hZ hL
  unfold s_getf at hs
  split at hs
  · next a st' =>
    split at hs
    · next ci fs ha =>
      split at hs
      · next hci =>
        split at hs
        · next v hv =>
          simp only [nx, Option.some.injEq] at hs
          subst hci
          obtain ⟨C, T, N, h1, h2, h3⟩ := fldT_ok _ hE
          obtain ⟨C', T', N', ty, g1, g2, g3, g4, -⟩ := cls_ok ci (vwlt h1)
          cases Option.some.inj (g1.symm.trans h1)
          have ha0 : a ≠ 0 := hR.ne0 ha (fun _ _ q => by cases q)
          exact va_get hx hb hts g4 hown hK hR.1 (mps K b sz h a) (mkw_get ha ha0 (hR.2.2.1 _ _ ha)) h1 y h2 (hts _ h3) (fun _ q => q) (v := cv b sz v) (by rw [List.getElem?_map, hv]; rfl) d (kn _ _ _ _ _ _ _ hs.symm (Or.inl ⟨rfl, rfl⟩) _ _ _ hR hZ hL)
        · cases hs
      · cases hs
    · cases hs
  · cases hs
set_option maxHeartbeats 1000000 in
theorem sd_putf (hx : p.tables.exec = Jvm.exec) (hb : c.code = m_b k) (hts : ∀ w ∈ lwg, w.before args s = true) (hown : s.vm.findClass (cnm (m_cn k)) = some m.cls) (hK : va_K D vwCl (tysK K) s) {ix x y z : Nat} (hE : (m_cn k, ix, x, y) ∈ fldT) (hF : (x, y, z) ∈ ftyT) (hG : z < 2 ∨ (m_kd k = 2 ∧ (m_cn k, x) ∈ cnciT)) (hin : m_kd k = 2 → meth.name = "<init>") (d : decode (m_b k) pc = .ok (.putfield ix, 3)) (hs : s_putf x y z (pc + 3) is lv st h c0 s0 = some o) (kn : ∀ pc' is' lv' st' h' c' s', o = .inl (pc', is', lv', st', h', c', s') → ((pc' = pc + 3 ∧ is' = is) ∨ is' = []) → MW p l e R s m args below meth c D K b sz L xs Q k pc' lv' st' h' c' s') : MW p l e R s m args below meth c D K b sz L xs Q k pc lv st h c0 s0 := by
  intro H locs ls hR hZ hL
  unfold s_putf at hs
  split at hs
  · next v a st' =>
    split at hs
    · next ci fs ha =>
      split at hs
      · next hci =>
        obtain ⟨hci, hyl, htv⟩ := hci
        simp only [nx, Option.some.injEq] at hs
        subst hci
        obtain ⟨C, T, N, h1, h2, h3⟩ := fldT_ok _ hE
        obtain ⟨C', T', N', ty, g1, g2, g3, g4, -⟩ := cls_ok ci (vwlt h1)
        cases Option.some.inj (g1.symm.trans h1)
        obtain ⟨C', T', N', f1, f2, f3, f4, f5⟩ := ftyT_ok _ hF
        cases Option.some.inj (f1.symm.trans h1)
        have ha0 : a ≠ 0 := hR.ne0 ha (fun _ _ q => by cases q)
        have haN := hR.2.2.1 _ _ ha
        obtain ⟨ty9, t1, t2, t3⟩ : ∃ ty9, parseFieldDescriptor (T y).2.2.1 = some ty9 ∧ narrow ty9 (cv b sz v) = cv b sz v ∧ fits ty9 (cv b sz v) = true := by
          cases v with
          | int w =>
            rcases f5 with ⟨-, f5⟩ | ⟨f5, -⟩
            · exact ⟨.int, f5, rfl, rfl⟩
            · simp only [tyv, beq_iff_eq] at htv
              exact absurd (f5.symm.trans htv) (by decide)
          | ref w =>
            rcases f5 with ⟨f5, -⟩ | ⟨-, ty9, q1, q2⟩
            · simp only [tyv, beq_iff_eq] at htv
              exact absurd (f5.symm.trans htv) (by decide)
            · exact ⟨ty9, q1, (q2 _).1, (q2 _).2⟩
          | _ => simp [tyv] at htv
        have e9 : ce K b sz (some (mO ci (fs.set y v))) = .inr (ci, (fs.map (cv b sz)).set y (cv b sz v)) := by
          show Sum.inr (ci, (fs.set y v).map (cv b sz)) = _
          rw [List.map_set]
        rcases Nat.lt_or_ge z 2 with hz | hz
        · refine va_put hx hb hts g4 ty g2 g3 hown hK hR.1 mkw_D hR.rf (mps K b sz h a) (mkw_get ha ha0 haN) h1 y h2 (hts _ h3) (fun _ q => q) (by rw [f4]; exact decide_eq_false (Nat.not_le.mpr hz)) t1 t2 t3 (by rw [List.length_map]; exact hyl) d (fun H1 locs1 hP1 hD1 hS1 => ?_)
          rw [← e9] at hP1
          exact kn _ _ _ _ _ _ _ hs.symm (Or.inl ⟨rfl, rfl⟩) _ _ _ (hR.up ha0 ha hP1 hS1) hZ hL
        · obtain ⟨hkd, hcn⟩ := hG.resolve_left (by omega)
          obtain ⟨T9, N9, q9⟩ := cnciT_ok _ hcn
          cases Option.some.inj (h1.symm.trans q9)
          refine va_putF hx hb hts g4 ty g2 g3 hown hK hR.1 mkw_D hR.rf (mps K b sz h a) (mkw_get ha ha0 haN) h1 y h2 (hts _ h3) (fun _ q => q) (by rw [f4]; exact decide_eq_true hz) (hin hkd) f3 t1 t2 t3 (by rw [List.length_map]; exact hyl) d (fun H1 locs1 hP1 hD1 hS1 => ?_)
          rw [← e9] at hP1
          exact kn _ _ _ _ _ _ _ hs.symm (Or.inl ⟨rfl, rfl⟩) _ _ _ (hR.up ha0 ha hP1 hS1) hZ hL
      · cases hs
    · cases hs
  · cases hs
set_option maxHeartbeats 1000000 in
theorem sd_iald (hx : p.tables.exec = Jvm.exec) (hb : c.code = m_b k) (hts : ∀ w ∈ lwg, w.before args s = true) (hown : s.vm.findClass (cnm (m_cn k)) = some m.cls) (hK : va_K D vwCl (tysK K) s) (hX : va_X b L xs s s.heap) (hbl : b < s.heap.size) (hbs : b < sz) (d : decode (m_b k) pc = .ok (.iaload, 1)) (hs : s_iald (pc + 1) is lv st h c0 s0 = some o) (kn : ∀ pc' is' lv' st' h' c' s', o = .inl (pc', is', lv', st', h', c', s') → ((pc' = pc + 1 ∧ is' = is) ∨ is' = []) → MW p l e R s m args below meth c D K b sz L xs Q k pc' lv' st' h' c' s') : MW p l e R s m args below meth c D K b sz L xs Q k pc lv st h c0 s0 := by
  intro H locs ls hR hZ hL
  unfold s_iald at hs
  split at hs
  · next i a st' =>
    split at hs
    · next n f ha =>
      split at hs
      · cases hs
      · next hi =>
        simp only [nx, Option.some.injEq] at hs
        by_cases ha0 : a = 0
        · subst ha0
          rw [hR.2.2.2.1] at ha
          cases ha
          exact va_sld hx hb hX hbl (Nat.not_le.mpr hbs) hR.2.1 hi d (kn _ _ _ _ _ _ _ hs.symm (Or.inl ⟨rfl, rfl⟩) _ _ _ hR hZ hL)
        · exact va_iald (tys := tysK K) hx hb hK hR.1 (mps K b sz h a) 0 (mkw_get ha ha0 (hR.2.2.1 _ _ ha)) rfl hi d (kn _ _ _ _ _ _ _ hs.symm (Or.inl ⟨rfl, rfl⟩) _ _ _ hR hZ hL)
    · cases hs
  · cases hs
set_option maxHeartbeats 1000000 in
theorem sd_alen (hx : p.tables.exec = Jvm.exec) (hb : c.code = m_b k) (hts : ∀ w ∈ lwg, w.before args s = true) (hown : s.vm.findClass (cnm (m_cn k)) = some m.cls) (hK : va_K D vwCl (tysK K) s) (hX : va_X b L xs s s.heap) (hbl : b < s.heap.size) (hbs : b < sz) (d : decode (m_b k) pc = .ok (.arraylength, 1)) (hs : s_alen (pc + 1) is lv st h c0 s0 = some o) (kn : ∀ pc' is' lv' st' h' c' s', o = .inl (pc', is', lv', st', h', c', s') → ((pc' = pc + 1 ∧ is' = is) ∨ is' = []) → MW p l e R s m args below meth c D K b sz L xs Q k pc' lv' st' h' c' s') : MW p l e R s m args below meth c D K b sz L xs Q k pc lv st h c0 s0 := by
  intro H locs ls hR hZ hL
  unfold s_alen at hs
  split at hs
  · next a st' =>
    split at hs
    · next n f ha =>
      simp only [nx, Option.some.injEq] at hs
      by_cases ha0 : a = 0
      · subst ha0
        rw [hR.2.2.2.1] at ha
        cases ha
        exact va_slen hx hb hX hbl (Nat.not_le.mpr hbs) hR.2.1 d (kn _ _ _ _ _ _ _ hs.symm (Or.inl ⟨rfl, rfl⟩) _ _ _ hR hZ hL)
      · exact va_alen (tys := tysK K) hx hb hK hR.1 (mps K b sz h a) 0 (mkw_get ha ha0 (hR.2.2.1 _ _ ha)) rfl rfl d (kn _ _ _ _ _ _ _ hs.symm (Or.inl ⟨rfl, rfl⟩) _ _ _ hR hZ hL)
    · cases hs
  · cases hs
set_option maxHeartbeats 1000000 in
theorem sd_iast (hx : p.tables.exec = Jvm.exec) (hb : c.code = m_b k) (hts : ∀ w ∈ lwg, w.before args s = true) (hown : s.vm.findClass (cnm (m_cn k)) = some m.cls) (hK : va_K D vwCl (tysK K) s) (d : decode (m_b k) pc = .ok (.iastore, 1)) (hs : s_iast (pc + 1) is lv st h c0 s0 = some o) (kn : ∀ pc' is' lv' st' h' c' s', o = .inl (pc', is', lv', st', h', c', s') → ((pc' = pc + 1 ∧ is' = is) ∨ is' = []) → MW p l e R s m args below meth c D K b sz L xs Q k pc' lv' st' h' c' s') : MW p l e R s m args below meth c D K b sz L xs Q k pc lv st h c0 s0 := by
  intro H locs ls hR hZ hL
  unfold s_iast at hs
  split at hs
  · next x i a st' =>
    split at hs
    · cases hs
    · next ha0 =>
      split at hs
      · next n f ha =>
        split at hs
        · cases hs
        · next hi =>
          simp only [nx, Option.some.injEq] at hs
          exact va_iast (tys := tysK K) hx hb hK hR.1 mkw_D hR.rf (mps K b sz h a) 0 (mkw_get ha ha0 (hR.2.2.1 _ _ ha)) rfl hi d (fun H1 locs1 hP1 hD1 hS1 => kn _ _ _ _ _ _ _ hs.symm (Or.inl ⟨rfl, rfl⟩) _ _ _ (hR.up ha0 ha hP1 hS1) hZ hL)
      · cases hs
  · cases hs
/-- what a place of an array of references holds -/
theorem mq_at {H : Heap} {locs : List Loc} {H0 : Heap} {a t n : Nat} {g : Nat → Option Nat} (hR : RH D K b sz L xs H0 h H locs) (ha : h.2.2 a = some (mQ t n g)) : H[ad b sz a]? = some (arrV (if t = 0 then K.2.2.1 else K.2.2.2) n (fun j => va_rf ((g j).map (ad b sz)))) := by
  have ha0 : a ≠ 0 := hR.ne0 ha (fun _ _ q => by cases q)
  exact hR.1 (mps K b sz h a) _ (mkw_get ha ha0 (hR.2.2.1 _ _ ha))
theorem mq_arr {t : Nat} (hK : va_K D vwCl (tysK K) s) : ∃ ty, ty.isReference = true ∧ ArrOfT s (if t = 0 then K.2.2.1 else K.2.2.2) ty := by
  by_cases e : t = 0
  · rw [if_pos e]
    exact ⟨.array .int, rfl, (hK.2 2 (K.2.2.1, .array .int) rfl).1⟩
  · rw [if_neg e]
    exact ⟨.object "PoleShop$Plant", rfl, (hK.2 3 (K.2.2.2, .object "PoleShop$Plant") rfl).1⟩
set_option maxHeartbeats 1000000 in
theorem sd_aald (hx : p.tables.exec = Jvm.exec) (hb : c.code = m_b k) (hts : ∀ w ∈ lwg, w.before args s = true) (hown : s.vm.findClass (cnm (m_cn k)) = some m.cls) (hK : va_K D vwCl (tysK K) s) (d : decode (m_b k) pc = .ok (.aaload, 1)) (hs : s_aald (pc + 1) is lv st h c0 s0 = some o) (kn : ∀ pc' is' lv' st' h' c' s', o = .inl (pc', is', lv', st', h', c', s') → ((pc' = pc + 1 ∧ is' = is) ∨ is' = []) → MW p l e R s m args below meth c D K b sz L xs Q k pc' lv' st' h' c' s') : MW p l e R s m args below meth c D K b sz L xs Q k pc lv st h c0 s0 := by
  intro H locs ls hR hZ hL
  unfold s_aald at hs
  split at hs
  · next i a st' =>
    split at hs
    · next t n g ha =>
      split at hs
      · cases hs
      · next hi =>
        split at hs
        · next q hq =>
          simp only [nx, Option.some.injEq] at hs
          obtain ⟨ty, t1, t2⟩ := mq_arr (t := t) hK
          have hlt : i.toNatClampNeg < n := Nat.not_le.mp fun q => hi (Or.inr q)
          refine W.aald (v := .ref (ad b sz q)) (ty := ty) hx hb (mq_at hR ha) (t2 n (fun j => va_rf ((g j).map (ad b sz)))) t1 (fun q => by cases q) (by rw [arrV_size]; exact hi) ?_ rfl rfl d (kn _ _ _ _ _ _ _ hs.symm (Or.inl ⟨rfl, rfl⟩) _ _ _ hR hZ hL)
          rw [arrV_read _ _ hlt, hq]
          rfl
        · cases hs
    · cases hs
  · cases hs
theorem ce_q {K : KK} {b sz t n : Nat} {g : Nat → Option Nat} : vp_cell (if t = 0 then K.2.2.1 else K.2.2.2) (n, .inr (.inr (.inr (.inr (fun j => (g j).map (ad b sz)))))) = arrV (if t = 0 then K.2.2.1 else K.2.2.2) n (fun j => va_rf ((g j).map (ad b sz))) := rfl
theorem up_q {b sz q i : Nat} {g : Nat → Option Nat} : (fun j => va_rf ((va_up g i (some q) j).map (ad b sz))) = updV (fun j => va_rf ((g j).map (ad b sz))) i (.ref (ad b sz q)) := by
  funext j
  by_cases e : j = i
  · simp [va_up, updV, e, va_rf]
  · simp [va_up, updV, e]
set_option maxHeartbeats 1000000 in
theorem sd_aast (hx : p.tables.exec = Jvm.exec) (hb : c.code = m_b k) (hts : ∀ w ∈ lwg, w.before args s = true) (hown : s.vm.findClass (cnm (m_cn k)) = some m.cls) (hK : va_K D vwCl (tysK K) s) (hA : ∃ kA kI, s.vm.classes[K.2.2.1]? = some kA ∧ kA.kind = .array K.1 (.array .int) ∧ s.vm.classes[K.1]? = some kI ∧ s.vm.assignable K.1 K.1 = true) (d : decode (m_b k) pc = .ok (.aastore, 1)) (hs : s_aast (pc + 1) is lv st h c0 s0 = some o) (kn : ∀ pc' is' lv' st' h' c' s', o = .inl (pc', is', lv', st', h', c', s') → ((pc' = pc + 1 ∧ is' = is) ∨ is' = []) → MW p l e R s m args below meth c D K b sz L xs Q k pc' lv' st' h' c' s') : MW p l e R s m args below meth c D K b sz L xs Q k pc lv st h c0 s0 := by
  intro H locs ls hR hZ hL
  unfold s_aast at hs
  split at hs
  · next q i a st' =>
    split at hs
    · next t n g ha =>
      split at hs
      · cases hs
      · next hi =>
        have hi1 : ¬ i < 0 := fun z => hi (Or.inl z)
        have hi2 : i.toNatClampNeg < n := Nat.not_le.mp fun z => hi (Or.inr (Or.inl z))
        have hq0 : q ≠ 0 := fun z => hi (Or.inr (Or.inr z))
        have ha0 : a ≠ 0 := hR.ne0 ha (fun _ _ q => by cases q)
        have haN := hR.2.2.1 _ _ ha
        have key : ∀ (kA kv kC : Class) (comp : ClassId) (cellV : Cell) (ty : FieldType), s.vm.classes[(if t = 0 then K.2.2.1 else K.2.2.2)]? = some kA → kA.kind = .array comp ty → ty.isReference = true → s.vm.classes[comp]? = some kC → H[ad b sz q]? = some cellV → (∀ z, cellV.vm ≠ .statics z) → s.vm.classes[cellV.cls]? = some kv → s.vm.assignable cellV.cls comp = true → o = .inl (pc + 1, is, lv, st', hup h a (mQ t n (va_up g i.toNatClampNeg (some q))), c0, s0) → W p l e R s m args below meth c H locs c0 s0 Q (F0 m pc ls ((.ref q :: .int i :: .ref a :: st').map (cv b sz))) := by
          intro kA kv kC comp cellV ty k1 k2 k3 k4 k5 k6 k7 k8 ho
          refine W.aast hx hb (mq_at hR ha) (fun q h => by cases h) (fun h => by cases h) k1 k2 k3 k4 ⟨hi1, by rw [arrV_size]; exact hi2⟩ k5 k6 k7 k8 rfl rfl d fun H1 e1 z1 oq => ?_
          refine kn _ _ _ _ _ _ _ ho (Or.inl ⟨rfl, rfl⟩) H1 _ ls (hR.up ha0 ha (hR.1.set mkw_D (mkw_get ha ha0 haN) ?_ oq) (hR.rf.put z1 oq (ad_ge ha0))) hZ hL
          show H1[ad b sz a]? = some (vp_cell (if t = 0 then K.2.2.1 else K.2.2.2) (n, .inr (.inr (.inr (.inr (fun j => (va_up g i.toNatClampNeg (some q) j).map (ad b sz)))))))
          rw [e1, arrV_store, ce_q, up_q]
        split at hs
        · next ci fs hv =>
          split at hs
          · next htc =>
            obtain ⟨rfl, rfl⟩ := htc
            simp only [nx, Option.some.injEq] at hs
            obtain ⟨r', hr', cellV, g1, g2, g3, -⟩ := hR.1 (mps K b sz h q) _ (mkw_get hv hq0 (hR.2.2.1 _ _ hv))
            cases hr'
            have hcls := (hK.1 3 _ rfl).2
            obtain ⟨kA, comp, k1, k2, k3, -⟩ := (hK.2 3 (K.2.2.2, .object "PoleShop$Plant") rfl).2
            have hcomp : comp = D.1 3 := Option.some.inj (k3.symm.trans hcls.1)
            subst hcomp
            obtain ⟨kC, hkC, -⟩ := hcls.2
            exact key kA kC kC (D.1 3) cellV _ k1 k2 rfl hkC g1 (fun q h => by rw [g3] at h; cases h) (by rw [g2]; exact hkC) (by rw [g2]; exact va_assign hcls) hs.symm
          · cases hs
        · next p9 hv =>
          obtain ⟨n9, f9⟩ := p9
          split at hs
          · next htc =>
            subst htc
            simp only [nx, Option.some.injEq] at hs
            have hv2 : H[ad b sz q]? = some (arrV K.1 n9 (fun j => .int (f9 j))) := hR.1 (mps K b sz h q) _ (mkw_get hv hq0 (hR.2.2.1 _ _ hv))
            obtain ⟨kA, kI, k1, k2, k3, k4⟩ := hA
            exact key kA kI kI K.1 _ _ k1 k2 rfl k3 hv2 (fun q h => by cases h) k3 k4 hs.symm
          · cases hs
        · cases hs
    · cases hs
  · cases hs
end ME
