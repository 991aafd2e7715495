/-! THE CONSTRUCTORS: cells are made one after another. -/
/-- the first K cells -/
def rst (K : Nat) (h : MH) : MH := (K, false, fun j => if j ≤ K then h.2.2 j else none)
def pset (p : M2) (a : Nat) (g : Nat → Option Nat) : M2 := fun c => if c = a then g else p c
/-- nothing stands behind the first K cells -/
def Df (K : Nat) (m : M1) (p : M2) : Prop := ∀ b, K < b → (∀ j, m b j = 0) ∧ ∀ j, p b j = none
theorem Df_mono {K K' : Nat} {m : M1} {p : M2} (h : Df K m p) (hK : K ≤ K') : Df K' m p := fun b hb => h b (Nat.lt_of_le_of_lt hK hb)
theorem Df_w2 {K a y : Nat} {q : Option Nat} {m : M1} {p : M2} (h : Df K m p) (ha : a ≤ K) : Df K m (w2 p a y q) := fun b hb => ⟨(h b hb).1, fun j => by rw [w2_ne (by omega)]; exact (h b hb).2 j⟩
theorem Df_w1 {K a y : Nat} {q : F} {m : M1} {p : M2} (h : Df K m p) (ha : a ≤ K) : Df K (w1 m a y q) p := fun b hb => ⟨fun j => by rw [w1_ne (by omega)]; exact (h b hb).1 j, (h b hb).2⟩
theorem Df_ps {K K' a : Nat} {g : Nat → Option Nat} {m : M1} {p : M2} (h : Df K m p) (hK : K ≤ K') (ha : a ≤ K') : Df K' m (pset p a g) := fun b hb => ⟨(h b (by omega)).1, fun j => by unfold pset; rw [if_neg (by omega)]; exact (h b (by omega)).2 j⟩
theorem flds_df {x a : Nat} {m : M1} {p : M2} (hx : x < 8) (hm : ∀ j, m a j = 0) (hp : ∀ j, p a j = none) : flds x a (m, p) = dfl x := by
  have e : flds x a (m, p) = (sf x).zipIdx.map (fun q => if q.1 then va_rf none else .int (iI (vF 0))) := by
    unfold flds
    simp only [hm, hp]
  rw [e]
  rcases (show x = 0 ∨ x = 1 ∨ x = 2 ∨ x = 3 ∨ x = 4 ∨ x = 5 ∨ x = 6 ∨ x = 7 by omega) with rfl | rfl | rfl | rfl | rfl | rfl | rfl | rfl <;> rfl
theorem rst_at {K a : Nat} {h : MH} (ha : a ≤ K) : (rst K h).2.2 a = h.2.2 a := if_pos ha
theorem rst_up {K a : Nat} {h : MH} {x : MC} (ha : a ≤ K) : hup (rst K h) a x = rst K (hup h a x) := by
  unfold hup rst
  refine congrArg (fun f => (K, false, f)) (funext fun j => ?_)
  show (if j = a then some x else if j ≤ K then h.2.2 j else none) = if j ≤ K then (if j = a then some x else h.2.2 j) else none
  by_cases e : j = a
  · rw [if_pos e, if_pos (by omega), if_pos e]
  · rw [if_neg e]
    by_cases q : j ≤ K
    · rw [if_pos q, if_pos q, if_neg e]
    · rw [if_neg q, if_neg q]
theorem rst_push {K : Nat} {S : Env} {M : Mem} {x : MC} (hK1 : K + 1 ≤ 260) (hx : cellM (SH (K + 1)) M (K + 1) = some x) : hpush (rst K (hpM S false M)) x = rst (K + 1) (hpM S false M) := by
  unfold hpush rst
  refine congrArg (fun f => (K + 1, false, f)) (funext fun j => ?_)
  show (if j = K + 1 then some x else if j ≤ K then (hpM S false M).2.2 j else none) = if j ≤ K + 1 then (hpM S false M).2.2 j else none
  by_cases e : j = K + 1
  · rw [if_pos e, if_pos (by omega), e, hpM_at (by omega), hx]
  · rw [if_neg e]
    by_cases q : j ≤ K
    · rw [if_pos q, if_pos (by omega)]
    · rw [if_neg q, if_neg (by omega)]
def grd (K n : Nat) (i : Nat) : Option Nat := if i < n then some (K + 2 + i) else none
theorem rst_grid {K n w : Nat} {S : Env} {m : M1} {p : M2} (hD : Df K m p) (hs : SH (K + 1) = (3, n)) (hr : ∀ i, i < n → SH (K + 2 + i) = (1, w)) : hgrid (rst K (hpM S false (m, p))) n w = rst (K + 1 + n) (hpM S false (m, pset p (K + 1) (grd K n))) := by
  unfold hgrid rst
  refine congrArg (fun f => (K + 1 + n, false, f)) (funext fun j => ?_)
  show (if j = K + 1 then some (mQ 0 n (grd K n)) else if K + 1 < j ∧ j ≤ K + 1 + n then some (mI w (fun _ => 0)) else if j ≤ K then (hpM S false (m, p)).2.2 j else none) = if j ≤ K + 1 + n then (hpM S false (m, pset p (K + 1) (grd K n))).2.2 j else none
  by_cases e : j = K + 1
  · rw [if_pos e, if_pos (by omega), e, hpM_at (SH_n0 hs (by decide)), hs]
    show _ = some (mQ 0 n (pset p (K + 1) (grd K n) (K + 1)))
    unfold pset
    rw [if_pos rfl]
  · rw [if_neg e]
    by_cases q : K + 1 < j ∧ j ≤ K + 1 + n
    · have h9 := hr (j - (K + 2)) (by omega)
      rw [show K + 2 + (j - (K + 2)) = j by omega] at h9
      rw [if_pos q, if_pos q.2, hpM_at (SH_n0 h9 (by decide)), h9]
      show _ = some (mI w (fun i => iI (vF (m j i))))
      refine congrArg (fun f => some (mI w f)) (funext fun i => ?_)
      rw [(hD j (by omega)).1 i]
      rfl
    · rw [if_neg q]
      by_cases q2 : j ≤ K
      · rw [if_pos q2, if_pos (by omega)]
        show (if 1 ≤ j ∧ j ≤ 260 then cellM (SH j) (m, p) j else S.2 j) = if 1 ≤ j ∧ j ≤ 260 then cellM (SH j) (m, pset p (K + 1) (grd K n)) j else S.2 j
        have e9 : pset p (K + 1) (grd K n) j = p j := if_neg e
        simp only [cellM, flds, e9]
      · rw [if_neg q2, if_neg (by omega)]
section
variable {C : Nat → List Value → MH → Res → Prop} {k : Nat} {r : Res} {pc x y z : Nat} {is : List Ent} {lv : List (Option Value)} {st : List Value} {c s K : Nat} {S : Env} {m : M1} {p : M2} {h : MH}
theorem rk_obj {ix a : Nat} (hr : (st.map fun v => v.category).sum ≤ 8) (n : Rn C k (pc + 3, is, lv, st, h, c, s) r) : Rn C k (pc, (.invokespecial ix, 3, 9999, 0, z) :: is, lv, .ref a :: st, h, c, s) r := rn_next (by
  show s_invI 9999 0 (pc + 3) is lv (.ref a :: st) h c s = _
  unfold s_invI
  show (if (st.map fun v => v.category).sum ≤ 8 then nx (pc + 3) is lv st h c s else none) = _
  rw [if_pos hr]
  rfl) n
theorem rk_inv {ix a : Nat} {ar rest : List Value} {v : Option Value} {h' : MH} {c' s' : Nat} (hx : x ≠ 9999) (hq : C x (.ref a :: ar) h (.inl v, h', c', s')) (hst : st = (.ref a :: ar).reverse ++ rest) (hm : ar.length = y) (ha : okar (.ref a :: ar)) (hr : (rest.map fun v => v.category).sum ≤ 8) (n : Rn C k (pc + 3, is, lv, v.toList ++ rest, h', c + c', s + s') r) : Rn C k (pc, (.invokespecial ix, 3, x, y, z) :: is, lv, st, h, c, s) r := rn_call (by
  show s_invI x y (pc + 3) is lv st h c s = _
  have e1 : st[y]? = some (.ref a) := by
    rw [hst, ← hm, List.reverse_cons, List.append_assoc, List.getElem?_append_right (by rw [List.length_reverse]; exact Nat.le_refl _), List.length_reverse, Nat.sub_self]
    rfl
  unfold s_invI
  simp only [e1]
  rw [if_neg hx]
  exact inv_eq hst (by show ar.length + 1 = y + 1; rw [hm]) ha hr) hq n
theorem rk_new {ix : Nat} (hx : x < 8) (hs : SH (K + 1) = (10 + x, 0)) (hD : Df K m p) (n : Rn C k (pc + 3, is, lv, .ref (K + 1) :: st, rst (K + 1) (hpM S false (m, p)), c + 1, s + (dfl x).length) r) : Rn C k (pc, (.new ix, 3, x, y, z) :: is, lv, st, rst K (hpM S false (m, p)), c, s) r := rn_next (by
  show s_new (m_cn k) ix x (pc + 3) is lv st (rst K (hpM S false (m, p))) c s = _
  unfold s_new
  rw [if_pos hx]
  refine (if_neg (show ¬ (false = true) by decide)).trans ?_
  show nx (pc + 3) is lv (.ref (K + 1) :: st) (hpush (rst K (hpM S false (m, p))) (mO x (dfl x))) (c + 1) (s + (dfl x).length) = _
  have h9 := hD (K + 1) (by omega)
  rw [rst_push (SH_n0 hs (by omega)).2 (by
    rw [hs, ← flds_df hx h9.1 h9.2]
    have h1 : ¬ 10 + x = 1 := by omega
    have h2 : ¬ 10 + x = 2 := by omega
    have h3 : ¬ 10 + x = 3 := by omega
    have h4 : ¬ 10 + x = 4 := by omega
    have h5 : 10 ≤ 10 + x := by omega
    have h6 : 10 + x - 10 = x := by omega
    simp only [cellM, h1, h2, h3, h4, h5, h6, if_false, if_true])]
  rfl) n
theorem rk_newaI {n : Nat} (hn : n ≤ 100) (hs : SH (K + 1) = (1, n)) (hD : Df K m p) (nn : Rn C k (pc + 2, is, lv, .ref (K + 1) :: st, rst (K + 1) (hpM S false (m, p)), c + 1, s + n) r) : Rn C k (pc, (.newarray .int, 2, x, y, z) :: is, lv, .int (iI (n : Int)) :: st, rst K (hpM S false (m, p)), c, s) r := rn_next (by
  show s_newa .int (pc + 2) is lv (.int (iI (n : Int)) :: st) (rst K (hpM S false (m, p))) c s = _
  unfold s_newa
  have h9 := hD (K + 1) (by omega)
  have h0 : ¬ ((rst K (hpM S false (m, p))).2.1 = true ∨ iI (n : Int) < 0 ∨ 100 < (iI (n : Int)).toNatClampNeg) := by
    rw [iI_clamp (by omega), show (0 : Int32) = iI 0 from rfl, iI_lt ⟨by omega, by omega⟩ ⟨by omega, by omega⟩]
    show ¬ (false = true ∨ _)
    simp only [Bool.false_eq_true, false_or]
    omega
  refine (if_neg h0).trans ?_
  show nx (pc + 2) is lv (.ref (K + 1) :: st) (hpush (rst K (hpM S false (m, p))) (mI (iI (n : Int)).toNatClampNeg (fun _ => 0))) (c + 1) (s + (iI (n : Int)).toNatClampNeg) = _
  rw [iI_clamp (show n < 2147483648 by omega), rst_push (SH_n0 hs (by decide)).2 (by
    rw [hs]
    show some (mI n (fun i => iI (vF (m (K + 1) i)))) = _
    exact congrArg (fun f => some (mI n f)) (funext fun i => by rw [h9.1 i]; rfl))]
  rfl) nn
theorem rk_ana {ix n : Nat} (hn : n ≤ 100) (hs : SH (K + 1) = (4, n)) (hD : Df K m p) (nn : Rn C k (pc + 3, is, lv, .ref (K + 1) :: st, rst (K + 1) (hpM S false (m, p)), c + 1, s + n) r) : Rn C k (pc, (.anewarray ix, 3, x, y, z) :: is, lv, .int (iI (n : Int)) :: st, rst K (hpM S false (m, p)), c, s) r := rn_next (by
  show s_ana (pc + 3) is lv (.int (iI (n : Int)) :: st) (rst K (hpM S false (m, p))) c s = _
  unfold s_ana
  have h9 := hD (K + 1) (by omega)
  have h0 : ¬ ((rst K (hpM S false (m, p))).2.1 = true ∨ iI (n : Int) < 0 ∨ 100 < (iI (n : Int)).toNatClampNeg) := by
    rw [iI_clamp (by omega), show (0 : Int32) = iI 0 from rfl, iI_lt ⟨by omega, by omega⟩ ⟨by omega, by omega⟩]
    show ¬ (false = true ∨ _)
    simp only [Bool.false_eq_true, false_or]
    omega
  refine (if_neg h0).trans ?_
  show nx (pc + 3) is lv (.ref (K + 1) :: st) (hpush (rst K (hpM S false (m, p))) (mQ 1 (iI (n : Int)).toNatClampNeg (fun _ => none))) (c + 1) (s + (iI (n : Int)).toNatClampNeg) = _
  rw [iI_clamp (show n < 2147483648 by omega), rst_push (SH_n0 hs (by decide)).2 (by
    rw [hs]
    show some (mQ 1 n (p (K + 1))) = _
    exact congrArg (fun f => some (mQ 1 n f)) (funext fun i => h9.2 i))]
  rfl) nn
theorem rk_mna {ix d9 n w : Nat} (hn : n ≤ 100) (hw : w ≤ 100) (hs : SH (K + 1) = (3, n)) (hr : ∀ i, i < n → SH (K + 2 + i) = (1, w)) (hD : Df K m p) (nn : Rn C k (pc + 4, is, lv, .ref (K + 1) :: st, rst (K + 1 + n) (hpM S false (m, pset p (K + 1) (grd K n))), c + 1 + n, s + n + n * w) r) : Rn C k (pc, (.multianewarray ix d9, 4, x, y, z) :: is, lv, .int (iI (w : Int)) :: .int (iI (n : Int)) :: st, rst K (hpM S false (m, p)), c, s) r := rn_next (by
  show s_mna (pc + 4) is lv (.int (iI (w : Int)) :: .int (iI (n : Int)) :: st) (rst K (hpM S false (m, p))) c s = _
  unfold s_mna
  have h0 : ¬ ((rst K (hpM S false (m, p))).2.1 = true ∨ iI (n : Int) < 0 ∨ 100 < (iI (n : Int)).toNatClampNeg ∨ iI (w : Int) < 0 ∨ 100 < (iI (w : Int)).toNatClampNeg) := by
    rw [iI_clamp (by omega), iI_clamp (by omega), show (0 : Int32) = iI 0 from rfl, iI_lt ⟨by omega, by omega⟩ ⟨by omega, by omega⟩, iI_lt ⟨by omega, by omega⟩ ⟨by omega, by omega⟩]
    show ¬ (false = true ∨ _)
    simp only [Bool.false_eq_true, false_or]
    omega
  refine (if_neg h0).trans ?_
  show nx (pc + 4) is lv (.ref (K + 1) :: st) (hgrid (rst K (hpM S false (m, p))) (iI (n : Int)).toNatClampNeg (iI (w : Int)).toNatClampNeg) (c + 1 + (iI (n : Int)).toNatClampNeg) (s + (iI (n : Int)).toNatClampNeg + (iI (n : Int)).toNatClampNeg * (iI (w : Int)).toNatClampNeg) = _
  rw [iI_clamp (show n < 2147483648 by omega), iI_clamp (show w < 2147483648 by omega), rst_grid hD hs hr]
  rfl) nn
theorem rk_putR {ix a ci w q : Nat} (ha : a ≤ K) (hs : SH a = (10 + ci, w)) (hf : (sf ci)[y]? = some true) (hz : z % 2 = 1) (n : Rn C k (pc + 3, is, lv, st, rst K (hpM S false (m, w2 p a y (some q))), c, s) r) : Rn C k (pc, (.putfield ix, 3, ci, y, z) :: is, lv, .ref q :: .ref a :: st, rst K (hpM S false (m, p)), c, s) r := rn_next (by
  simp only [step, stepI]
  have hl : y < (flds ci a (m, p)).length := by rw [flds_len]; exact (List.getElem?_eq_some_iff.mp hf).1
  simp only [s_putf, rst_at ha, hp_obj hs, hl, tyv, hz, rst_up ha, hup_F2 hs hf, nx]
  rfl) n
theorem rk_putI {ix a ci w : Nat} {v : Int} {xx : F} (ha : a ≤ K) (hs : SH a = (10 + ci, w)) (hf : (sf ci)[y]? = some false) (hz : z % 2 = 0) (hv : v = vF xx) (n : Rn C k (pc + 3, is, lv, st, rst K (hpM S false (w1 m a y xx, p)), c, s) r) : Rn C k (pc, (.putfield ix, 3, ci, y, z) :: is, lv, .int (iI v) :: .ref a :: st, rst K (hpM S false (m, p)), c, s) r := rn_next (by
  subst hv
  simp only [step, stepI]
  have hl : y < (flds ci a (m, p)).length := by rw [flds_len]; exact (List.getElem?_eq_some_iff.mp hf).1
  simp only [s_putf, rst_at ha, hp_obj hs, hl, tyv, hz, rst_up ha, hup_F1 hs hf, nx]
  rfl) n
theorem rk_getR {ix a ci w q : Nat} (ha : a ≤ K) (hs : SH a = (10 + ci, w)) (hf : (sf ci)[y]? = some true) (hq : p a y = some q) (n : Rn C k (pc + 3, is, lv, .ref q :: st, rst K (hpM S false (m, p)), c, s) r) : Rn C k (pc, (.getfield ix, 3, ci, y, z) :: is, lv, .ref a :: st, rst K (hpM S false (m, p)), c, s) r := rn_next (by
  simp only [step, stepI]
  simp only [s_getf, rst_at ha, hp_obj hs, flds_at hf, hq, nx]
  rfl) n
theorem rk_aast {a w j q w' : Nat} {e : Int} (ha : a ≤ K) (hqK : q ≤ K) (hs : SH a = (4, w)) (hj : e = (j : Int)) (hl : j < w) (hq : SH q = (13, w')) (n : Rn C k (pc + 1, is, lv, st, rst K (hpM S false (m, w2 p a j (some q))), c, s) r) : Rn C k (pc, (.aastore, 1, x, y, z) :: is, lv, .ref q :: .int (iI e) :: .ref a :: st, rst K (hpM S false (m, p)), c, s) r := rn_next (by
  subst hj
  have hw := SH_w hs
  simp only [step, stepI]
  have hs' : SH a = (3 + 1, w) := hs
  have hq' : SH q = (10 + 3, w') := hq
  simp only [s_aast, rst_at ha, rst_at hqK, hp_Q hs' (by decide : 1 < 2), hp_obj hq']
  have h0 : q ≠ 0 := by have := (SH_n0 hq (by decide)).1; omega
  have h1 := iI_in hl hw
  rw [if_neg (fun z => z.elim (fun z => h1 (Or.inl z)) (fun z => z.elim (fun z => h1 (Or.inr z)) h0)), iI_clamp (by omega), rst_up ha, hup_Q hs' (by decide)]
  rfl) n
end
def pz_0 : M2 := fun _ _ => none
def mz_0 : M1 := fun _ _ => 0
theorem dz_0 : Df 0 mz_0 pz_0 := fun _ _ => ⟨fun _ => rfl, fun _ => rfl⟩
theorem dz_1 : Df 1 mz_0 pz_0 := Df_mono dz_0 (by decide)
def pz_1 : M2 := w2 pz_0 1 0 (some 2)
theorem dz_2 : Df 2 mz_0 pz_1 := Df_w2 (Df_mono dz_1 (by decide)) (by decide)
def pz_2 : M2 := w2 pz_1 3 0 (some 4)
theorem dz_3 : Df 4 mz_0 pz_2 := Df_w2 (Df_mono dz_2 (by decide)) (by decide)
def mz_1 : M1 := w1 mz_0 3 2 16
theorem dz_4 : Df 4 mz_1 pz_2 := Df_w1 (Df_mono dz_3 (by decide)) (by decide)
theorem iz_1 {d : Nat} {S : Env} : Ev (d + 1) k_X8_init [.ref 3, .int (iI 16)] (rst 3 (hpM S false (mz_0, pz_1))) (.inl none, rst 4 (hpM S false (mz_1, pz_2)), 1, 20) := by
  refine ev_ret (lv := [some (.ref 3), some (.int (iI 16))]) (Nat.le_of_ble_eq_true rfl) (okar_cons rfl (okar_cons rfl okar_nil)) rfl ?_
  refine q_blk lk_X8_init_0 (q_aload_n rfl (rk_obj (Nat.le_of_ble_eq_true rfl) (q_aload_n rfl (q_bipush rfl (rk_newaI (K := 3) (n := 20) (by decide) rfl (Df_mono dz_2 (by decide)) (rk_putR (by decide) rfl rfl rfl ?_))))))
  show Rn _ _ (12, _, _, _, rst 4 (hpM S false (mz_0, pz_2)), _, _) _
  refine q_aload_n rfl (q_iload_n rfl (rk_putI (xx := 16) (by decide) rfl rfl rfl rfl ?_))
  show Rn _ _ (17, _, _, _, rst 4 (hpM S false (mz_1, pz_2)), _, _) _
  exact q_return
def pz_3 : M2 := w2 pz_2 1 2 (some 3)
theorem dz_5 : Df 4 mz_1 pz_3 := Df_w2 (Df_mono dz_4 (by decide)) (by decide)
def pz_4 : M2 := w2 pz_3 5 0 (some 6)
theorem dz_6 : Df 6 mz_1 pz_4 := Df_w2 (Df_mono dz_5 (by decide)) (by decide)
def mz_2 : M1 := w1 mz_1 5 2 20
theorem dz_7 : Df 6 mz_2 pz_4 := Df_w1 (Df_mono dz_6 (by decide)) (by decide)
theorem iz_2 {d : Nat} {S : Env} : Ev (d + 1) k_X8_init [.ref 5, .int (iI 20)] (rst 5 (hpM S false (mz_1, pz_3))) (.inl none, rst 6 (hpM S false (mz_2, pz_4)), 1, 20) := by
  refine ev_ret (lv := [some (.ref 5), some (.int (iI 20))]) (Nat.le_of_ble_eq_true rfl) (okar_cons rfl (okar_cons rfl okar_nil)) rfl ?_
  refine q_blk lk_X8_init_0 (q_aload_n rfl (rk_obj (Nat.le_of_ble_eq_true rfl) (q_aload_n rfl (q_bipush rfl (rk_newaI (K := 5) (n := 20) (by decide) rfl (Df_mono dz_5 (by decide)) (rk_putR (by decide) rfl rfl rfl ?_))))))
  show Rn _ _ (12, _, _, _, rst 6 (hpM S false (mz_1, pz_4)), _, _) _
  refine q_aload_n rfl (q_iload_n rfl (rk_putI (xx := 20) (by decide) rfl rfl rfl rfl ?_))
  show Rn _ _ (17, _, _, _, rst 6 (hpM S false (mz_2, pz_4)), _, _) _
  exact q_return
def pz_5 : M2 := w2 pz_4 1 3 (some 5)
theorem dz_8 : Df 6 mz_2 pz_5 := Df_w2 (Df_mono dz_7 (by decide)) (by decide)
def pz_6 : M2 := pset pz_5 (7 + 1) (grd 7 8)
theorem dz_9 : Df 16 mz_2 pz_6 := Df_ps dz_8 (by decide) (by decide)
def pz_7 : M2 := w2 pz_6 7 1 (some 8)
theorem dz_10 : Df 16 mz_2 pz_7 := Df_w2 (Df_mono dz_9 (by decide)) (by decide)
def pz_8 : M2 := w2 pz_7 7 2 (some 17)
theorem dz_11 : Df 17 mz_2 pz_8 := Df_w2 (Df_mono dz_10 (by decide)) (by decide)
def pz_9 : M2 := w2 pz_8 7 3 (some 18)
theorem dz_12 : Df 18 mz_2 pz_9 := Df_w2 (Df_mono dz_11 (by decide)) (by decide)
theorem iz_3 {d : Nat} {S : Env} : Ev (d + 1) k_X4_init [.ref 7] (rst 7 (hpM S false (mz_2, pz_5))) (.inl none, rst 18 (hpM S false (mz_2, pz_9)), 11, 88) := by
  refine ev_ret (lv := [some (.ref 7)]) (Nat.le_of_ble_eq_true rfl) (okar_cons rfl okar_nil) rfl ?_
  refine q_blk lk_X4_init_0 (q_aload_n rfl (rk_obj (Nat.le_of_ble_eq_true rfl) (q_aload_n rfl (q_bipush rfl (q_bipush rfl (rk_mna (K := 7) (n := 8) (w := 8) (by decide) (by decide) rfl (by decide) (Df_mono dz_8 (by decide)) ?_))))))
  show Rn _ _ (13, _, _, _, rst 16 (hpM S false (mz_2, pz_6)), _, _) _
  refine rk_putR (by decide) rfl rfl rfl ?_
  show Rn _ _ (16, _, _, _, rst 16 (hpM S false (mz_2, pz_7)), _, _) _
  refine q_aload_n rfl (q_bipush rfl (rk_newaI (K := 16) (n := 8) (by decide) rfl (Df_mono dz_10 (by decide)) (rk_putR (by decide) rfl rfl rfl ?_)))
  show Rn _ _ (24, _, _, _, rst 17 (hpM S false (mz_2, pz_8)), _, _) _
  refine q_aload_n rfl (q_bipush rfl (rk_newaI (K := 17) (n := 8) (by decide) rfl (Df_mono dz_11 (by decide)) (rk_putR (by decide) rfl rfl rfl ?_)))
  show Rn _ _ (32, _, _, _, rst 18 (hpM S false (mz_2, pz_9)), _, _) _
  exact q_return
def pz_10 : M2 := w2 pz_9 1 4 (some 7)
theorem dz_13 : Df 18 mz_2 pz_10 := Df_w2 (Df_mono dz_12 (by decide)) (by decide)
def pz_11 : M2 := pset pz_10 (20 + 1) (grd 20 8)
theorem dz_14 : Df 29 mz_2 pz_11 := Df_ps dz_13 (by decide) (by decide)
def pz_12 : M2 := w2 pz_11 20 0 (some 21)
theorem dz_15 : Df 29 mz_2 pz_12 := Df_w2 (Df_mono dz_14 (by decide)) (by decide)
theorem iz_4 {d : Nat} {S : Env} : Ev (d + 1) k_X1_init [.ref 20] (rst 20 (hpM S false (mz_2, pz_10))) (.inl none, rst 29 (hpM S false (mz_2, pz_12)), 9, 80) := by
  refine ev_ret (lv := [some (.ref 20)]) (Nat.le_of_ble_eq_true rfl) (okar_cons rfl okar_nil) rfl ?_
  refine q_blk lk_X1_init_0 (q_aload_n rfl (rk_obj (Nat.le_of_ble_eq_true rfl) (q_aload_n rfl (q_bipush rfl (q_bipush rfl (rk_mna (K := 20) (n := 8) (w := 9) (by decide) (by decide) rfl (by decide) (Df_mono dz_13 (by decide)) ?_))))))
  show Rn _ _ (13, _, _, _, rst 29 (hpM S false (mz_2, pz_11)), _, _) _
  refine rk_putR (by decide) rfl rfl rfl ?_
  show Rn _ _ (16, _, _, _, rst 29 (hpM S false (mz_2, pz_12)), _, _) _
  exact q_return
def pz_13 : M2 := w2 pz_12 19 0 (some 20)
theorem dz_16 : Df 29 mz_2 pz_13 := Df_w2 (Df_mono dz_15 (by decide)) (by decide)
def pz_14 : M2 := w2 pz_13 19 1 (some 30)
theorem dz_17 : Df 30 mz_2 pz_14 := Df_w2 (Df_mono dz_16 (by decide)) (by decide)
def pz_15 : M2 := w2 pz_14 19 2 (some 31)
theorem dz_18 : Df 31 mz_2 pz_15 := Df_w2 (Df_mono dz_17 (by decide)) (by decide)
def pz_16 : M2 := w2 pz_15 19 3 (some 32)
theorem dz_19 : Df 32 mz_2 pz_16 := Df_w2 (Df_mono dz_18 (by decide)) (by decide)
theorem iz_5 {d : Nat} {S : Env} : Ev (d + 2) k_X3_init [.ref 19] (rst 19 (hpM S false (mz_2, pz_10))) (.inl none, rst 32 (hpM S false (mz_2, pz_16)), 13, 106) := by
  refine ev_ret (lv := [some (.ref 19)]) (Nat.le_of_ble_eq_true rfl) (okar_cons rfl okar_nil) rfl ?_
  refine q_blk lk_X3_init_0 (q_aload_n rfl (rk_obj (Nat.le_of_ble_eq_true rfl) (q_aload_n rfl (rk_new (K := 19) (by decide) rfl (Df_mono dz_13 (by decide)) (q_dup rfl ?_)))))
  refine rk_inv (by decide) (iz_4 (d := d + 0)) rfl rfl (okar_cons rfl okar_nil) (Nat.le_of_ble_eq_true rfl) ?_
  refine rk_putR (by decide) rfl rfl rfl ?_
  show Rn _ _ (15, _, _, _, rst 29 (hpM S false (mz_2, pz_13)), _, _) _
  refine q_aload_n rfl (q_bipush rfl (rk_newaI (K := 29) (n := 8) (by decide) rfl (Df_mono dz_16 (by decide)) (rk_putR (by decide) rfl rfl rfl ?_)))
  show Rn _ _ (23, _, _, _, rst 30 (hpM S false (mz_2, pz_14)), _, _) _
  refine q_aload_n rfl (q_bipush rfl (rk_newaI (K := 30) (n := 8) (by decide) rfl (Df_mono dz_17 (by decide)) (rk_putR (by decide) rfl rfl rfl ?_)))
  show Rn _ _ (31, _, _, _, rst 31 (hpM S false (mz_2, pz_15)), _, _) _
  refine q_aload_n rfl (q_bipush rfl (rk_newaI (K := 31) (n := 9) (by decide) rfl (Df_mono dz_18 (by decide)) (rk_putR (by decide) rfl rfl rfl ?_)))
  show Rn _ _ (39, _, _, _, rst 32 (hpM S false (mz_2, pz_16)), _, _) _
  exact q_return
def pz_17 : M2 := w2 pz_16 1 5 (some 19)
theorem dz_20 : Df 32 mz_2 pz_17 := Df_w2 (Df_mono dz_19 (by decide)) (by decide)
def pz_18 : M2 := w2 pz_17 1 6 (some 33)
theorem dz_21 : Df 33 mz_2 pz_18 := Df_w2 (Df_mono dz_20 (by decide)) (by decide)
def pz_19 : M2 := w2 pz_18 1 7 (some 34)
theorem dz_22 : Df 34 mz_2 pz_19 := Df_w2 (Df_mono dz_21 (by decide)) (by decide)
def pz_20 : M2 := w2 pz_19 35 0 (some 36)
theorem dz_23 : Df 36 mz_2 pz_20 := Df_w2 (Df_mono dz_22 (by decide)) (by decide)
def pz_21 : M2 := w2 pz_20 35 1 (some 37)
theorem dz_24 : Df 37 mz_2 pz_21 := Df_w2 (Df_mono dz_23 (by decide)) (by decide)
def pz_22 : M2 := pset pz_21 (37 + 1) (grd 37 8)
theorem dz_25 : Df 46 mz_2 pz_22 := Df_ps dz_24 (by decide) (by decide)
def pz_23 : M2 := w2 pz_22 35 2 (some 38)
theorem dz_26 : Df 46 mz_2 pz_23 := Df_w2 (Df_mono dz_25 (by decide)) (by decide)
def pz_24 : M2 := pset pz_23 (46 + 1) (grd 46 8)
theorem dz_27 : Df 55 mz_2 pz_24 := Df_ps dz_26 (by decide) (by decide)
def pz_25 : M2 := w2 pz_24 35 3 (some 47)
theorem dz_28 : Df 55 mz_2 pz_25 := Df_w2 (Df_mono dz_27 (by decide)) (by decide)
def pz_26 : M2 := w2 pz_25 35 4 (some 56)
theorem dz_29 : Df 56 mz_2 pz_26 := Df_w2 (Df_mono dz_28 (by decide)) (by decide)
def pz_27 : M2 := w2 pz_26 35 5 (some 57)
theorem dz_30 : Df 57 mz_2 pz_27 := Df_w2 (Df_mono dz_29 (by decide)) (by decide)
def pz_28 : M2 := w2 pz_27 35 6 (some 58)
theorem dz_31 : Df 58 mz_2 pz_28 := Df_w2 (Df_mono dz_30 (by decide)) (by decide)
theorem iz_6 {d : Nat} {S : Env} : Ev (d + 1) k_X5_init [.ref 35] (rst 35 (hpM S false (mz_2, pz_19))) (.inl none, rst 58 (hpM S false (mz_2, pz_28)), 23, 188) := by
  refine ev_ret (lv := [some (.ref 35)]) (Nat.le_of_ble_eq_true rfl) (okar_cons rfl okar_nil) rfl ?_
  refine q_blk lk_X5_init_0 (q_aload_n rfl (rk_obj (Nat.le_of_ble_eq_true rfl) (q_aload_n rfl (q_bipush rfl (rk_newaI (K := 35) (n := 9) (by decide) rfl (Df_mono dz_22 (by decide)) (rk_putR (by decide) rfl rfl rfl ?_))))))
  show Rn _ _ (12, _, _, _, rst 36 (hpM S false (mz_2, pz_20)), _, _) _
  refine q_aload_n rfl (q_bipush rfl (rk_newaI (K := 36) (n := 9) (by decide) rfl (Df_mono dz_23 (by decide)) (rk_putR (by decide) rfl rfl rfl ?_)))
  show Rn _ _ (20, _, _, _, rst 37 (hpM S false (mz_2, pz_21)), _, _) _
  refine q_aload_n rfl (q_bipush rfl (q_bipush rfl (rk_mna (K := 37) (n := 8) (w := 8) (by decide) (by decide) rfl (by decide) (Df_mono dz_24 (by decide)) ?_)))
  show Rn _ _ (29, _, _, _, rst 46 (hpM S false (mz_2, pz_22)), _, _) _
  refine rk_putR (by decide) rfl rfl rfl ?_
  show Rn _ _ (32, _, _, _, rst 46 (hpM S false (mz_2, pz_23)), _, _) _
  refine q_aload_n rfl (q_bipush rfl (q_bipush rfl (rk_mna (K := 46) (n := 8) (w := 8) (by decide) (by decide) rfl (by decide) (Df_mono dz_26 (by decide)) ?_)))
  show Rn _ _ (41, _, _, _, rst 55 (hpM S false (mz_2, pz_24)), _, _) _
  refine rk_putR (by decide) rfl rfl rfl ?_
  show Rn _ _ (44, _, _, _, rst 55 (hpM S false (mz_2, pz_25)), _, _) _
  refine q_aload_n rfl (q_bipush rfl (rk_newaI (K := 55) (n := 8) (by decide) rfl (Df_mono dz_28 (by decide)) (rk_putR (by decide) rfl rfl rfl ?_)))
  show Rn _ _ (52, _, _, _, rst 56 (hpM S false (mz_2, pz_26)), _, _) _
  refine q_aload_n rfl (q_bipush rfl (rk_newaI (K := 56) (n := 9) (by decide) rfl (Df_mono dz_29 (by decide)) (rk_putR (by decide) rfl rfl rfl ?_)))
  show Rn _ _ (60, _, _, _, rst 57 (hpM S false (mz_2, pz_27)), _, _) _
  refine q_aload_n rfl (q_bipush rfl (rk_newaI (K := 57) (n := 9) (by decide) rfl (Df_mono dz_30 (by decide)) (rk_putR (by decide) rfl rfl rfl ?_)))
  show Rn _ _ (68, _, _, _, rst 58 (hpM S false (mz_2, pz_28)), _, _) _
  exact q_return
def pz_29 : M2 := w2 pz_28 1 8 (some 35)
theorem dz_32 : Df 58 mz_2 pz_29 := Df_w2 (Df_mono dz_31 (by decide)) (by decide)
def pz_30 : M2 := w2 pz_29 59 0 (some 60)
theorem dz_33 : Df 60 mz_2 pz_30 := Df_w2 (Df_mono dz_32 (by decide)) (by decide)
def pz_31 : M2 := w2 pz_30 59 1 (some 61)
theorem dz_34 : Df 61 mz_2 pz_31 := Df_w2 (Df_mono dz_33 (by decide)) (by decide)
def pz_32 : M2 := w2 pz_31 59 2 (some 62)
theorem dz_35 : Df 62 mz_2 pz_32 := Df_w2 (Df_mono dz_34 (by decide)) (by decide)
def pz_33 : M2 := pset pz_32 (63 + 1) (grd 63 8)
theorem dz_36 : Df 72 mz_2 pz_33 := Df_ps dz_35 (by decide) (by decide)
def pz_34 : M2 := w2 pz_33 63 0 (some 64)
theorem dz_37 : Df 72 mz_2 pz_34 := Df_w2 (Df_mono dz_36 (by decide)) (by decide)
theorem iz_7 {d : Nat} {S : Env} : Ev (d + 1) k_X1_init [.ref 63] (rst 63 (hpM S false (mz_2, pz_32))) (.inl none, rst 72 (hpM S false (mz_2, pz_34)), 9, 80) := by
  refine ev_ret (lv := [some (.ref 63)]) (Nat.le_of_ble_eq_true rfl) (okar_cons rfl okar_nil) rfl ?_
  refine q_blk lk_X1_init_0 (q_aload_n rfl (rk_obj (Nat.le_of_ble_eq_true rfl) (q_aload_n rfl (q_bipush rfl (q_bipush rfl (rk_mna (K := 63) (n := 8) (w := 9) (by decide) (by decide) rfl (by decide) (Df_mono dz_35 (by decide)) ?_))))))
  show Rn _ _ (13, _, _, _, rst 72 (hpM S false (mz_2, pz_33)), _, _) _
  refine rk_putR (by decide) rfl rfl rfl ?_
  show Rn _ _ (16, _, _, _, rst 72 (hpM S false (mz_2, pz_34)), _, _) _
  exact q_return
def pz_35 : M2 := w2 pz_34 59 3 (some 63)
theorem dz_38 : Df 72 mz_2 pz_35 := Df_w2 (Df_mono dz_37 (by decide)) (by decide)
theorem iz_8 {d : Nat} {S : Env} : Ev (d + 2) k_X0_init [.ref 59] (rst 59 (hpM S false (mz_2, pz_29))) (.inl none, rst 72 (hpM S false (mz_2, pz_35)), 13, 138) := by
  refine ev_ret (lv := [some (.ref 59)]) (Nat.le_of_ble_eq_true rfl) (okar_cons rfl okar_nil) rfl ?_
  refine q_blk lk_X0_init_0 (q_aload_n rfl (rk_obj (Nat.le_of_ble_eq_true rfl) (q_aload_n rfl (q_bipush rfl (rk_newaI (K := 59) (n := 41) (by decide) rfl (Df_mono dz_32 (by decide)) (rk_putR (by decide) rfl rfl rfl ?_))))))
  show Rn _ _ (12, _, _, _, rst 60 (hpM S false (mz_2, pz_30)), _, _) _
  refine q_aload_n rfl (q_bipush rfl (rk_newaI (K := 60) (n := 8) (by decide) rfl (Df_mono dz_33 (by decide)) (rk_putR (by decide) rfl rfl rfl ?_)))
  show Rn _ _ (20, _, _, _, rst 61 (hpM S false (mz_2, pz_31)), _, _) _
  refine q_aload_n rfl (q_bipush rfl (rk_newaI (K := 61) (n := 8) (by decide) rfl (Df_mono dz_34 (by decide)) (rk_putR (by decide) rfl rfl rfl ?_)))
  show Rn _ _ (28, _, _, _, rst 62 (hpM S false (mz_2, pz_32)), _, _) _
  refine q_aload_n rfl (rk_new (K := 62) (by decide) rfl (Df_mono dz_35 (by decide)) (q_dup rfl ?_))
  refine rk_inv (by decide) (iz_7 (d := d + 0)) rfl rfl (okar_cons rfl okar_nil) (Nat.le_of_ble_eq_true rfl) ?_
  refine rk_putR (by decide) rfl rfl rfl ?_
  show Rn _ _ (39, _, _, _, rst 72 (hpM S false (mz_2, pz_35)), _, _) _
  exact q_return
def pz_36 : M2 := w2 pz_35 1 9 (some 59)
theorem dz_39 : Df 72 mz_2 pz_36 := Df_w2 (Df_mono dz_38 (by decide)) (by decide)
def pz_37 : M2 := pset pz_36 (73 + 1) (grd 73 8)
theorem dz_40 : Df 82 mz_2 pz_37 := Df_ps dz_39 (by decide) (by decide)
def pz_38 : M2 := w2 pz_37 73 0 (some 74)
theorem dz_41 : Df 82 mz_2 pz_38 := Df_w2 (Df_mono dz_40 (by decide)) (by decide)
def pz_39 : M2 := pset pz_38 (82 + 1) (grd 82 8)
theorem dz_42 : Df 91 mz_2 pz_39 := Df_ps dz_41 (by decide) (by decide)
def pz_40 : M2 := w2 pz_39 73 1 (some 83)
theorem dz_43 : Df 91 mz_2 pz_40 := Df_w2 (Df_mono dz_42 (by decide)) (by decide)
def pz_41 : M2 := pset pz_40 (91 + 1) (grd 91 20)
theorem dz_44 : Df 112 mz_2 pz_41 := Df_ps dz_43 (by decide) (by decide)
def pz_42 : M2 := w2 pz_41 73 2 (some 92)
theorem dz_45 : Df 112 mz_2 pz_42 := Df_w2 (Df_mono dz_44 (by decide)) (by decide)
def pz_43 : M2 := w2 pz_42 73 3 (some 113)
theorem dz_46 : Df 113 mz_2 pz_43 := Df_w2 (Df_mono dz_45 (by decide)) (by decide)
def pz_44 : M2 := w2 pz_43 73 4 (some 114)
theorem dz_47 : Df 114 mz_2 pz_44 := Df_w2 (Df_mono dz_46 (by decide)) (by decide)
def pz_45 : M2 := w2 pz_44 73 5 (some 115)
theorem dz_48 : Df 115 mz_2 pz_45 := Df_w2 (Df_mono dz_47 (by decide)) (by decide)
def pz_46 : M2 := w2 pz_45 73 6 (some 116)
theorem dz_49 : Df 116 mz_2 pz_46 := Df_w2 (Df_mono dz_48 (by decide)) (by decide)
theorem iz_9 {d : Nat} {S : Env} : Ev (d + 1) k_X7_init [.ref 73] (rst 73 (hpM S false (mz_2, pz_36))) (.inl none, rst 116 (hpM S false (mz_2, pz_46)), 43, 356) := by
  refine ev_ret (lv := [some (.ref 73)]) (Nat.le_of_ble_eq_true rfl) (okar_cons rfl okar_nil) rfl ?_
  refine q_blk lk_X7_init_0 (q_aload_n rfl (rk_obj (Nat.le_of_ble_eq_true rfl) (q_aload_n rfl (q_bipush rfl (q_bipush rfl (rk_mna (K := 73) (n := 8) (w := 8) (by decide) (by decide) rfl (by decide) (Df_mono dz_39 (by decide)) ?_))))))
  show Rn _ _ (13, _, _, _, rst 82 (hpM S false (mz_2, pz_37)), _, _) _
  refine rk_putR (by decide) rfl rfl rfl ?_
  show Rn _ _ (16, _, _, _, rst 82 (hpM S false (mz_2, pz_38)), _, _) _
  refine q_aload_n rfl (q_bipush rfl (q_bipush rfl (rk_mna (K := 82) (n := 8) (w := 8) (by decide) (by decide) rfl (by decide) (Df_mono dz_41 (by decide)) ?_)))
  show Rn _ _ (25, _, _, _, rst 91 (hpM S false (mz_2, pz_39)), _, _) _
  refine rk_putR (by decide) rfl rfl rfl ?_
  show Rn _ _ (28, _, _, _, rst 91 (hpM S false (mz_2, pz_40)), _, _) _
  refine q_aload_n rfl (q_bipush rfl (q_bipush rfl (rk_mna (K := 91) (n := 20) (w := 8) (by decide) (by decide) rfl (by decide) (Df_mono dz_43 (by decide)) ?_)))
  show Rn _ _ (37, _, _, _, rst 112 (hpM S false (mz_2, pz_41)), _, _) _
  refine rk_putR (by decide) rfl rfl rfl ?_
  show Rn _ _ (40, _, _, _, rst 112 (hpM S false (mz_2, pz_42)), _, _) _
  refine q_aload_n rfl (q_bipush rfl (rk_newaI (K := 112) (n := 8) (by decide) rfl (Df_mono dz_45 (by decide)) (rk_putR (by decide) rfl rfl rfl ?_)))
  show Rn _ _ (48, _, _, _, rst 113 (hpM S false (mz_2, pz_43)), _, _) _
  refine q_aload_n rfl (q_bipush rfl (rk_newaI (K := 113) (n := 8) (by decide) rfl (Df_mono dz_46 (by decide)) (rk_putR (by decide) rfl rfl rfl ?_)))
  show Rn _ _ (56, _, _, _, rst 114 (hpM S false (mz_2, pz_44)), _, _) _
  refine q_aload_n rfl (q_bipush rfl (rk_newaI (K := 114) (n := 8) (by decide) rfl (Df_mono dz_47 (by decide)) (rk_putR (by decide) rfl rfl rfl ?_)))
  show Rn _ _ (64, _, _, _, rst 115 (hpM S false (mz_2, pz_45)), _, _) _
  refine q_aload_n rfl (q_bipush rfl (rk_newaI (K := 115) (n := 8) (by decide) rfl (Df_mono dz_48 (by decide)) (rk_putR (by decide) rfl rfl rfl ?_)))
  show Rn _ _ (72, _, _, _, rst 116 (hpM S false (mz_2, pz_46)), _, _) _
  exact q_return
def pz_47 : M2 := w2 pz_46 1 10 (some 73)
theorem dz_50 : Df 116 mz_2 pz_47 := Df_w2 (Df_mono dz_49 (by decide)) (by decide)
def pz_48 : M2 := pset pz_47 (117 + 1) (grd 117 8)
theorem dz_51 : Df 126 mz_2 pz_48 := Df_ps dz_50 (by decide) (by decide)
def pz_49 : M2 := w2 pz_48 117 1 (some 118)
theorem dz_52 : Df 126 mz_2 pz_49 := Df_w2 (Df_mono dz_51 (by decide)) (by decide)
def pz_50 : M2 := w2 pz_49 117 2 (some 127)
theorem dz_53 : Df 127 mz_2 pz_50 := Df_w2 (Df_mono dz_52 (by decide)) (by decide)
def pz_51 : M2 := w2 pz_50 117 3 (some 128)
theorem dz_54 : Df 128 mz_2 pz_51 := Df_w2 (Df_mono dz_53 (by decide)) (by decide)
theorem iz_10 {d : Nat} {S : Env} : Ev (d + 1) k_X4_init [.ref 117] (rst 117 (hpM S false (mz_2, pz_47))) (.inl none, rst 128 (hpM S false (mz_2, pz_51)), 11, 88) := by
  refine ev_ret (lv := [some (.ref 117)]) (Nat.le_of_ble_eq_true rfl) (okar_cons rfl okar_nil) rfl ?_
  refine q_blk lk_X4_init_0 (q_aload_n rfl (rk_obj (Nat.le_of_ble_eq_true rfl) (q_aload_n rfl (q_bipush rfl (q_bipush rfl (rk_mna (K := 117) (n := 8) (w := 8) (by decide) (by decide) rfl (by decide) (Df_mono dz_50 (by decide)) ?_))))))
  show Rn _ _ (13, _, _, _, rst 126 (hpM S false (mz_2, pz_48)), _, _) _
  refine rk_putR (by decide) rfl rfl rfl ?_
  show Rn _ _ (16, _, _, _, rst 126 (hpM S false (mz_2, pz_49)), _, _) _
  refine q_aload_n rfl (q_bipush rfl (rk_newaI (K := 126) (n := 8) (by decide) rfl (Df_mono dz_52 (by decide)) (rk_putR (by decide) rfl rfl rfl ?_)))
  show Rn _ _ (24, _, _, _, rst 127 (hpM S false (mz_2, pz_50)), _, _) _
  refine q_aload_n rfl (q_bipush rfl (rk_newaI (K := 127) (n := 8) (by decide) rfl (Df_mono dz_53 (by decide)) (rk_putR (by decide) rfl rfl rfl ?_)))
  show Rn _ _ (32, _, _, _, rst 128 (hpM S false (mz_2, pz_51)), _, _) _
  exact q_return
def pz_52 : M2 := w2 pz_51 2 0 (some 117)
theorem dz_55 : Df 128 mz_2 pz_52 := Df_w2 (Df_mono dz_54 (by decide)) (by decide)
def pz_53 : M2 := pset pz_52 (129 + 1) (grd 129 8)
theorem dz_56 : Df 138 mz_2 pz_53 := Df_ps dz_55 (by decide) (by decide)
def pz_54 : M2 := w2 pz_53 129 1 (some 130)
theorem dz_57 : Df 138 mz_2 pz_54 := Df_w2 (Df_mono dz_56 (by decide)) (by decide)
def pz_55 : M2 := w2 pz_54 129 2 (some 139)
theorem dz_58 : Df 139 mz_2 pz_55 := Df_w2 (Df_mono dz_57 (by decide)) (by decide)
def pz_56 : M2 := w2 pz_55 129 3 (some 140)
theorem dz_59 : Df 140 mz_2 pz_56 := Df_w2 (Df_mono dz_58 (by decide)) (by decide)
theorem iz_11 {d : Nat} {S : Env} : Ev (d + 1) k_X4_init [.ref 129] (rst 129 (hpM S false (mz_2, pz_52))) (.inl none, rst 140 (hpM S false (mz_2, pz_56)), 11, 88) := by
  refine ev_ret (lv := [some (.ref 129)]) (Nat.le_of_ble_eq_true rfl) (okar_cons rfl okar_nil) rfl ?_
  refine q_blk lk_X4_init_0 (q_aload_n rfl (rk_obj (Nat.le_of_ble_eq_true rfl) (q_aload_n rfl (q_bipush rfl (q_bipush rfl (rk_mna (K := 129) (n := 8) (w := 8) (by decide) (by decide) rfl (by decide) (Df_mono dz_55 (by decide)) ?_))))))
  show Rn _ _ (13, _, _, _, rst 138 (hpM S false (mz_2, pz_53)), _, _) _
  refine rk_putR (by decide) rfl rfl rfl ?_
  show Rn _ _ (16, _, _, _, rst 138 (hpM S false (mz_2, pz_54)), _, _) _
  refine q_aload_n rfl (q_bipush rfl (rk_newaI (K := 138) (n := 8) (by decide) rfl (Df_mono dz_57 (by decide)) (rk_putR (by decide) rfl rfl rfl ?_)))
  show Rn _ _ (24, _, _, _, rst 139 (hpM S false (mz_2, pz_55)), _, _) _
  refine q_aload_n rfl (q_bipush rfl (rk_newaI (K := 139) (n := 8) (by decide) rfl (Df_mono dz_58 (by decide)) (rk_putR (by decide) rfl rfl rfl ?_)))
  show Rn _ _ (32, _, _, _, rst 140 (hpM S false (mz_2, pz_56)), _, _) _
  exact q_return
def pz_57 : M2 := w2 pz_56 2 1 (some 129)
theorem dz_60 : Df 140 mz_2 pz_57 := Df_w2 (Df_mono dz_59 (by decide)) (by decide)
def pz_58 : M2 := pset pz_57 (141 + 1) (grd 141 8)
theorem dz_61 : Df 150 mz_2 pz_58 := Df_ps dz_60 (by decide) (by decide)
def pz_59 : M2 := w2 pz_58 141 1 (some 142)
theorem dz_62 : Df 150 mz_2 pz_59 := Df_w2 (Df_mono dz_61 (by decide)) (by decide)
def pz_60 : M2 := w2 pz_59 141 2 (some 151)
theorem dz_63 : Df 151 mz_2 pz_60 := Df_w2 (Df_mono dz_62 (by decide)) (by decide)
def pz_61 : M2 := w2 pz_60 141 3 (some 152)
theorem dz_64 : Df 152 mz_2 pz_61 := Df_w2 (Df_mono dz_63 (by decide)) (by decide)
theorem iz_12 {d : Nat} {S : Env} : Ev (d + 1) k_X4_init [.ref 141] (rst 141 (hpM S false (mz_2, pz_57))) (.inl none, rst 152 (hpM S false (mz_2, pz_61)), 11, 88) := by
  refine ev_ret (lv := [some (.ref 141)]) (Nat.le_of_ble_eq_true rfl) (okar_cons rfl okar_nil) rfl ?_
  refine q_blk lk_X4_init_0 (q_aload_n rfl (rk_obj (Nat.le_of_ble_eq_true rfl) (q_aload_n rfl (q_bipush rfl (q_bipush rfl (rk_mna (K := 141) (n := 8) (w := 8) (by decide) (by decide) rfl (by decide) (Df_mono dz_60 (by decide)) ?_))))))
  show Rn _ _ (13, _, _, _, rst 150 (hpM S false (mz_2, pz_58)), _, _) _
  refine rk_putR (by decide) rfl rfl rfl ?_
  show Rn _ _ (16, _, _, _, rst 150 (hpM S false (mz_2, pz_59)), _, _) _
  refine q_aload_n rfl (q_bipush rfl (rk_newaI (K := 150) (n := 8) (by decide) rfl (Df_mono dz_62 (by decide)) (rk_putR (by decide) rfl rfl rfl ?_)))
  show Rn _ _ (24, _, _, _, rst 151 (hpM S false (mz_2, pz_60)), _, _) _
  refine q_aload_n rfl (q_bipush rfl (rk_newaI (K := 151) (n := 8) (by decide) rfl (Df_mono dz_63 (by decide)) (rk_putR (by decide) rfl rfl rfl ?_)))
  show Rn _ _ (32, _, _, _, rst 152 (hpM S false (mz_2, pz_61)), _, _) _
  exact q_return
def pz_62 : M2 := w2 pz_61 2 2 (some 141)
theorem dz_65 : Df 152 mz_2 pz_62 := Df_w2 (Df_mono dz_64 (by decide)) (by decide)
def pz_63 : M2 := pset pz_62 (153 + 1) (grd 153 8)
theorem dz_66 : Df 162 mz_2 pz_63 := Df_ps dz_65 (by decide) (by decide)
def pz_64 : M2 := w2 pz_63 153 1 (some 154)
theorem dz_67 : Df 162 mz_2 pz_64 := Df_w2 (Df_mono dz_66 (by decide)) (by decide)
def pz_65 : M2 := w2 pz_64 153 2 (some 163)
theorem dz_68 : Df 163 mz_2 pz_65 := Df_w2 (Df_mono dz_67 (by decide)) (by decide)
def pz_66 : M2 := w2 pz_65 153 3 (some 164)
theorem dz_69 : Df 164 mz_2 pz_66 := Df_w2 (Df_mono dz_68 (by decide)) (by decide)
theorem iz_13 {d : Nat} {S : Env} : Ev (d + 1) k_X4_init [.ref 153] (rst 153 (hpM S false (mz_2, pz_62))) (.inl none, rst 164 (hpM S false (mz_2, pz_66)), 11, 88) := by
  refine ev_ret (lv := [some (.ref 153)]) (Nat.le_of_ble_eq_true rfl) (okar_cons rfl okar_nil) rfl ?_
  refine q_blk lk_X4_init_0 (q_aload_n rfl (rk_obj (Nat.le_of_ble_eq_true rfl) (q_aload_n rfl (q_bipush rfl (q_bipush rfl (rk_mna (K := 153) (n := 8) (w := 8) (by decide) (by decide) rfl (by decide) (Df_mono dz_65 (by decide)) ?_))))))
  show Rn _ _ (13, _, _, _, rst 162 (hpM S false (mz_2, pz_63)), _, _) _
  refine rk_putR (by decide) rfl rfl rfl ?_
  show Rn _ _ (16, _, _, _, rst 162 (hpM S false (mz_2, pz_64)), _, _) _
  refine q_aload_n rfl (q_bipush rfl (rk_newaI (K := 162) (n := 8) (by decide) rfl (Df_mono dz_67 (by decide)) (rk_putR (by decide) rfl rfl rfl ?_)))
  show Rn _ _ (24, _, _, _, rst 163 (hpM S false (mz_2, pz_65)), _, _) _
  refine q_aload_n rfl (q_bipush rfl (rk_newaI (K := 163) (n := 8) (by decide) rfl (Df_mono dz_68 (by decide)) (rk_putR (by decide) rfl rfl rfl ?_)))
  show Rn _ _ (32, _, _, _, rst 164 (hpM S false (mz_2, pz_66)), _, _) _
  exact q_return
def pz_67 : M2 := w2 pz_66 2 3 (some 153)
theorem dz_70 : Df 164 mz_2 pz_67 := Df_w2 (Df_mono dz_69 (by decide)) (by decide)
def pz_68 : M2 := pset pz_67 (165 + 1) (grd 165 8)
theorem dz_71 : Df 174 mz_2 pz_68 := Df_ps dz_70 (by decide) (by decide)
def pz_69 : M2 := w2 pz_68 165 1 (some 166)
theorem dz_72 : Df 174 mz_2 pz_69 := Df_w2 (Df_mono dz_71 (by decide)) (by decide)
def pz_70 : M2 := w2 pz_69 165 2 (some 175)
theorem dz_73 : Df 175 mz_2 pz_70 := Df_w2 (Df_mono dz_72 (by decide)) (by decide)
def pz_71 : M2 := w2 pz_70 165 3 (some 176)
theorem dz_74 : Df 176 mz_2 pz_71 := Df_w2 (Df_mono dz_73 (by decide)) (by decide)
theorem iz_14 {d : Nat} {S : Env} : Ev (d + 1) k_X4_init [.ref 165] (rst 165 (hpM S false (mz_2, pz_67))) (.inl none, rst 176 (hpM S false (mz_2, pz_71)), 11, 88) := by
  refine ev_ret (lv := [some (.ref 165)]) (Nat.le_of_ble_eq_true rfl) (okar_cons rfl okar_nil) rfl ?_
  refine q_blk lk_X4_init_0 (q_aload_n rfl (rk_obj (Nat.le_of_ble_eq_true rfl) (q_aload_n rfl (q_bipush rfl (q_bipush rfl (rk_mna (K := 165) (n := 8) (w := 8) (by decide) (by decide) rfl (by decide) (Df_mono dz_70 (by decide)) ?_))))))
  show Rn _ _ (13, _, _, _, rst 174 (hpM S false (mz_2, pz_68)), _, _) _
  refine rk_putR (by decide) rfl rfl rfl ?_
  show Rn _ _ (16, _, _, _, rst 174 (hpM S false (mz_2, pz_69)), _, _) _
  refine q_aload_n rfl (q_bipush rfl (rk_newaI (K := 174) (n := 8) (by decide) rfl (Df_mono dz_72 (by decide)) (rk_putR (by decide) rfl rfl rfl ?_)))
  show Rn _ _ (24, _, _, _, rst 175 (hpM S false (mz_2, pz_70)), _, _) _
  refine q_aload_n rfl (q_bipush rfl (rk_newaI (K := 175) (n := 8) (by decide) rfl (Df_mono dz_73 (by decide)) (rk_putR (by decide) rfl rfl rfl ?_)))
  show Rn _ _ (32, _, _, _, rst 176 (hpM S false (mz_2, pz_71)), _, _) _
  exact q_return
def pz_72 : M2 := w2 pz_71 2 4 (some 165)
theorem dz_75 : Df 176 mz_2 pz_72 := Df_w2 (Df_mono dz_74 (by decide)) (by decide)
def pz_73 : M2 := pset pz_72 (177 + 1) (grd 177 8)
theorem dz_76 : Df 186 mz_2 pz_73 := Df_ps dz_75 (by decide) (by decide)
def pz_74 : M2 := w2 pz_73 177 1 (some 178)
theorem dz_77 : Df 186 mz_2 pz_74 := Df_w2 (Df_mono dz_76 (by decide)) (by decide)
def pz_75 : M2 := w2 pz_74 177 2 (some 187)
theorem dz_78 : Df 187 mz_2 pz_75 := Df_w2 (Df_mono dz_77 (by decide)) (by decide)
def pz_76 : M2 := w2 pz_75 177 3 (some 188)
theorem dz_79 : Df 188 mz_2 pz_76 := Df_w2 (Df_mono dz_78 (by decide)) (by decide)
theorem iz_15 {d : Nat} {S : Env} : Ev (d + 1) k_X4_init [.ref 177] (rst 177 (hpM S false (mz_2, pz_72))) (.inl none, rst 188 (hpM S false (mz_2, pz_76)), 11, 88) := by
  refine ev_ret (lv := [some (.ref 177)]) (Nat.le_of_ble_eq_true rfl) (okar_cons rfl okar_nil) rfl ?_
  refine q_blk lk_X4_init_0 (q_aload_n rfl (rk_obj (Nat.le_of_ble_eq_true rfl) (q_aload_n rfl (q_bipush rfl (q_bipush rfl (rk_mna (K := 177) (n := 8) (w := 8) (by decide) (by decide) rfl (by decide) (Df_mono dz_75 (by decide)) ?_))))))
  show Rn _ _ (13, _, _, _, rst 186 (hpM S false (mz_2, pz_73)), _, _) _
  refine rk_putR (by decide) rfl rfl rfl ?_
  show Rn _ _ (16, _, _, _, rst 186 (hpM S false (mz_2, pz_74)), _, _) _
  refine q_aload_n rfl (q_bipush rfl (rk_newaI (K := 186) (n := 8) (by decide) rfl (Df_mono dz_77 (by decide)) (rk_putR (by decide) rfl rfl rfl ?_)))
  show Rn _ _ (24, _, _, _, rst 187 (hpM S false (mz_2, pz_75)), _, _) _
  refine q_aload_n rfl (q_bipush rfl (rk_newaI (K := 187) (n := 8) (by decide) rfl (Df_mono dz_78 (by decide)) (rk_putR (by decide) rfl rfl rfl ?_)))
  show Rn _ _ (32, _, _, _, rst 188 (hpM S false (mz_2, pz_76)), _, _) _
  exact q_return
def pz_77 : M2 := w2 pz_76 2 5 (some 177)
theorem dz_80 : Df 188 mz_2 pz_77 := Df_w2 (Df_mono dz_79 (by decide)) (by decide)
def pz_78 : M2 := pset pz_77 (189 + 1) (grd 189 8)
theorem dz_81 : Df 198 mz_2 pz_78 := Df_ps dz_80 (by decide) (by decide)
def pz_79 : M2 := w2 pz_78 189 1 (some 190)
theorem dz_82 : Df 198 mz_2 pz_79 := Df_w2 (Df_mono dz_81 (by decide)) (by decide)
def pz_80 : M2 := w2 pz_79 189 2 (some 199)
theorem dz_83 : Df 199 mz_2 pz_80 := Df_w2 (Df_mono dz_82 (by decide)) (by decide)
def pz_81 : M2 := w2 pz_80 189 3 (some 200)
theorem dz_84 : Df 200 mz_2 pz_81 := Df_w2 (Df_mono dz_83 (by decide)) (by decide)
theorem iz_16 {d : Nat} {S : Env} : Ev (d + 1) k_X4_init [.ref 189] (rst 189 (hpM S false (mz_2, pz_77))) (.inl none, rst 200 (hpM S false (mz_2, pz_81)), 11, 88) := by
  refine ev_ret (lv := [some (.ref 189)]) (Nat.le_of_ble_eq_true rfl) (okar_cons rfl okar_nil) rfl ?_
  refine q_blk lk_X4_init_0 (q_aload_n rfl (rk_obj (Nat.le_of_ble_eq_true rfl) (q_aload_n rfl (q_bipush rfl (q_bipush rfl (rk_mna (K := 189) (n := 8) (w := 8) (by decide) (by decide) rfl (by decide) (Df_mono dz_80 (by decide)) ?_))))))
  show Rn _ _ (13, _, _, _, rst 198 (hpM S false (mz_2, pz_78)), _, _) _
  refine rk_putR (by decide) rfl rfl rfl ?_
  show Rn _ _ (16, _, _, _, rst 198 (hpM S false (mz_2, pz_79)), _, _) _
  refine q_aload_n rfl (q_bipush rfl (rk_newaI (K := 198) (n := 8) (by decide) rfl (Df_mono dz_82 (by decide)) (rk_putR (by decide) rfl rfl rfl ?_)))
  show Rn _ _ (24, _, _, _, rst 199 (hpM S false (mz_2, pz_80)), _, _) _
  refine q_aload_n rfl (q_bipush rfl (rk_newaI (K := 199) (n := 8) (by decide) rfl (Df_mono dz_83 (by decide)) (rk_putR (by decide) rfl rfl rfl ?_)))
  show Rn _ _ (32, _, _, _, rst 200 (hpM S false (mz_2, pz_81)), _, _) _
  exact q_return
def pz_82 : M2 := w2 pz_81 2 6 (some 189)
theorem dz_85 : Df 200 mz_2 pz_82 := Df_w2 (Df_mono dz_84 (by decide)) (by decide)
def pz_83 : M2 := pset pz_82 (201 + 1) (grd 201 8)
theorem dz_86 : Df 210 mz_2 pz_83 := Df_ps dz_85 (by decide) (by decide)
def pz_84 : M2 := w2 pz_83 201 1 (some 202)
theorem dz_87 : Df 210 mz_2 pz_84 := Df_w2 (Df_mono dz_86 (by decide)) (by decide)
def pz_85 : M2 := w2 pz_84 201 2 (some 211)
theorem dz_88 : Df 211 mz_2 pz_85 := Df_w2 (Df_mono dz_87 (by decide)) (by decide)
def pz_86 : M2 := w2 pz_85 201 3 (some 212)
theorem dz_89 : Df 212 mz_2 pz_86 := Df_w2 (Df_mono dz_88 (by decide)) (by decide)
theorem iz_17 {d : Nat} {S : Env} : Ev (d + 1) k_X4_init [.ref 201] (rst 201 (hpM S false (mz_2, pz_82))) (.inl none, rst 212 (hpM S false (mz_2, pz_86)), 11, 88) := by
  refine ev_ret (lv := [some (.ref 201)]) (Nat.le_of_ble_eq_true rfl) (okar_cons rfl okar_nil) rfl ?_
  refine q_blk lk_X4_init_0 (q_aload_n rfl (rk_obj (Nat.le_of_ble_eq_true rfl) (q_aload_n rfl (q_bipush rfl (q_bipush rfl (rk_mna (K := 201) (n := 8) (w := 8) (by decide) (by decide) rfl (by decide) (Df_mono dz_85 (by decide)) ?_))))))
  show Rn _ _ (13, _, _, _, rst 210 (hpM S false (mz_2, pz_83)), _, _) _
  refine rk_putR (by decide) rfl rfl rfl ?_
  show Rn _ _ (16, _, _, _, rst 210 (hpM S false (mz_2, pz_84)), _, _) _
  refine q_aload_n rfl (q_bipush rfl (rk_newaI (K := 210) (n := 8) (by decide) rfl (Df_mono dz_87 (by decide)) (rk_putR (by decide) rfl rfl rfl ?_)))
  show Rn _ _ (24, _, _, _, rst 211 (hpM S false (mz_2, pz_85)), _, _) _
  refine q_aload_n rfl (q_bipush rfl (rk_newaI (K := 211) (n := 8) (by decide) rfl (Df_mono dz_88 (by decide)) (rk_putR (by decide) rfl rfl rfl ?_)))
  show Rn _ _ (32, _, _, _, rst 212 (hpM S false (mz_2, pz_86)), _, _) _
  exact q_return
def pz_87 : M2 := w2 pz_86 2 7 (some 201)
theorem dz_90 : Df 212 mz_2 pz_87 := Df_w2 (Df_mono dz_89 (by decide)) (by decide)
def pz_88 : M2 := pset pz_87 (213 + 1) (grd 213 8)
theorem dz_91 : Df 222 mz_2 pz_88 := Df_ps dz_90 (by decide) (by decide)
def pz_89 : M2 := w2 pz_88 213 1 (some 214)
theorem dz_92 : Df 222 mz_2 pz_89 := Df_w2 (Df_mono dz_91 (by decide)) (by decide)
def pz_90 : M2 := w2 pz_89 213 2 (some 223)
theorem dz_93 : Df 223 mz_2 pz_90 := Df_w2 (Df_mono dz_92 (by decide)) (by decide)
def pz_91 : M2 := w2 pz_90 213 3 (some 224)
theorem dz_94 : Df 224 mz_2 pz_91 := Df_w2 (Df_mono dz_93 (by decide)) (by decide)
theorem iz_18 {d : Nat} {S : Env} : Ev (d + 1) k_X4_init [.ref 213] (rst 213 (hpM S false (mz_2, pz_87))) (.inl none, rst 224 (hpM S false (mz_2, pz_91)), 11, 88) := by
  refine ev_ret (lv := [some (.ref 213)]) (Nat.le_of_ble_eq_true rfl) (okar_cons rfl okar_nil) rfl ?_
  refine q_blk lk_X4_init_0 (q_aload_n rfl (rk_obj (Nat.le_of_ble_eq_true rfl) (q_aload_n rfl (q_bipush rfl (q_bipush rfl (rk_mna (K := 213) (n := 8) (w := 8) (by decide) (by decide) rfl (by decide) (Df_mono dz_90 (by decide)) ?_))))))
  show Rn _ _ (13, _, _, _, rst 222 (hpM S false (mz_2, pz_88)), _, _) _
  refine rk_putR (by decide) rfl rfl rfl ?_
  show Rn _ _ (16, _, _, _, rst 222 (hpM S false (mz_2, pz_89)), _, _) _
  refine q_aload_n rfl (q_bipush rfl (rk_newaI (K := 222) (n := 8) (by decide) rfl (Df_mono dz_92 (by decide)) (rk_putR (by decide) rfl rfl rfl ?_)))
  show Rn _ _ (24, _, _, _, rst 223 (hpM S false (mz_2, pz_90)), _, _) _
  refine q_aload_n rfl (q_bipush rfl (rk_newaI (K := 223) (n := 8) (by decide) rfl (Df_mono dz_93 (by decide)) (rk_putR (by decide) rfl rfl rfl ?_)))
  show Rn _ _ (32, _, _, _, rst 224 (hpM S false (mz_2, pz_91)), _, _) _
  exact q_return
def pz_92 : M2 := w2 pz_91 2 8 (some 213)
theorem dz_95 : Df 224 mz_2 pz_92 := Df_w2 (Df_mono dz_94 (by decide)) (by decide)
def pz_93 : M2 := pset pz_92 (225 + 1) (grd 225 8)
theorem dz_96 : Df 234 mz_2 pz_93 := Df_ps dz_95 (by decide) (by decide)
def pz_94 : M2 := w2 pz_93 225 1 (some 226)
theorem dz_97 : Df 234 mz_2 pz_94 := Df_w2 (Df_mono dz_96 (by decide)) (by decide)
def pz_95 : M2 := w2 pz_94 225 2 (some 235)
theorem dz_98 : Df 235 mz_2 pz_95 := Df_w2 (Df_mono dz_97 (by decide)) (by decide)
def pz_96 : M2 := w2 pz_95 225 3 (some 236)
theorem dz_99 : Df 236 mz_2 pz_96 := Df_w2 (Df_mono dz_98 (by decide)) (by decide)
theorem iz_19 {d : Nat} {S : Env} : Ev (d + 1) k_X4_init [.ref 225] (rst 225 (hpM S false (mz_2, pz_92))) (.inl none, rst 236 (hpM S false (mz_2, pz_96)), 11, 88) := by
  refine ev_ret (lv := [some (.ref 225)]) (Nat.le_of_ble_eq_true rfl) (okar_cons rfl okar_nil) rfl ?_
  refine q_blk lk_X4_init_0 (q_aload_n rfl (rk_obj (Nat.le_of_ble_eq_true rfl) (q_aload_n rfl (q_bipush rfl (q_bipush rfl (rk_mna (K := 225) (n := 8) (w := 8) (by decide) (by decide) rfl (by decide) (Df_mono dz_95 (by decide)) ?_))))))
  show Rn _ _ (13, _, _, _, rst 234 (hpM S false (mz_2, pz_93)), _, _) _
  refine rk_putR (by decide) rfl rfl rfl ?_
  show Rn _ _ (16, _, _, _, rst 234 (hpM S false (mz_2, pz_94)), _, _) _
  refine q_aload_n rfl (q_bipush rfl (rk_newaI (K := 234) (n := 8) (by decide) rfl (Df_mono dz_97 (by decide)) (rk_putR (by decide) rfl rfl rfl ?_)))
  show Rn _ _ (24, _, _, _, rst 235 (hpM S false (mz_2, pz_95)), _, _) _
  refine q_aload_n rfl (q_bipush rfl (rk_newaI (K := 235) (n := 8) (by decide) rfl (Df_mono dz_98 (by decide)) (rk_putR (by decide) rfl rfl rfl ?_)))
  show Rn _ _ (32, _, _, _, rst 236 (hpM S false (mz_2, pz_96)), _, _) _
  exact q_return
def pz_97 : M2 := w2 pz_96 2 9 (some 225)
theorem dz_100 : Df 236 mz_2 pz_97 := Df_w2 (Df_mono dz_99 (by decide)) (by decide)
def pz_98 : M2 := pset pz_97 (237 + 1) (grd 237 8)
theorem dz_101 : Df 246 mz_2 pz_98 := Df_ps dz_100 (by decide) (by decide)
def pz_99 : M2 := w2 pz_98 237 1 (some 238)
theorem dz_102 : Df 246 mz_2 pz_99 := Df_w2 (Df_mono dz_101 (by decide)) (by decide)
def pz_100 : M2 := w2 pz_99 237 2 (some 247)
theorem dz_103 : Df 247 mz_2 pz_100 := Df_w2 (Df_mono dz_102 (by decide)) (by decide)
def pz_101 : M2 := w2 pz_100 237 3 (some 248)
theorem dz_104 : Df 248 mz_2 pz_101 := Df_w2 (Df_mono dz_103 (by decide)) (by decide)
theorem iz_20 {d : Nat} {S : Env} : Ev (d + 1) k_X4_init [.ref 237] (rst 237 (hpM S false (mz_2, pz_97))) (.inl none, rst 248 (hpM S false (mz_2, pz_101)), 11, 88) := by
  refine ev_ret (lv := [some (.ref 237)]) (Nat.le_of_ble_eq_true rfl) (okar_cons rfl okar_nil) rfl ?_
  refine q_blk lk_X4_init_0 (q_aload_n rfl (rk_obj (Nat.le_of_ble_eq_true rfl) (q_aload_n rfl (q_bipush rfl (q_bipush rfl (rk_mna (K := 237) (n := 8) (w := 8) (by decide) (by decide) rfl (by decide) (Df_mono dz_100 (by decide)) ?_))))))
  show Rn _ _ (13, _, _, _, rst 246 (hpM S false (mz_2, pz_98)), _, _) _
  refine rk_putR (by decide) rfl rfl rfl ?_
  show Rn _ _ (16, _, _, _, rst 246 (hpM S false (mz_2, pz_99)), _, _) _
  refine q_aload_n rfl (q_bipush rfl (rk_newaI (K := 246) (n := 8) (by decide) rfl (Df_mono dz_102 (by decide)) (rk_putR (by decide) rfl rfl rfl ?_)))
  show Rn _ _ (24, _, _, _, rst 247 (hpM S false (mz_2, pz_100)), _, _) _
  refine q_aload_n rfl (q_bipush rfl (rk_newaI (K := 247) (n := 8) (by decide) rfl (Df_mono dz_103 (by decide)) (rk_putR (by decide) rfl rfl rfl ?_)))
  show Rn _ _ (32, _, _, _, rst 248 (hpM S false (mz_2, pz_101)), _, _) _
  exact q_return
def pz_102 : M2 := w2 pz_101 2 10 (some 237)
theorem dz_105 : Df 248 mz_2 pz_102 := Df_w2 (Df_mono dz_104 (by decide)) (by decide)
def pz_103 : M2 := pset pz_102 (249 + 1) (grd 249 8)
theorem dz_106 : Df 258 mz_2 pz_103 := Df_ps dz_105 (by decide) (by decide)
def pz_104 : M2 := w2 pz_103 249 1 (some 250)
theorem dz_107 : Df 258 mz_2 pz_104 := Df_w2 (Df_mono dz_106 (by decide)) (by decide)
def pz_105 : M2 := w2 pz_104 249 2 (some 259)
theorem dz_108 : Df 259 mz_2 pz_105 := Df_w2 (Df_mono dz_107 (by decide)) (by decide)
def pz_106 : M2 := w2 pz_105 249 3 (some 260)
theorem dz_109 : Df 260 mz_2 pz_106 := Df_w2 (Df_mono dz_108 (by decide)) (by decide)
theorem iz_21 {d : Nat} {S : Env} : Ev (d + 1) k_X4_init [.ref 249] (rst 249 (hpM S false (mz_2, pz_102))) (.inl none, rst 260 (hpM S false (mz_2, pz_106)), 11, 88) := by
  refine ev_ret (lv := [some (.ref 249)]) (Nat.le_of_ble_eq_true rfl) (okar_cons rfl okar_nil) rfl ?_
  refine q_blk lk_X4_init_0 (q_aload_n rfl (rk_obj (Nat.le_of_ble_eq_true rfl) (q_aload_n rfl (q_bipush rfl (q_bipush rfl (rk_mna (K := 249) (n := 8) (w := 8) (by decide) (by decide) rfl (by decide) (Df_mono dz_105 (by decide)) ?_))))))
  show Rn _ _ (13, _, _, _, rst 258 (hpM S false (mz_2, pz_103)), _, _) _
  refine rk_putR (by decide) rfl rfl rfl ?_
  show Rn _ _ (16, _, _, _, rst 258 (hpM S false (mz_2, pz_104)), _, _) _
  refine q_aload_n rfl (q_bipush rfl (rk_newaI (K := 258) (n := 8) (by decide) rfl (Df_mono dz_107 (by decide)) (rk_putR (by decide) rfl rfl rfl ?_)))
  show Rn _ _ (24, _, _, _, rst 259 (hpM S false (mz_2, pz_105)), _, _) _
  refine q_aload_n rfl (q_bipush rfl (rk_newaI (K := 259) (n := 8) (by decide) rfl (Df_mono dz_108 (by decide)) (rk_putR (by decide) rfl rfl rfl ?_)))
  show Rn _ _ (32, _, _, _, rst 260 (hpM S false (mz_2, pz_106)), _, _) _
  exact q_return
def pz_107 : M2 := w2 pz_106 2 11 (some 249)
theorem dz_110 : Df 260 mz_2 pz_107 := Df_w2 (Df_mono dz_109 (by decide)) (by decide)
theorem iz_22 {d : Nat} {S : Env} : Ev (d + 3) k_X9_init [.ref 1] (rst 1 (hpM S false (mz_0, pz_0))) (.inl none, rst 260 (hpM S false (mz_2, pz_107)), 259, 2093) := by
  refine ev_ret (lv := [some (.ref 1), none]) (Nat.le_of_ble_eq_true rfl) (okar_cons rfl okar_nil) rfl ?_
  refine q_blk lk_X9_init_0 (q_aload_n rfl (rk_obj (Nat.le_of_ble_eq_true rfl) (q_aload_n rfl (q_bipush rfl (rk_ana (K := 1) (n := 12) (by decide) rfl (Df_mono dz_1 (by decide)) (rk_putR (by decide) rfl rfl rfl ?_))))))
  show Rn _ _ (13, _, _, _, rst 2 (hpM S false (mz_0, pz_1)), _, _) _
  refine q_aload_n rfl (rk_new (K := 2) (by decide) rfl (Df_mono dz_2 (by decide)) (q_dup rfl (q_bipush rfl ?_)))
  refine rk_inv (by decide) (iz_1 (d := d + 1)) rfl rfl (okar_cons rfl (okar_cons rfl okar_nil)) (Nat.le_of_ble_eq_true rfl) ?_
  refine rk_putR (by decide) rfl rfl rfl ?_
  show Rn _ _ (26, _, _, _, rst 4 (hpM S false (mz_1, pz_3)), _, _) _
  refine q_aload_n rfl (rk_new (K := 4) (by decide) rfl (Df_mono dz_5 (by decide)) (q_dup rfl (q_bipush rfl ?_)))
  refine rk_inv (by decide) (iz_2 (d := d + 1)) rfl rfl (okar_cons rfl (okar_cons rfl okar_nil)) (Nat.le_of_ble_eq_true rfl) ?_
  refine rk_putR (by decide) rfl rfl rfl ?_
  show Rn _ _ (39, _, _, _, rst 6 (hpM S false (mz_2, pz_5)), _, _) _
  refine q_aload_n rfl (rk_new (K := 6) (by decide) rfl (Df_mono dz_8 (by decide)) (q_dup rfl ?_))
  refine rk_inv (by decide) (iz_3 (d := d + 1)) rfl rfl (okar_cons rfl okar_nil) (Nat.le_of_ble_eq_true rfl) ?_
  refine rk_putR (by decide) rfl rfl rfl ?_
  show Rn _ _ (50, _, _, _, rst 18 (hpM S false (mz_2, pz_10)), _, _) _
  refine q_aload_n rfl (rk_new (K := 18) (by decide) rfl (Df_mono dz_13 (by decide)) (q_dup rfl ?_))
  refine rk_inv (by decide) (iz_5 (d := d + 0)) rfl rfl (okar_cons rfl okar_nil) (Nat.le_of_ble_eq_true rfl) ?_
  refine rk_putR (by decide) rfl rfl rfl ?_
  show Rn _ _ (61, _, _, _, rst 32 (hpM S false (mz_2, pz_17)), _, _) _
  refine q_aload_n rfl (q_bipush rfl (rk_newaI (K := 32) (n := 8) (by decide) rfl (Df_mono dz_20 (by decide)) (rk_putR (by decide) rfl rfl rfl ?_)))
  show Rn _ _ (69, _, _, _, rst 33 (hpM S false (mz_2, pz_18)), _, _) _
  refine q_aload_n rfl (q_bipush rfl (rk_newaI (K := 33) (n := 8) (by decide) rfl (Df_mono dz_21 (by decide)) (rk_putR (by decide) rfl rfl rfl ?_)))
  show Rn _ _ (77, _, _, _, rst 34 (hpM S false (mz_2, pz_19)), _, _) _
  refine q_aload_n rfl (rk_new (K := 34) (by decide) rfl (Df_mono dz_22 (by decide)) (q_dup rfl ?_))
  refine rk_inv (by decide) (iz_6 (d := d + 1)) rfl rfl (okar_cons rfl okar_nil) (Nat.le_of_ble_eq_true rfl) ?_
  refine rk_putR (by decide) rfl rfl rfl ?_
  show Rn _ _ (88, _, _, _, rst 58 (hpM S false (mz_2, pz_29)), _, _) _
  refine q_aload_n rfl (rk_new (K := 58) (by decide) rfl (Df_mono dz_32 (by decide)) (q_dup rfl ?_))
  refine rk_inv (by decide) (iz_8 (d := d + 0)) rfl rfl (okar_cons rfl okar_nil) (Nat.le_of_ble_eq_true rfl) ?_
  refine rk_putR (by decide) rfl rfl rfl ?_
  show Rn _ _ (99, _, _, _, rst 72 (hpM S false (mz_2, pz_36)), _, _) _
  refine q_aload_n rfl (rk_new (K := 72) (by decide) rfl (Df_mono dz_39 (by decide)) (q_dup rfl ?_))
  refine rk_inv (by decide) (iz_9 (d := d + 1)) rfl rfl (okar_cons rfl okar_nil) (Nat.le_of_ble_eq_true rfl) ?_
  refine rk_putR (by decide) rfl rfl rfl ?_
  show Rn _ _ (110, _, _, _, rst 116 (hpM S false (mz_2, pz_47)), _, _) _
  refine q_iconst (q_istore_n (Nat.le_of_ble_eq_true rfl) rfl (q_blk lk_X9_init_112 (q_iload_n rfl (q_bipush rfl ?_))))
  refine q_icmp_ge ⟨by decide, by decide⟩ ⟨by decide, by decide⟩ (t := 137) rfl (fun h => absurd h (by decide)) (fun _ => ?_)
  refine q_aload_n rfl (rk_getR (q := 2) (by decide) rfl rfl (by decide) (q_iload_n rfl (rk_new (K := 116) (by decide) rfl (Df_mono dz_50 (by decide)) (q_dup rfl ?_))))
  refine rk_inv (by decide) (iz_10 (d := d + 1)) rfl rfl (okar_cons rfl okar_nil) (Nat.le_of_ble_eq_true rfl) ?_
  refine rk_aast (j := 0) (by decide) (by decide) rfl rfl (by decide) rfl ?_
  show Rn _ _ (131, _, _, _, rst 128 (hpM S false (mz_2, pz_52)), _, _) _
  refine q_iinc (lv' := [some (.ref 1), some (.int (iI 1))]) rfl rfl (q_goto (t := 112) rfl (q_blk lk_X9_init_112 (q_iload_n rfl (q_bipush rfl ?_))))
  refine q_icmp_ge ⟨by decide, by decide⟩ ⟨by decide, by decide⟩ (t := 137) rfl (fun h => absurd h (by decide)) (fun _ => ?_)
  refine q_aload_n rfl (rk_getR (q := 2) (by decide) rfl rfl (by decide) (q_iload_n rfl (rk_new (K := 128) (by decide) rfl (Df_mono dz_55 (by decide)) (q_dup rfl ?_))))
  refine rk_inv (by decide) (iz_11 (d := d + 1)) rfl rfl (okar_cons rfl okar_nil) (Nat.le_of_ble_eq_true rfl) ?_
  refine rk_aast (j := 1) (by decide) (by decide) rfl rfl (by decide) rfl ?_
  show Rn _ _ (131, _, _, _, rst 140 (hpM S false (mz_2, pz_57)), _, _) _
  refine q_iinc (lv' := [some (.ref 1), some (.int (iI 2))]) rfl rfl (q_goto (t := 112) rfl (q_blk lk_X9_init_112 (q_iload_n rfl (q_bipush rfl ?_))))
  refine q_icmp_ge ⟨by decide, by decide⟩ ⟨by decide, by decide⟩ (t := 137) rfl (fun h => absurd h (by decide)) (fun _ => ?_)
  refine q_aload_n rfl (rk_getR (q := 2) (by decide) rfl rfl (by decide) (q_iload_n rfl (rk_new (K := 140) (by decide) rfl (Df_mono dz_60 (by decide)) (q_dup rfl ?_))))
  refine rk_inv (by decide) (iz_12 (d := d + 1)) rfl rfl (okar_cons rfl okar_nil) (Nat.le_of_ble_eq_true rfl) ?_
  refine rk_aast (j := 2) (by decide) (by decide) rfl rfl (by decide) rfl ?_
  show Rn _ _ (131, _, _, _, rst 152 (hpM S false (mz_2, pz_62)), _, _) _
  refine q_iinc (lv' := [some (.ref 1), some (.int (iI 3))]) rfl rfl (q_goto (t := 112) rfl (q_blk lk_X9_init_112 (q_iload_n rfl (q_bipush rfl ?_))))
  refine q_icmp_ge ⟨by decide, by decide⟩ ⟨by decide, by decide⟩ (t := 137) rfl (fun h => absurd h (by decide)) (fun _ => ?_)
  refine q_aload_n rfl (rk_getR (q := 2) (by decide) rfl rfl (by decide) (q_iload_n rfl (rk_new (K := 152) (by decide) rfl (Df_mono dz_65 (by decide)) (q_dup rfl ?_))))
  refine rk_inv (by decide) (iz_13 (d := d + 1)) rfl rfl (okar_cons rfl okar_nil) (Nat.le_of_ble_eq_true rfl) ?_
  refine rk_aast (j := 3) (by decide) (by decide) rfl rfl (by decide) rfl ?_
  show Rn _ _ (131, _, _, _, rst 164 (hpM S false (mz_2, pz_67)), _, _) _
  refine q_iinc (lv' := [some (.ref 1), some (.int (iI 4))]) rfl rfl (q_goto (t := 112) rfl (q_blk lk_X9_init_112 (q_iload_n rfl (q_bipush rfl ?_))))
  refine q_icmp_ge ⟨by decide, by decide⟩ ⟨by decide, by decide⟩ (t := 137) rfl (fun h => absurd h (by decide)) (fun _ => ?_)
  refine q_aload_n rfl (rk_getR (q := 2) (by decide) rfl rfl (by decide) (q_iload_n rfl (rk_new (K := 164) (by decide) rfl (Df_mono dz_70 (by decide)) (q_dup rfl ?_))))
  refine rk_inv (by decide) (iz_14 (d := d + 1)) rfl rfl (okar_cons rfl okar_nil) (Nat.le_of_ble_eq_true rfl) ?_
  refine rk_aast (j := 4) (by decide) (by decide) rfl rfl (by decide) rfl ?_
  show Rn _ _ (131, _, _, _, rst 176 (hpM S false (mz_2, pz_72)), _, _) _
  refine q_iinc (lv' := [some (.ref 1), some (.int (iI 5))]) rfl rfl (q_goto (t := 112) rfl (q_blk lk_X9_init_112 (q_iload_n rfl (q_bipush rfl ?_))))
  refine q_icmp_ge ⟨by decide, by decide⟩ ⟨by decide, by decide⟩ (t := 137) rfl (fun h => absurd h (by decide)) (fun _ => ?_)
  refine q_aload_n rfl (rk_getR (q := 2) (by decide) rfl rfl (by decide) (q_iload_n rfl (rk_new (K := 176) (by decide) rfl (Df_mono dz_75 (by decide)) (q_dup rfl ?_))))
  refine rk_inv (by decide) (iz_15 (d := d + 1)) rfl rfl (okar_cons rfl okar_nil) (Nat.le_of_ble_eq_true rfl) ?_
  refine rk_aast (j := 5) (by decide) (by decide) rfl rfl (by decide) rfl ?_
  show Rn _ _ (131, _, _, _, rst 188 (hpM S false (mz_2, pz_77)), _, _) _
  refine q_iinc (lv' := [some (.ref 1), some (.int (iI 6))]) rfl rfl (q_goto (t := 112) rfl (q_blk lk_X9_init_112 (q_iload_n rfl (q_bipush rfl ?_))))
  refine q_icmp_ge ⟨by decide, by decide⟩ ⟨by decide, by decide⟩ (t := 137) rfl (fun h => absurd h (by decide)) (fun _ => ?_)
  refine q_aload_n rfl (rk_getR (q := 2) (by decide) rfl rfl (by decide) (q_iload_n rfl (rk_new (K := 188) (by decide) rfl (Df_mono dz_80 (by decide)) (q_dup rfl ?_))))
  refine rk_inv (by decide) (iz_16 (d := d + 1)) rfl rfl (okar_cons rfl okar_nil) (Nat.le_of_ble_eq_true rfl) ?_
  refine rk_aast (j := 6) (by decide) (by decide) rfl rfl (by decide) rfl ?_
  show Rn _ _ (131, _, _, _, rst 200 (hpM S false (mz_2, pz_82)), _, _) _
  refine q_iinc (lv' := [some (.ref 1), some (.int (iI 7))]) rfl rfl (q_goto (t := 112) rfl (q_blk lk_X9_init_112 (q_iload_n rfl (q_bipush rfl ?_))))
  refine q_icmp_ge ⟨by decide, by decide⟩ ⟨by decide, by decide⟩ (t := 137) rfl (fun h => absurd h (by decide)) (fun _ => ?_)
  refine q_aload_n rfl (rk_getR (q := 2) (by decide) rfl rfl (by decide) (q_iload_n rfl (rk_new (K := 200) (by decide) rfl (Df_mono dz_85 (by decide)) (q_dup rfl ?_))))
  refine rk_inv (by decide) (iz_17 (d := d + 1)) rfl rfl (okar_cons rfl okar_nil) (Nat.le_of_ble_eq_true rfl) ?_
  refine rk_aast (j := 7) (by decide) (by decide) rfl rfl (by decide) rfl ?_
  show Rn _ _ (131, _, _, _, rst 212 (hpM S false (mz_2, pz_87)), _, _) _
  refine q_iinc (lv' := [some (.ref 1), some (.int (iI 8))]) rfl rfl (q_goto (t := 112) rfl (q_blk lk_X9_init_112 (q_iload_n rfl (q_bipush rfl ?_))))
  refine q_icmp_ge ⟨by decide, by decide⟩ ⟨by decide, by decide⟩ (t := 137) rfl (fun h => absurd h (by decide)) (fun _ => ?_)
  refine q_aload_n rfl (rk_getR (q := 2) (by decide) rfl rfl (by decide) (q_iload_n rfl (rk_new (K := 212) (by decide) rfl (Df_mono dz_90 (by decide)) (q_dup rfl ?_))))
  refine rk_inv (by decide) (iz_18 (d := d + 1)) rfl rfl (okar_cons rfl okar_nil) (Nat.le_of_ble_eq_true rfl) ?_
  refine rk_aast (j := 8) (by decide) (by decide) rfl rfl (by decide) rfl ?_
  show Rn _ _ (131, _, _, _, rst 224 (hpM S false (mz_2, pz_92)), _, _) _
  refine q_iinc (lv' := [some (.ref 1), some (.int (iI 9))]) rfl rfl (q_goto (t := 112) rfl (q_blk lk_X9_init_112 (q_iload_n rfl (q_bipush rfl ?_))))
  refine q_icmp_ge ⟨by decide, by decide⟩ ⟨by decide, by decide⟩ (t := 137) rfl (fun h => absurd h (by decide)) (fun _ => ?_)
  refine q_aload_n rfl (rk_getR (q := 2) (by decide) rfl rfl (by decide) (q_iload_n rfl (rk_new (K := 224) (by decide) rfl (Df_mono dz_95 (by decide)) (q_dup rfl ?_))))
  refine rk_inv (by decide) (iz_19 (d := d + 1)) rfl rfl (okar_cons rfl okar_nil) (Nat.le_of_ble_eq_true rfl) ?_
  refine rk_aast (j := 9) (by decide) (by decide) rfl rfl (by decide) rfl ?_
  show Rn _ _ (131, _, _, _, rst 236 (hpM S false (mz_2, pz_97)), _, _) _
  refine q_iinc (lv' := [some (.ref 1), some (.int (iI 10))]) rfl rfl (q_goto (t := 112) rfl (q_blk lk_X9_init_112 (q_iload_n rfl (q_bipush rfl ?_))))
  refine q_icmp_ge ⟨by decide, by decide⟩ ⟨by decide, by decide⟩ (t := 137) rfl (fun h => absurd h (by decide)) (fun _ => ?_)
  refine q_aload_n rfl (rk_getR (q := 2) (by decide) rfl rfl (by decide) (q_iload_n rfl (rk_new (K := 236) (by decide) rfl (Df_mono dz_100 (by decide)) (q_dup rfl ?_))))
  refine rk_inv (by decide) (iz_20 (d := d + 1)) rfl rfl (okar_cons rfl okar_nil) (Nat.le_of_ble_eq_true rfl) ?_
  refine rk_aast (j := 10) (by decide) (by decide) rfl rfl (by decide) rfl ?_
  show Rn _ _ (131, _, _, _, rst 248 (hpM S false (mz_2, pz_102)), _, _) _
  refine q_iinc (lv' := [some (.ref 1), some (.int (iI 11))]) rfl rfl (q_goto (t := 112) rfl (q_blk lk_X9_init_112 (q_iload_n rfl (q_bipush rfl ?_))))
  refine q_icmp_ge ⟨by decide, by decide⟩ ⟨by decide, by decide⟩ (t := 137) rfl (fun h => absurd h (by decide)) (fun _ => ?_)
  refine q_aload_n rfl (rk_getR (q := 2) (by decide) rfl rfl (by decide) (q_iload_n rfl (rk_new (K := 248) (by decide) rfl (Df_mono dz_105 (by decide)) (q_dup rfl ?_))))
  refine rk_inv (by decide) (iz_21 (d := d + 1)) rfl rfl (okar_cons rfl okar_nil) (Nat.le_of_ble_eq_true rfl) ?_
  refine rk_aast (j := 11) (by decide) (by decide) rfl rfl (by decide) rfl ?_
  show Rn _ _ (131, _, _, _, rst 260 (hpM S false (mz_2, pz_107)), _, _) _
  refine q_iinc (lv' := [some (.ref 1), some (.int (iI 12))]) rfl rfl (q_goto (t := 112) rfl (q_blk lk_X9_init_112 (q_iload_n rfl (q_bipush rfl ?_))))
  refine q_icmp_ge ⟨by decide, by decide⟩ ⟨by decide, by decide⟩ (t := 137) rfl (fun _ => ?_) (fun h => absurd h (by decide))
  refine q_blk lk_X9_init_137 ?_
  exact q_return
def m_fin : M1 := mz_2
def p_fin : M2 := pz_107
