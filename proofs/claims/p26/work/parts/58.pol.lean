theorem c_X5_trace {d : Nat} {S : Env} {fz : Bool} {m : M1} {p : M2} (hd : 2 ≤ d) (n q : Nat) (R : Nat → Nat) (hn : n ≤ 8) (hq : SQ p q R) : Ct d k_X5_trace S fz [.int (iI (((n : Nat) : Int))), .ref (q)] m p (fun v m' p' => v = some (.int (iI (vF (sm n (fun i => m (R i) i))))) ∧ m = m' ∧ p = p') := by
  obtain ⟨d, rfl⟩ : ∃ e, d = e + 1 := ⟨d - 1, by omega⟩
  refine ct_go (lv := [some (.int (iI (((n : Nat) : Int)))), some (.ref (q)), none, none]) (Nat.le_of_ble_eq_true rfl) (okar_cons rfl (okar_cons rfl okar_nil)) rfl (fun Qr hQ => ?_)
  refine rw_blk lk_X5_trace_0 ?_
  refine rw_of (fun rr hrr => q_iconst (q_istore_n (Nat.le_of_ble_eq_true rfl) rfl (q_iconst (q_istore_n (Nat.le_of_ble_eq_true rfl) rfl hrr)))) ?_
  have hL4 : ∀ i, i ≤ n → Rw (Ev d) k_X5_trace (4, [], [some (.int (iI (((n : Nat) : Int)))), some (.ref (q)), some (.int (iI (vF (sm i (fun i => m (R i) i))))), some (.int (iI (((i : Nat) : Int))))], [], hpM S fz (m, p), 0, 0) Qr := by
    refine loop_any (fun i hi4 ih4 => ?_)
    refine rw_blk lk_X5_trace_4 ?_
    refine rw_of (fun rr hrr => q_iload_n rfl (q_iload_n rfl hrr)) ?_
    refine rw_icmp_ge ⟨by omega, by omega⟩ ⟨by omega, by omega⟩ (t := 25) rfl (fun hc1 => ?_) (fun hc1 => ?_)
    · skip
      refine rw_blk lk_X5_trace_25 ?_
      refine rw_of (fun rr hrr => q_iload_n rfl hrr) ?_
      refine rw_ret hQ (q_ireturn (Or.inl rfl)) ?_
      have e9 : n = i := (by omega)
      subst e9
      exact ⟨rfl, rfl, rfl⟩
      
    · skip
      refine rw_of (fun rr hrr => q_iload_n rfl (q_aload_n rfl (q_iload_n rfl (q_aald (t := 0) (j := i) hq.1 (by omega) (by omega) (by omega) (hq.2.1 i (by omega)) (q_iload_n rfl (q_iald (j := i) (hq.2.2 i (by omega)) rfl (by omega) rfl hrr)))))) ?_
      obtain ⟨_, mm2, pp3, hV4, rfl, rfl, rfl⟩ := c_X2_plus (S := S) (fz := fz) (m := m) (p := p) (d := d) (by omega) (sm i (fun i => m (R i) i)) (m (R i) i)
      refine rw_of (fun rr hrr => q_invS hV4 rfl rfl (okar_cons rfl (okar_cons rfl okar_nil)) (Nat.le_of_ble_eq_true rfl) (q_istore_n (Nat.le_of_ble_eq_true rfl) rfl (q_iinc rfl rfl (q_goto (t := 4) rfl hrr)))) ?_
      exact rw_cast (ih4 (by omega)) (lcons rfl (lcons rfl (lcons (lvI (by rfl)) (lcons (lvI (by omega)) rfl)))) rfl
  exact rw_cast (hL4 0 (by omega)) (lcons rfl (lcons rfl (lcons (lvI (by rfl)) (lcons (lvI (by omega)) rfl)))) rfl
theorem c_X5_addToDiagonal {d : Nat} {S : Env} {fz : Bool} {m : M1} {p : M2} (hd : 2 ≤ d) (n q lo hi : Nat) (x : F) (R : Nat → Nat) (hn : n ≤ 8) (hq : SQ p q R) (hR : ∀ i, i < 8 → lo ≤ R i ∧ R i < hi) (hinj : ∀ i j, i < 8 → j < 8 → R i = R j → i = j) : Ct d k_X5_addToDiagonal S fz [.int (iI (((n : Nat) : Int))), .ref (q), .int (iI (vF (x)))] m p (fun v m' p' => v = none ∧ p = p' ∧ Fr (fun a_ => lo ≤ a_ ∧ a_ < hi) m m' ∧ ∀ i, i < n → ∀ j, j < n → m' (R i) j = m (R i) j + if i = j then x else 0) := by
  obtain ⟨d, rfl⟩ : ∃ e, d = e + 1 := ⟨d - 1, by omega⟩
  refine ct_go (lv := [some (.int (iI (((n : Nat) : Int)))), some (.ref (q)), some (.int (iI (vF (x)))), none]) (Nat.le_of_ble_eq_true rfl) (okar_cons rfl (okar_cons rfl (okar_cons rfl okar_nil))) rfl (fun Qr hQ => ?_)
  refine rw_blk lk_X5_addToDiagonal_0 ?_
  refine rw_of (fun rr hrr => q_iconst (q_istore_n (Nat.le_of_ble_eq_true rfl) rfl hrr)) ?_
  have hL2 : ∀ i, i ≤ n → ∀ (m1 : M1), (Fr (fun a_ => lo ≤ a_ ∧ a_ < hi) m m1 ∧ (∀ k, k < i → ∀ j, j < n → m1 (R k) j = m (R k) j + if k = j then x else 0) ∧ ∀ k, i ≤ k → k < 8 → m1 (R k) = m (R k)) → Rw (Ev d) k_X5_addToDiagonal (2, [], [some (.int (iI (((n : Nat) : Int)))), some (.ref (q)), some (.int (iI (vF (x)))), some (.int (iI (((i : Nat) : Int))))], [], hpM S fz (m1, p), 0, 0) Qr := by
    refine loop_any (fun i hi2 ih2 => ?_)
    intro m1
    intro hI2
    obtain ⟨hF, hv, hU⟩ := hI2
    refine rw_blk lk_X5_addToDiagonal_2 ?_
    refine rw_of (fun rr hrr => q_iload_n rfl (q_iload_n rfl hrr)) ?_
    refine rw_icmp_ge ⟨by omega, by omega⟩ ⟨by omega, by omega⟩ (t := 27) rfl (fun hc1 => ?_) (fun hc1 => ?_)
    · skip
      refine rw_blk lk_X5_addToDiagonal_27 ?_
      refine rw_ret hQ (q_return) ?_
      have e9 : n = i := (by omega)
      subst e9
      exact ⟨rfl, rfl, hF, hv⟩
      
    · skip
      refine rw_of (fun rr hrr => q_aload_n rfl (q_iload_n rfl (q_aald (t := 0) (j := i) hq.1 (by omega) (by omega) (by omega) (hq.2.1 i (by omega)) (q_iload_n rfl (q_aload_n rfl (q_iload_n rfl (q_aald (t := 0) (j := i) hq.1 (by omega) (by omega) (by omega) (hq.2.1 i (by omega)) (q_iload_n rfl (q_iald (j := i) (hq.2.2 i (by omega)) rfl (by omega) rfl (q_iload_n rfl hrr)))))))))) ?_
      obtain ⟨_, mm2, pp3, hV4, rfl, rfl, rfl⟩ := c_X2_plus (S := S) (fz := fz) (m := m1) (p := p) (d := d) (by omega) (m1 (R i) i) (x)
      refine rw_of (fun rr hrr => q_invS hV4 rfl rfl (okar_cons rfl (okar_cons rfl okar_nil)) (Nat.le_of_ble_eq_true rfl) (q_iast (j := i) (xx := (m1 (R i) i) + x) (hq.2.2 i (by omega)) rfl (by omega) rfl hrr)) ?_
      generalize hm6 : w1 m1 (R i) i ((m1 (R i) i) + x) = mm5
      refine rw_of (fun rr hrr => q_iinc rfl rfl (q_goto (t := 2) rfl hrr)) ?_
      have hA7 : Fr (fun a_ => lo ≤ a_ ∧ a_ < hi) m mm5 ∧ (∀ k, k < (i + 1) → ∀ j, j < n → mm5 (R k) j = m (R k) j + if k = j then x else 0) ∧ ∀ k, (i + 1) ≤ k → k < 8 → mm5 (R k) = m (R k) := by
        refine rows2_w (R := R) (PP := fun k f => ∀ j, j < n → f j = m (R k) j + if k = j then x else 0) hF hv hU (fr_w hm6 Fr_rfl rfl) (fun j hj => ?_) hinj (by omega) hR
        rw [← hm6]
        by_cases q : i = j
        · rw [← q, w1_at, if_pos rfl, hU i (by omega) (by omega)]
        · rw [w1_ne (fun z => q z.2.symm), if_neg q, hU i (by omega) (by omega), F_add0]
      exact rw_cast (ih2 (by omega) mm5 hA7) (lcons rfl (lcons rfl (lcons rfl (lcons (lvI (by omega)) rfl)))) rfl
  exact rw_cast (hL2 0 (by omega) m (by exact ⟨Fr_rfl, fun k hk => absurd hk (Nat.not_lt_zero k), fun _ _ _ => rfl⟩)) (lcons rfl (lcons rfl (lcons rfl (lcons (lvI (by omega)) rfl)))) rfl
theorem c_X5_find {d : Nat} {S : Env} {fz : Bool} {m : M1} {p : M2} (hd : 4 ≤ d) (n t : Nat) (hP : PI p) (ht : IsPl t) (hn0 : 1 ≤ n) (hn : n ≤ 8) (hm : m t 0 = nF n) : Ct d k_X5_find S fz [.ref (35), .ref (t)] m p (fun v m' p' => v = none ∧ PI p' ∧ Fr (fun a_ => 36 ≤ a_ ∧ a_ < 57) m m' ∧ (∀ k, k ≤ n → m' 36 k = (pbl n (fun z => m (t + 2 + z))) k) ∧ ∀ k, k ≤ n → m' 37 k = (pab n (fun z => m (t + 2 + z)) (m (t + 10)) (m (t + 11))) k) := by
  obtain ⟨d, rfl⟩ : ∃ e, d = e + 1 := ⟨d - 1, by omega⟩
  refine ct_go (lv := [some (.ref (35)), some (.ref (t)), none, none, none, none]) (Nat.le_of_ble_eq_true rfl) (okar_cons rfl (okar_cons rfl okar_nil)) rfl (fun Qr hQ => ?_)
  have ht' := IsPl_b ht
  obtain ⟨qa0, qb0, hqa0, hqb0, hqq0⟩ := hP.2.2.2.2.2.2.2.2.2.2.2.1
  refine rw_blk lk_X5_find_0 ?_
  refine rw_of (fun rr hrr => q_aload_n rfl (q_getI (PI_pl hP ht).1 rfl (ki rfl hm (by omega)) (q_istore_n (Nat.le_of_ble_eq_true rfl) rfl (q_aload_n rfl (q_getR (show SH 35 = (14, 0) from rfl) rfl (pt_35_0 hP) (q_iload_n rfl (q_iconst (q_iast (j := n) (xx := 1) (show SH 36 = (1, 9) from rfl) rfl (by omega) rfl hrr)))))))) ?_
  generalize hm2 : w1 m 36 n 1 = mm1
  refine rw_of (fun rr hrr => q_aload_n rfl (q_getR (show SH 35 = (14, 0) from rfl) rfl (pt_35_1 hP) (q_iload_n rfl (q_iconst (q_iast (j := n) (xx := 0) (show SH 37 = (1, 9) from rfl) rfl (by omega) rfl hrr))))) ?_
  generalize hm4 : w1 mm1 37 n 0 = mm3
  refine rw_of (fun rr hrr => q_iconst (q_istore_n (Nat.le_of_ble_eq_true rfl) rfl hrr)) ?_
  have hL21 : ∀ i, i ≤ n → ∀ (m1 : M1), (Fr (fun a_ => 36 ≤ a_ ∧ a_ < 57) m m1 ∧ (m1 36 n = 1 ∧ m1 37 n = 0) ∧ ∀ k, k < i → ∀ j, j < n → m1 (qa0 + 1 + k) j = if k = j then 1 else 0) → Rw (Ev d) k_X5_find (21, [], [some (.ref (35)), some (.ref (t)), some (.int (iI (((n : Nat) : Int)))), some (.int (iI (((i : Nat) : Int)))), none, none], [], hpM S fz (m1, p), 0, 0) Qr := by
    refine loop_any (fun i hi21 ih21 => ?_)
    intro m1
    intro hI21
    obtain ⟨hF, hBA, hv⟩ := hI21
    refine rw_blk lk_X5_find_21 ?_
    refine rw_of (fun rr hrr => q_iload_n rfl (q_iload_n rfl hrr)) ?_
    refine rw_icmp_ge ⟨by omega, by omega⟩ ⟨by omega, by omega⟩ (t := 52) rfl (fun hc5 => ?_) (fun hc5 => ?_)
    · skip
      refine rw_blk lk_X5_find_52 ?_
      refine rw_of (fun rr hrr => q_iconst (q_istore_n (Nat.le_of_ble_eq_true rfl) rfl hrr)) ?_
      have hL54 : ∀ s, s ≤ n → ∀ (m2 : M1) (p1 : M2) (qa : Nat) (qb : Nat) (x54_4 : Option Value) (x54_5 : Option Value), (PI p1 ∧ p1 35 2 = some qa ∧ p1 35 3 = some qb ∧ (qa = 38 ∧ qb = 47 ∨ qa = 47 ∧ qb = 38) ∧ Fr (fun a_ => 36 ≤ a_ ∧ a_ < 57) m m2 ∧ (∀ i, i < n → ∀ j, j < n → m2 (qa + 1 + i) j = flM n (fun z => m (t + 2 + z)) s i j) ∧ ∀ k, n - s ≤ k → k ≤ n → m2 36 k = (pbl n (fun z => m (t + 2 + z))) k ∧ m2 37 k = (pab n (fun z => m (t + 2 + z)) (m (t + 10)) (m (t + 11))) k) → Rw (Ev d) k_X5_find (54, [], [some (.ref (35)), some (.ref (t)), some (.int (iI (((n : Nat) : Int)))), some (.int (iI (((s + 1 : Nat) : Int)))), x54_4, x54_5], [], hpM S fz (m2, p1), 0, 0) Qr := by
        refine loop_any (fun s hi54 ih54 => ?_)
        intro m2 p1 qa qb x54_4 x54_5
        intro hI54
        obtain ⟨hP1, hqa, hqb, hqq, hF2, hM, hK⟩ := hI54
        refine rw_blk lk_X5_find_54 ?_
        refine rw_of (fun rr hrr => q_iload_n rfl (q_iload_n rfl hrr)) ?_
        refine rw_icmp_gt ⟨by omega, by omega⟩ ⟨by omega, by omega⟩ (t := 175) rfl (fun hc6 => ?_) (fun hc6 => ?_)
        · skip
          refine rw_blk lk_X5_find_175 ?_
          refine rw_ret hQ (q_return) ?_
          have e9 : n = s := (by omega)
          subst e9
          exact ⟨rfl, hP1, hF2, fun k hk => (hK k (by omega) hk).1, fun k hk => (hK k (by omega) hk).2⟩
          
        · skip
          refine rw_of (fun rr hrr => q_iload_n rfl (q_aload_n rfl (q_getR (show SH 35 = (14, 0) from rfl) rfl hqa (q_aload_n rfl (q_getR (PI_pl hP1 ht).1 rfl (PI_pl hP1 ht).2.2.1 (q_aload_n rfl (q_getR (show SH 35 = (14, 0) from rfl) rfl (pt_35_4 hP1) hrr))))))) ?_
          obtain ⟨_, mm7, pp8, hV9, rfl, rfl, hF9, hv9⟩ := c_X6_squareByColumn (S := S) (fz := fz) (m := m2) (p := p1) (d := d) (by omega) (n) (qa) (t + 10) (56) (fun i => qa + 1 + i) (by omega) (PQ_sq hP1.2.2.2.2.2.2.2.2.2 (hqq.elim (fun z => Or.inl z.1) (fun z => Or.inr z.1))) ((PI_pl hP1 ht).2.2.2.2.1) ((show SH 56 = (1, 8) from rfl)) (by omega) (by omega) (by omega) (fun k hk => by show qa + 1 + k ≠ 56; omega)
          refine rw_of (fun rr hrr => q_invS hV9 rfl rfl (okar_cons rfl (okar_cons rfl (okar_cons rfl (okar_cons rfl okar_nil)))) (Nat.le_of_ble_eq_true rfl) (q_aload_n rfl (q_getR (show SH 35 = (14, 0) from rfl) rfl (pt_35_1 hP1) (q_iload_n rfl (q_iload_n rfl (q_isub (q_iload_n rfl (q_aload_n rfl (q_getR (PI_pl hP1 ht).1 rfl (PI_pl hP1 ht).2.2.2.1 (q_aload_n rfl (q_getR (show SH 35 = (14, 0) from rfl) rfl (pt_35_4 hP1) hrr))))))))))) ?_
          obtain ⟨_, mm10, pp11, hV12, rfl, rfl, rfl⟩ := c_X6_product (S := S) (fz := fz) (m := mm7) (p := p1) (d := d) (by omega) (n) (t + 11) (56) (by omega) ((PI_pl hP1 ht).2.2.2.2.2.1) ((show SH 56 = (1, 8) from rfl)) (by omega) (by omega)
          refine rw_of (fun rr hrr => q_invS hV12 rfl rfl (okar_cons rfl (okar_cons rfl (okar_cons rfl okar_nil))) (Nat.le_of_ble_eq_true rfl) (q_iast (j := n - (s + 1)) (xx := dot n (mm7 (t + 11)) (mm7 56)) (show SH 37 = (1, 9) from rfl) (by omega) (by omega) rfl hrr)) ?_
          generalize hm14 : w1 mm7 37 (n - (s + 1)) (dot n (mm7 (t + 11)) (mm7 56)) = mm13
          refine rw_of (fun rr hrr => q_iload_n rfl (q_aload_n rfl (q_getR (PI_pl hP1 ht).1 rfl (PI_pl hP1 ht).2.1 (q_aload_n rfl (q_getR (show SH 35 = (14, 0) from rfl) rfl hqa (q_aload_n rfl (q_getR (show SH 35 = (14, 0) from rfl) rfl hqb hrr))))))) ?_
          obtain ⟨_, mm15, pp16, hV17, rfl, rfl, hF17, hv17⟩ := c_X6_squareBySquare (S := S) (fz := fz) (m := mm13) (p := p1) (d := d) (by omega) (n) (t + 1) (qa) (qb) (qb + 1) (qb + 9) (fun i => t + 2 + i) (fun i => qa + 1 + i) (fun i => qb + 1 + i) (by omega) (PI_pl hP1 ht).2.2.2.2.2.2 (PQ_sq hP1.2.2.2.2.2.2.2.2.2 (hqq.elim (fun z => Or.inl z.1) (fun z => Or.inr z.1))) (PQ_sq hP1.2.2.2.2.2.2.2.2.2 (hqq.elim (fun z => Or.inr z.2) (fun z => Or.inl z.2))) (fun i hi => by show qb + 1 ≤ qb + 1 + i ∧ qb + 1 + i < qb + 9; omega) (fun i hi => by show t + 2 + i < qb + 1 ∨ qb + 9 ≤ t + 2 + i; omega) (fun i hi => by show qa + 1 + i < qb + 1 ∨ qb + 9 ≤ qa + 1 + i; omega) (fun i j _ _ h => by have h : qb + 1 + i = qb + 1 + j := h; omega)
          refine rw_of (fun rr hrr => q_invS hV17 rfl rfl (okar_cons rfl (okar_cons rfl (okar_cons rfl (okar_cons rfl okar_nil)))) (Nat.le_of_ble_eq_true rfl) (q_iconst (q_iload_n rfl (q_aload_n rfl (q_getR (show SH 35 = (14, 0) from rfl) rfl hqb hrr))))) ?_
          obtain ⟨_, mm18, pp19, hV20, rfl, rfl, rfl⟩ := c_X5_trace (S := S) (fz := fz) (m := mm15) (p := p1) (d := d) (by omega) (n) (qb) (fun i => qb + 1 + i) (by omega) (PQ_sq hP1.2.2.2.2.2.2.2.2.2 (hqq.elim (fun z => Or.inr z.2) (fun z => Or.inl z.2)))
          refine rw_of (fun rr hrr => q_invS hV20 rfl rfl (okar_cons rfl (okar_cons rfl okar_nil)) (Nat.le_of_ble_eq_true rfl) hrr) ?_
          obtain ⟨_, mm21, pp22, hV23, rfl, rfl, rfl⟩ := c_X2_minus (S := S) (fz := fz) (m := mm15) (p := p1) (d := d) (by omega) ((0 : F)) (sm n (fun i => mm15 ((fun i => qb + 1 + i) i) i))
          refine rw_of (fun rr hrr => q_invS hV23 rfl rfl (okar_cons rfl (okar_cons rfl okar_nil)) (Nat.le_of_ble_eq_true rfl) (q_iload_n rfl hrr)) ?_
          obtain ⟨_, mm24, pp25, hV26, rfl, rfl, rfl⟩ := c_X2_quotient (S := S) (fz := fz) (m := mm15) (p := p1) (d := d) (by omega) (((0 : F)) - (sm n (fun i => mm15 ((fun i => qb + 1 + i) i) i))) (nF (s + 1))
          refine rw_of (fun rr hrr => q_invS (rest := []) hV26 (by rw [show (((s + 1 : Nat) : Int) : Int) = vF (nF (s + 1)) from ((show (((s + 1 : Nat) : Int) : Int) = ((s + 1 : Nat) : Int) by omega).trans (vF_nF (by omega)).symm)]; rfl) rfl (okar_cons rfl (okar_cons rfl okar_nil)) (Nat.le_of_ble_eq_true rfl) (q_istore (Nat.le_of_ble_eq_true rfl) rfl (q_aload_n rfl (q_getR (show SH 35 = (14, 0) from rfl) rfl (pt_35_0 hP1) (q_iload_n rfl (q_iload_n rfl (q_isub (q_iload rfl (q_iast (j := n - (s + 1)) (xx := (((0 : F)) - (sm n (fun i => mm15 ((fun i => qb + 1 + i) i) i))) * iv (nF (s + 1))) (show SH 36 = (1, 9) from rfl) (by omega) (by omega) rfl hrr))))))))) ?_
          generalize hm28 : w1 mm15 36 (n - (s + 1)) ((((0 : F)) - (sm n (fun i => mm15 ((fun i => qb + 1 + i) i) i))) * iv (nF (s + 1))) = mm27
          refine rw_of (fun rr hrr => q_iload_n rfl (q_aload_n rfl (q_getR (show SH 35 = (14, 0) from rfl) rfl hqb (q_iload rfl hrr)))) ?_
          obtain ⟨_, mm29, pp30, hV31, rfl, rfl, hF31, hv31⟩ := c_X5_addToDiagonal (S := S) (fz := fz) (m := mm27) (p := p1) (d := d) (by omega) (n) (qb) (qb + 1) (qb + 9) ((((0 : F)) - (sm n (fun i => mm15 ((fun i => qb + 1 + i) i) i))) * iv (nF (s + 1))) (fun i => qb + 1 + i) (by omega) (PQ_sq hP1.2.2.2.2.2.2.2.2.2 (hqq.elim (fun z => Or.inr z.2) (fun z => Or.inl z.2))) (fun i hi => by show qb + 1 ≤ qb + 1 + i ∧ qb + 1 + i < qb + 9; omega) (fun i j _ _ h => by have h : qb + 1 + i = qb + 1 + j := h; omega)
          refine rw_of (fun rr hrr => q_invS hV31 rfl rfl (okar_cons rfl (okar_cons rfl (okar_cons rfl okar_nil))) (Nat.le_of_ble_eq_true rfl) (q_aload_n rfl (q_getR (show SH 35 = (14, 0) from rfl) rfl hqa (q_astore (Nat.le_of_ble_eq_true rfl) rfl (q_aload_n rfl (q_aload_n rfl (q_getR (show SH 35 = (14, 0) from rfl) rfl hqb (q_putR (show SH 35 = (14, 0) from rfl) rfl rfl hrr)))))))) ?_
          generalize hp33 : w2 p1 35 2 (some qb) = pp32
          refine rw_of (fun rr hrr => q_aload_n rfl (q_aload rfl (q_putR (show SH 35 = (14, 0) from rfl) rfl rfl hrr))) ?_
          generalize hp35 : w2 pp32 35 3 (some qa) = pp34
          refine rw_of (fun rr hrr => q_iinc rfl rfl (q_goto (t := 54) rfl hrr)) ?_
          have hA36 : PI pp34 ∧ pp34 35 2 = some qb ∧ pp34 35 3 = some qa ∧ (qb = 38 ∧ qa = 47 ∨ qb = 47 ∧ qa = 38) ∧ Fr (fun a_ => 36 ≤ a_ ∧ a_ < 57) m mm29 ∧ (∀ i, i < n → ∀ j, j < n → mm29 (qb + 1 + i) j = flM n (fun z => m (t + 2 + z)) (s + 1) i j) ∧ ∀ k, n - (s + 1) ≤ k → k ≤ n → mm29 36 k = (pbl n (fun z => m (t + 2 + z))) k ∧ mm29 37 k = (pab n (fun z => m (t + 2 + z)) (m (t + 10)) (m (t + 11))) k := by
            have hsw := PI_sw23 hP1 hp33 hp35 hqq
            have eA : ∀ i, i < n → mm7 (t + 2 + i) = m (t + 2 + i) := fun i hi => by rw [hF9 _ (by omega), hF2 _ (by omega)]
            have eG : ∀ i, i < n → ∀ j, j < n → mm15 (qb + 1 + i) j = flG n (fun z => m (t + 2 + z)) (flM n (fun z => m (t + 2 + z)) s) i j := fun i hi j hj => by
              rw [show mm15 (qb + 1 + i) j = _ from hv17 i hi j hj]
              refine dot_congr (fun c hc => ?_) (fun c hc => ?_)
              · show mm13 (t + 2 + i) c = _
                rw [← hm14, w1_a (by omega), eA i hi]
              · show mm13 (qa + 1 + c) j = _
                rw [← hm14, w1_a (by omega), hF9 _ (by omega)]
                exact hM c hc j hj
            have eT : sm n (fun i => mm15 (qb + 1 + i) i) = sm n (fun i => flG n (fun z => m (t + 2 + z)) (flM n (fun z => m (t + 2 + z)) s) i i) := sm_congr (fun i hi => eG i hi i hi)
            refine ⟨hsw.1, hsw.2.1, hsw.2.2, by omega, Fr_trans hF2 (Fr_trans (Fr_mono hF9 (fun a ha => by omega)) (Fr_trans (fr_w hm14 Fr_rfl (by omega)) (Fr_trans (Fr_mono hF17 (fun a ha => by omega)) (Fr_trans (fr_w hm28 Fr_rfl (by omega)) (Fr_mono hF31 (fun a ha => by omega)))))), fun i hi j hj => ?_, fun k hk hk' => ?_⟩
            · rw [show mm29 (qb + 1 + i) j = _ from hv31 i hi j hj]
              show mm27 (qb + 1 + i) j + _ = flG n _ (flM n _ s) i j + _
              rw [← hm28, w1_a (by omega), eG i hi j hj]
              refine congrArg (fun z => flG n _ (flM n _ s) i j + z) ?_
              by_cases q : i = j
              · rw [if_pos q, if_pos q, eT]
                rfl
              · rw [if_neg q, if_neg q]
            · rw [hF31 36 (by omega), hF31 37 (by omega), ← hm28]
              by_cases q : k = n - (s + 1)
              · rw [q, w1_at, w1_a (by omega), hF17 37 (by omega), ← hm14, w1_at, eT]
                refine ⟨?_, ?_⟩
                · rw [show pbl n (fun z => m (t + 2 + z)) (n - (s + 1)) = flt n (fun z => m (t + 2 + z)) (flM n (fun z => m (t + 2 + z)) (n - 1 - (n - (s + 1)))) (n - 1 - (n - (s + 1))) from if_neg (by omega), show n - 1 - (n - (s + 1)) = s by omega]
                  rfl
                · rw [show pab n (fun z => m (t + 2 + z)) (m (t + 10)) (m (t + 11)) (n - (s + 1)) = dot n (m (t + 11)) (fun i => dot n (flM n (fun z => m (t + 2 + z)) (n - 1 - (n - (s + 1))) i) (m (t + 10))) from if_neg (by omega), show n - 1 - (n - (s + 1)) = s by omega, hF9 (t + 11) (by omega), hF2 (t + 11) (by omega)]
                  refine dot_congr (fun _ _ => rfl) (fun i hi => ?_)
                  rw [hv9, if_pos hi, hF2 (t + 10) (by omega)]
                  exact dot_congr (fun c hc => hM i hi c hc) (fun _ _ => rfl)
              · rw [w1_ne (fun z => q z.2), w1_a (by omega), hF17 36 (by omega), hF17 37 (by omega), ← hm14, w1_a (by omega), w1_ne (fun z => q z.2), hF9 36 (by omega), hF9 37 (by omega)]
                exact hK k (by omega) hk'
          exact rw_cast (ih54 (by omega) mm29 pp34 qb qa (some (.int (iI (vF ((((0 : F)) - (sm n (fun i => mm15 ((fun i => qb + 1 + i) i) i))) * iv (nF (s + 1))))))) (some (.ref (qa))) hA36) (lcons rfl (lcons rfl (lcons rfl (lcons (lvI (by omega)) (lcons rfl (lcons rfl rfl)))))) rfl
      have hA37 : PI p ∧ p 35 2 = some qa0 ∧ p 35 3 = some qb0 ∧ (qa0 = 38 ∧ qb0 = 47 ∨ qa0 = 47 ∧ qb0 = 38) ∧ Fr (fun a_ => 36 ≤ a_ ∧ a_ < 57) m m1 ∧ (∀ i, i < n → ∀ j, j < n → m1 (qa0 + 1 + i) j = flM n (fun z => m (t + 2 + z)) 0 i j) ∧ ∀ k, n - 0 ≤ k → k ≤ n → m1 36 k = (pbl n (fun z => m (t + 2 + z))) k ∧ m1 37 k = (pab n (fun z => m (t + 2 + z)) (m (t + 10)) (m (t + 11))) k := by
        have e9 : n = i := (by omega)
        subst e9
        refine ⟨hP, hqa0, hqb0, hqq0, hF, hv, fun k hk hk' => ?_⟩
        have e8 : k = n := (by omega)
        subst e8
        exact ⟨by rw [hBA.1]; exact (if_pos rfl).symm, by rw [hBA.2]; exact (if_pos rfl).symm⟩
      exact rw_cast (hL54 0 (by omega) m1 p qa0 qb0 none none hA37) (lcons rfl (lcons rfl (lcons rfl (lcons (lvI (by omega)) (lcons rfl (lcons rfl rfl)))))) rfl
    · skip
      refine rw_of (fun rr hrr => q_iload_n rfl (q_aload_n rfl (q_getR (show SH 35 = (14, 0) from rfl) rfl hqa0 (q_iload_n rfl (q_aald (t := 0) (j := i) (PQ_sq hP.2.2.2.2.2.2.2.2.2 (hqq0.elim (fun z => Or.inl z.1) (fun z => Or.inr z.1))).1 (by omega) (by omega) (by omega) ((PQ_sq hP.2.2.2.2.2.2.2.2.2 (hqq0.elim (fun z => Or.inl z.1) (fun z => Or.inr z.1))).2.1 i (by omega)) (q_iconst hrr)))))) ?_
      obtain ⟨_, mm38, pp39, hV40, rfl, rfl, hF40, hv40⟩ := c_X6_fill (S := S) (fz := fz) (m := m1) (p := p) (d := d) (by omega) (n) (qa0 + 1 + i) ((0 : F)) (by omega) (((PQ_sq hP.2.2.2.2.2.2.2.2.2 (hqq0.elim (fun z => Or.inl z.1) (fun z => Or.inr z.1))).2.2 i (by omega))) (by omega)
      refine rw_of (fun rr hrr => q_invS hV40 rfl rfl (okar_cons rfl (okar_cons rfl (okar_cons rfl okar_nil))) (Nat.le_of_ble_eq_true rfl) (q_aload_n rfl (q_getR (show SH 35 = (14, 0) from rfl) rfl hqa0 (q_iload_n rfl (q_aald (t := 0) (j := i) (PQ_sq hP.2.2.2.2.2.2.2.2.2 (hqq0.elim (fun z => Or.inl z.1) (fun z => Or.inr z.1))).1 (by omega) (by omega) (by omega) ((PQ_sq hP.2.2.2.2.2.2.2.2.2 (hqq0.elim (fun z => Or.inl z.1) (fun z => Or.inr z.1))).2.1 i (by omega)) (q_iload_n rfl (q_iconst (q_iast (j := i) (xx := 1) ((PQ_sq hP.2.2.2.2.2.2.2.2.2 (hqq0.elim (fun z => Or.inl z.1) (fun z => Or.inr z.1))).2.2 i (by omega)) rfl (by omega) rfl hrr)))))))) ?_
      generalize hm42 : w1 mm38 (qa0 + 1 + i) i 1 = mm41
      refine rw_of (fun rr hrr => q_iinc rfl rfl (q_goto (t := 21) rfl hrr)) ?_
      have hA43 : Fr (fun a_ => 36 ≤ a_ ∧ a_ < 57) m mm41 ∧ (mm41 36 n = 1 ∧ mm41 37 n = 0) ∧ ∀ k, k < (i + 1) → ∀ j, j < n → mm41 (qa0 + 1 + k) j = if k = j then 1 else 0 := by
        have hX : Fr (fun a_ => a_ = qa0 + 1 + i) m1 mm41 := fr_w hm42 hF40 rfl
        have h9 := rows_w (n := 8) (T := fun k => qa0 + 1 + k) (PP := fun k f => ∀ j, j < n → f j = if k = j then 1 else 0) (X := fun a_ => 36 ≤ a_ ∧ a_ < 57) hX (by omega) (fun x y _ _ h => by have h : qa0 + 1 + x = qa0 + 1 + y := h; omega) hv hF (fun j hj => by
          show mm41 (qa0 + 1 + i) j = _
          rw [← hm42]
          by_cases q : i = j
          · rw [← q, w1_at, if_pos rfl]
          · rw [w1_ne (fun z => q z.2.symm), if_neg q, hv40, if_pos hj]) (fun k hk => by show 36 ≤ qa0 + 1 + k ∧ qa0 + 1 + k < 57; omega)
        refine ⟨h9.1, ⟨?_, ?_⟩, h9.2⟩
        · rw [hX 36 (by omega)]
          exact hBA.1
        · rw [hX 37 (by omega)]
          exact hBA.2
      exact rw_cast (ih21 (by omega) mm41 hA43) (lcons rfl (lcons rfl (lcons rfl (lcons (lvI (by omega)) (lcons rfl (lcons rfl rfl)))))) rfl
  have hA44 : Fr (fun a_ => 36 ≤ a_ ∧ a_ < 57) m mm3 ∧ (mm3 36 n = 1 ∧ mm3 37 n = 0) ∧ ∀ k, k < 0 → ∀ j, j < n → mm3 (qa0 + 1 + k) j = if k = j then 1 else 0 := by
    refine ⟨fr_w hm4 (fr_w hm2 Fr_rfl (by omega)) (by omega), ⟨?_, ?_⟩, fun k hk => absurd hk (Nat.not_lt_zero k)⟩
    · rw [← hm4, w1_a (by omega), ← hm2, w1_at]
    · rw [← hm4, w1_at]
  exact rw_cast (hL21 0 (by omega) mm3 hA44) (lcons rfl (lcons rfl (lcons rfl (lcons (lvI (by omega)) (lcons rfl (lcons rfl rfl)))))) rfl
theorem c_X5_degree {d : Nat} {S : Env} {fz : Bool} {m : M1} {p : M2} (hd : 1 ≤ d) (a k : Nat) {wa : Nat} (ha : SH a = (1, wa)) (hk : k ≤ wa) (hk9 : k ≤ 9) : Ct d k_X5_degree S fz [.ref (a), .int (iI (((k : Nat) : Int) - 1))] m p (fun v m' p' => v = some (.int (iI (((dg (m a) k : Nat) : Int) - 1))) ∧ m = m' ∧ p = p') := by
  obtain ⟨d, rfl⟩ : ∃ e, d = e + 1 := ⟨d - 1, by omega⟩
  refine ct_go (lv := [some (.ref (a)), some (.int (iI (((k : Nat) : Int) - 1))), none]) (Nat.le_of_ble_eq_true rfl) (okar_cons rfl (okar_cons rfl okar_nil)) rfl (fun Qr hQ => ?_)
  refine rw_blk lk_X5_degree_0 ?_
  refine rw_of (fun rr hrr => q_iload_n rfl (q_istore_n (Nat.le_of_ble_eq_true rfl) rfl hrr)) ?_
  have hL2 : ∀ t, t ≤ k → (dg (m a) (k - t) = dg (m a) k) → Rw (Ev d) k_X5_degree (2, [], [some (.ref (a)), some (.int (iI (((k : Nat) : Int) - 1))), some (.int (iI (((k : Nat) : Int) - 1 - ((t : Nat) : Int))))], [], hpM S fz (m, p), 0, 0) Qr := by
    refine loop_any (fun t hi2 ih2 => ?_)
    intro hz
    refine rw_blk lk_X5_degree_2 ?_
    refine rw_of (fun rr hrr => q_iload_n rfl hrr) ?_
    refine rw_if_lt ⟨by omega, by omega⟩ (t := 18) rfl (fun hc1 => ?_) (fun hc1 => ?_)
    · skip
      refine rw_blk lk_X5_degree_18 ?_
      refine rw_of (fun rr hrr => q_iload_n rfl hrr) ?_
      refine rw_ret hQ (q_ireturn (Or.inl rfl)) ?_
      refine ⟨lvI ?_, rfl, rfl⟩
      first
        | rw [← hz, show k - t = k - 1 - t + 1 by omega, dg_n (fun z => absurd (vF_eq0.mpr z) (by assumption))]; omega
        | rw [← hz, show k - t = 0 by omega]; show _ = ((0 : Nat) : Int) - 1; omega
      
    · skip
      refine rw_of (fun rr hrr => q_aload_n rfl (q_iload_n rfl (q_iald (j := k - 1 - t) ha (by omega) (by omega) rfl hrr))) ?_
      refine rw_if_ne (rg_vF _) (t := 18) rfl (fun hc2 => ?_) (fun hc2 => ?_)
      · skip
        refine rw_blk lk_X5_degree_18 ?_
        refine rw_of (fun rr hrr => q_iload_n rfl hrr) ?_
        refine rw_ret hQ (q_ireturn (Or.inl rfl)) ?_
        refine ⟨lvI ?_, rfl, rfl⟩
        first
          | rw [← hz, show k - t = k - 1 - t + 1 by omega, dg_n (fun z => absurd (vF_eq0.mpr z) (by assumption))]; omega
          | rw [← hz, show k - t = 0 by omega]; show _ = ((0 : Nat) : Int) - 1; omega
        
      · skip
        refine rw_of (fun rr hrr => q_iinc rfl rfl (q_goto (t := 2) rfl hrr)) ?_
        have hA3 : dg (m a) (k - (t + 1)) = dg (m a) k := by
          have h0 := vF_eq0.mp (by assumption)
          rw [← hz, show k - t = k - 1 - t + 1 by omega, dg_z h0, show k - (t + 1) = k - 1 - t by omega]
        exact rw_cast (ih2 (by omega) hA3) (lcons rfl (lcons rfl (lcons (lvI (by omega)) rfl))) rfl
  exact rw_cast (hL2 0 (by omega) (by rfl)) (lcons rfl (lcons rfl (lcons (lvI (by omega)) rfl))) rfl
theorem c_X5_takeRest {d : Nat} {S : Env} {fz : Bool} {m : M1} {p : M2} (hd : 2 ≤ d) (h l ua ub : Nat) (hP : PI p) (hu : p 35 5 = some ua) (hv : p 35 6 = some ub) (hq : ua = 57 ∧ ub = 58 ∨ ua = 58 ∧ ub = 57) (hl : l ≤ h) (hh : h ≤ 8) : Ct d k_X5_takeRest S fz [.ref (35), .int (iI (((h : Nat) : Int))), .int (iI (((l : Nat) : Int)))] m p (fun v m' p' => v = none ∧ p = p' ∧ Fr (fun a_ => a_ = ua) m m' ∧ ∀ k, m' ua k = mdv h l (m ub) (m ua) (h - l + 1) k) := by
  obtain ⟨d, rfl⟩ : ∃ e, d = e + 1 := ⟨d - 1, by omega⟩
  refine ct_go (lv := [some (.ref (35)), some (.int (iI (((h : Nat) : Int)))), some (.int (iI (((l : Nat) : Int)))), none, none, none, none]) (Nat.le_of_ble_eq_true rfl) (okar_cons rfl (okar_cons rfl (okar_cons rfl okar_nil))) rfl (fun Qr hQ => ?_)
  refine rw_blk lk_X5_takeRest_0 ?_
  refine rw_of (fun rr hrr => q_iconst (q_aload_n rfl (q_getR (show SH 35 = (14, 0) from rfl) rfl hv (q_iload_n rfl (q_iald (j := l) (SH_57 (hq.elim (fun z => Or.inr z.2) (fun z => Or.inl z.2))) rfl (by omega) rfl hrr))))) ?_
  obtain ⟨_, mm1, pp2, hV3, rfl, rfl, rfl⟩ := c_X2_quotient (S := S) (fz := fz) (m := m) (p := p) (d := d) (by omega) ((1 : F)) (m ub l)
  refine rw_of (fun rr hrr => q_invS hV3 rfl rfl (okar_cons rfl (okar_cons rfl okar_nil)) (Nat.le_of_ble_eq_true rfl) (q_istore_n (Nat.le_of_ble_eq_true rfl) rfl (q_iload_n rfl (q_iload_n rfl (q_isub (q_istore (Nat.le_of_ble_eq_true rfl) rfl hrr)))))) ?_
  have hL16 : ∀ t, t ≤ h - l + 1 → ∀ (m1 : M1) (x16_5 : Option Value) (x16_6 : Option Value), (Fr (fun a_ => a_ = ua) m m1 ∧ ∀ k, m1 ua k = mdv h l (m ub) (m ua) t k) → Rw (Ev d) k_X5_takeRest (16, [], [some (.ref (35)), some (.int (iI (((h : Nat) : Int)))), some (.int (iI (((l : Nat) : Int)))), some (.int (iI (vF (((1 : F)) * iv (m ub l))))), some (.int (iI (((h : Nat) : Int) - ((l : Nat) : Int) - ((t : Nat) : Int)))), x16_5, x16_6], [], hpM S fz (m1, p), 0, 0) Qr := by
    refine loop_any (fun t hi16 ih16 => ?_)
    intro m1 x16_5 x16_6
    intro hI16
    obtain ⟨hF, hv1⟩ := hI16
    refine rw_blk lk_X5_takeRest_16 ?_
    refine rw_of (fun rr hrr => q_iload rfl hrr) ?_
    refine rw_if_lt ⟨by omega, by omega⟩ (t := 92) rfl (fun hc4 => ?_) (fun hc4 => ?_)
    · skip
      refine rw_blk lk_X5_takeRest_92 ?_
      refine rw_ret hQ (q_return) ?_
      have e9 : h - l + 1 = t := (by omega)
      rw [← e9] at hv1
      exact ⟨rfl, rfl, hF, hv1⟩
      
    · skip
      refine rw_of (fun rr hrr => q_iload_n rfl (q_aload_n rfl (q_getR (show SH 35 = (14, 0) from rfl) rfl hu (q_iload_n rfl (q_iload rfl (q_iadd (q_iald (j := l + (h - l - t)) (SH_57 (hq.elim (fun z => Or.inl z.1) (fun z => Or.inr z.1))) (by omega) (by omega) rfl hrr))))))) ?_
      obtain ⟨_, mm5, pp6, hV7, rfl, rfl, rfl⟩ := c_X2_times (S := S) (fz := fz) (m := m1) (p := p) (d := d) (by omega) (((1 : F)) * iv (m ub l)) (m1 ua (l + (h - l - t)))
      refine rw_of (fun rr hrr => q_invS hV7 rfl rfl (okar_cons rfl (okar_cons rfl okar_nil)) (Nat.le_of_ble_eq_true rfl) (q_istore (Nat.le_of_ble_eq_true rfl) rfl (q_iconst (q_istore (Nat.le_of_ble_eq_true rfl) rfl hrr)))) ?_
      have hL39 : ∀ i, i ≤ l + 1 → ∀ (m2 : M1), (Fr (fun a_ => a_ = ua) m1 m2 ∧ ∀ k, m2 ua k = if h - l - t ≤ k ∧ k < h - l - t + i then m1 ua k - iv (m ub l) * m1 ua (l + (h - l - t)) * m1 ub (k - (h - l - t)) else m1 ua k) → Rw (Ev d) k_X5_takeRest (39, [], [some (.ref (35)), some (.int (iI (((h : Nat) : Int)))), some (.int (iI (((l : Nat) : Int)))), some (.int (iI (vF (((1 : F)) * iv (m ub l))))), some (.int (iI (((h : Nat) : Int) - ((l : Nat) : Int) - ((t : Nat) : Int)))), some (.int (iI (vF ((((1 : F)) * iv (m ub l)) * (m1 ua (l + (h - l - t))))))), some (.int (iI (((i : Nat) : Int))))], [], hpM S fz (m2, p), 0, 0) Qr := by
        refine loop_any (fun i hi39 ih39 => ?_)
        intro m2
        intro hI39
        obtain ⟨hF39, hv39⟩ := hI39
        refine rw_blk lk_X5_takeRest_39 ?_
        refine rw_of (fun rr hrr => q_iload rfl (q_iload_n rfl hrr)) ?_
        refine rw_icmp_gt ⟨by omega, by omega⟩ ⟨by omega, by omega⟩ (t := 86) rfl (fun hc8 => ?_) (fun hc8 => ?_)
        · skip
          refine rw_blk lk_X5_takeRest_86 ?_
          refine rw_of (fun rr hrr => q_iinc rfl rfl (q_goto (t := 16) rfl hrr)) ?_
          have hA9 : Fr (fun a_ => a_ = ua) m m2 ∧ ∀ k, m2 ua k = mdv h l (m ub) (m ua) (t + 1) k := by
            refine ⟨Fr_trans hF hF39, fun k => ?_⟩
            rw [hv39 k]
            show _ = trs l (m ub) (mdv h l (m ub) (m ua) t) (h - l - t) k
            unfold trs
            by_cases q : h - l - t ≤ k ∧ k < h - l - t + (l + 1)
            · rw [if_pos q, if_pos (by omega), hv1 k, hv1 (l + (h - l - t)), hF ub (by omega)]
            · rw [if_neg q, if_neg (by omega), hv1 k]
          exact rw_cast (ih16 (by omega) m2 (some (.int (iI (vF ((((1 : F)) * iv (m ub l)) * (m1 ua (l + (h - l - t)))))))) (some (.int (iI (((i : Nat) : Int))))) hA9) (lcons rfl (lcons rfl (lcons rfl (lcons rfl (lcons (lvI (by omega)) (lcons rfl (lcons rfl rfl))))))) rfl
        · skip
          refine rw_of (fun rr hrr => q_aload_n rfl (q_getR (show SH 35 = (14, 0) from rfl) rfl hu (q_iload rfl (q_iload rfl (q_iadd (q_aload_n rfl (q_getR (show SH 35 = (14, 0) from rfl) rfl hu (q_iload rfl (q_iload rfl (q_iadd (q_iald (j := i + (h - l - t)) (SH_57 (hq.elim (fun z => Or.inl z.1) (fun z => Or.inr z.1))) (by omega) (by omega) rfl (q_iload rfl (q_aload_n rfl (q_getR (show SH 35 = (14, 0) from rfl) rfl hv (q_iload rfl (q_iald (j := i) (SH_57 (hq.elim (fun z => Or.inr z.2) (fun z => Or.inl z.2))) rfl (by omega) rfl hrr)))))))))))))))) ?_
          obtain ⟨_, mm10, pp11, hV12, rfl, rfl, rfl⟩ := c_X2_times (S := S) (fz := fz) (m := m2) (p := p) (d := d) (by omega) ((((1 : F)) * iv (m ub l)) * (m1 ua (l + (h - l - t)))) (m2 ub i)
          refine rw_of (fun rr hrr => q_invS hV12 rfl rfl (okar_cons rfl (okar_cons rfl okar_nil)) (Nat.le_of_ble_eq_true rfl) hrr) ?_
          obtain ⟨_, mm13, pp14, hV15, rfl, rfl, rfl⟩ := c_X2_minus (S := S) (fz := fz) (m := m2) (p := p) (d := d) (by omega) (m2 ua (i + (h - l - t))) (((((1 : F)) * iv (m ub l)) * (m1 ua (l + (h - l - t)))) * (m2 ub i))
          refine rw_of (fun rr hrr => q_invS hV15 rfl rfl (okar_cons rfl (okar_cons rfl okar_nil)) (Nat.le_of_ble_eq_true rfl) (q_iast (j := i + (h - l - t)) (xx := (m2 ua (i + (h - l - t))) - (((((1 : F)) * iv (m ub l)) * (m1 ua (l + (h - l - t)))) * (m2 ub i))) (SH_57 (hq.elim (fun z => Or.inl z.1) (fun z => Or.inr z.1))) (by omega) (by omega) rfl hrr)) ?_
          generalize hm17 : w1 m2 ua (i + (h - l - t)) ((m2 ua (i + (h - l - t))) - (((((1 : F)) * iv (m ub l)) * (m1 ua (l + (h - l - t)))) * (m2 ub i))) = mm16
          refine rw_of (fun rr hrr => q_iinc rfl rfl (q_goto (t := 39) rfl hrr)) ?_
          have hA18 : Fr (fun a_ => a_ = ua) m1 mm16 ∧ ∀ k, mm16 ua k = if h - l - t ≤ k ∧ k < h - l - t + (i + 1) then m1 ua k - iv (m ub l) * m1 ua (l + (h - l - t)) * m1 ub (k - (h - l - t)) else m1 ua k := by
            refine ⟨fr_w hm17 hF39 rfl, filld_w (P := fun k => h - l - t ≤ k ∧ k < h - l - t + i) (P' := fun k => h - l - t ≤ k ∧ k < h - l - t + (i + 1)) (f := fun k => m1 ua k - iv (m ub l) * m1 ua (l + (h - l - t)) * m1 ub (k - (h - l - t))) hm17 hv39 ?_ (fun j => by omega)⟩
            rw [hv39, if_neg (by omega), hF39 ub (by omega), show i + (h - l - t) - (h - l - t) = i by omega]
            grind
          exact rw_cast (ih39 (by omega) mm16 hA18) (lcons rfl (lcons rfl (lcons rfl (lcons rfl (lcons rfl (lcons rfl (lcons (lvI (by omega)) rfl))))))) rfl
      exact rw_cast (hL39 0 (by omega) m1 (by exact ⟨Fr_rfl, fun k => (if_neg (by omega)).symm⟩)) (lcons rfl (lcons rfl (lcons rfl (lcons rfl (lcons rfl (lcons rfl (lcons (lvI (by omega)) rfl))))))) rfl
  exact rw_cast (hL16 0 (by omega) m none none (by exact ⟨Fr_rfl, fun _ => rfl⟩)) (lcons rfl (lcons rfl (lcons rfl (lcons rfl (lcons (lvI (by omega)) (lcons rfl (lcons rfl rfl))))))) rfl
theorem c_X5_commonDegree {d : Nat} {S : Env} {fz : Bool} {m : M1} {p : M2} (hd : 3 ≤ d) (n : Nat) (hP : PI p) (hn0 : 1 ≤ n) (hn : n ≤ 8) : Ct d k_X5_commonDegree S fz [.ref (35), .int (iI (((n : Nat) : Int)))] m p (fun v m' p' => v = some (.int (iI ((ecd 8 (m 36) (m 37) n (dg (m 37) n) : Nat) : Int))) ∧ PI p' ∧ Fr (fun a_ => a_ = 57 ∨ a_ = 58) m m') := by
  obtain ⟨d, rfl⟩ : ∃ e, d = e + 1 := ⟨d - 1, by omega⟩
  refine ct_go (lv := [some (.ref (35)), some (.int (iI (((n : Nat) : Int)))), none, none, none, none, none]) (Nat.le_of_ble_eq_true rfl) (okar_cons rfl (okar_cons rfl okar_nil)) rfl (fun Qr hQ => ?_)
  obtain ⟨u0, v0, hu0, hv0, hq0⟩ := hP.2.2.2.2.2.2.2.2.2.2.2.2
  refine rw_blk lk_X5_commonDegree_0 ?_
  refine rw_of (fun rr hrr => q_iload_n rfl (q_iconst (q_iadd (q_aload_n rfl (q_getR (show SH 35 = (14, 0) from rfl) rfl (pt_35_0 hP) (q_aload_n rfl (q_getR (show SH 35 = (14, 0) from rfl) rfl hu0 hrr))))))) ?_
  obtain ⟨_, mm1, pp2, hV3, rfl, rfl, hF3, hv3⟩ := c_X6_copy (S := S) (fz := fz) (m := m) (p := p) (d := d) (by omega) (n + 1) (36) (u0) (by omega) ((show SH 36 = (1, 9) from rfl)) ((SH_57 (hq0.elim (fun z => Or.inl z.1) (fun z => Or.inr z.1)))) (by omega) (by omega) (by omega)
  refine rw_of (fun rr hrr => q_invS hV3 rfl rfl (okar_cons rfl (okar_cons rfl (okar_cons rfl okar_nil))) (Nat.le_of_ble_eq_true rfl) (q_iload_n rfl (q_iconst (q_iadd (q_aload_n rfl (q_getR (show SH 35 = (14, 0) from rfl) rfl (pt_35_1 hP) (q_aload_n rfl (q_getR (show SH 35 = (14, 0) from rfl) rfl hv0 hrr)))))))) ?_
  obtain ⟨_, mm4, pp5, hV6, rfl, rfl, hF6, hv6⟩ := c_X6_copy (S := S) (fz := fz) (m := mm1) (p := p) (d := d) (by omega) (n + 1) (37) (v0) (by omega) ((show SH 37 = (1, 9) from rfl)) ((SH_57 (hq0.elim (fun z => Or.inr z.2) (fun z => Or.inl z.2)))) (by omega) (by omega) (by omega)
  refine rw_of (fun rr hrr => q_invS hV6 rfl rfl (okar_cons rfl (okar_cons rfl (okar_cons rfl okar_nil))) (Nat.le_of_ble_eq_true rfl) (q_iload_n rfl (q_istore_n (Nat.le_of_ble_eq_true rfl) rfl (q_aload_n rfl (q_getR (show SH 35 = (14, 0) from rfl) rfl hv0 (q_iload_n rfl (q_iconst (q_isub hrr)))))))) ?_
  obtain ⟨_, mm7, pp8, hV9, rfl, rfl, rfl⟩ := c_X5_degree (S := S) (fz := fz) (m := mm4) (p := p) (d := d) (by omega) (v0) (n) ((SH_57 (hq0.elim (fun z => Or.inr z.2) (fun z => Or.inl z.2)))) (by omega) (by omega)
  refine rw_of (fun rr hrr => q_invS (rest := []) hV9 (by rw [show ((((n : Nat) : Int) - 1) : Int) = ((n : Nat) : Int) - 1 by omega]; rfl) rfl (okar_cons rfl (okar_cons rfl okar_nil)) (Nat.le_of_ble_eq_true rfl) (q_istore_n (Nat.le_of_ble_eq_true rfl) rfl (q_iconst (q_istore (Nat.le_of_ble_eq_true rfl) rfl hrr)))) ?_
  have hL44 : ∀ t, t ≤ 8 → ∀ (m1 : M1) (p1 : M2) (u : Nat) (v : Nat) (hd : Nat) (ld : Nat) (x44_5 : Option Value) (x44_6 : Option Value), (PI p1 ∧ p1 35 5 = some u ∧ p1 35 6 = some v ∧ (u = 57 ∧ v = 58 ∨ u = 58 ∧ v = 57) ∧ Fr (fun a_ => a_ = 57 ∨ a_ = 58) m m1 ∧ ld ≤ hd ∧ hd ≤ 8 ∧ ecd (8 - t) (m1 u) (m1 v) hd ld = ecd 8 (m 36) (m 37) n (dg (m 37) n)) → Rw (Ev d) k_X5_commonDegree (44, [], [some (.ref (35)), some (.int (iI (((n : Nat) : Int)))), some (.int (iI (((hd : Nat) : Int)))), some (.int (iI (((ld : Nat) : Int) - 1))), some (.int (iI (((t : Nat) : Int)))), x44_5, x44_6], [], hpM S fz (m1, p1), 0, 0) Qr := by
    refine loop_any (fun t hi44 ih44 => ?_)
    intro m1 p1 u v hd ld x44_5 x44_6
    intro hI44
    obtain ⟨hP1, hu, hv, hq, hF, hlh, hh8, hec⟩ := hI44
    refine rw_blk lk_X5_commonDegree_44 ?_
    refine rw_of (fun rr hrr => q_iload rfl (q_bipush rfl hrr)) ?_
    refine rw_icmp_ge ⟨by omega, by omega⟩ ⟨by omega, by omega⟩ (t := 104) rfl (fun hc10 => ?_) (fun hc10 => ?_)
    · skip
      refine rw_blk lk_X5_commonDegree_104 ?_
      refine rw_of (fun rr hrr => q_iload_n rfl hrr) ?_
      refine rw_ret hQ (q_ireturn (Or.inl rfl)) ?_
      refine ⟨lvI ?_, hP1, hF⟩
      rw [← hec]
      by_cases q : 8 - t = 0
      · rw [q]
        rfl
      · rw [show 8 - t = (8 - t - 1) + 1 by omega]
        exact congrArg (fun z : Nat => (z : Int)) (show hd = if ld = 0 then hd else _ from (if_pos (by omega)).symm)
      
    · skip
      refine rw_of (fun rr hrr => q_iload_n rfl hrr) ?_
      refine rw_if_lt ⟨by omega, by omega⟩ (t := 104) rfl (fun hc11 => ?_) (fun hc11 => ?_)
      · skip
        refine rw_blk lk_X5_commonDegree_104 ?_
        refine rw_of (fun rr hrr => q_iload_n rfl hrr) ?_
        refine rw_ret hQ (q_ireturn (Or.inl rfl)) ?_
        refine ⟨lvI ?_, hP1, hF⟩
        rw [← hec]
        by_cases q : 8 - t = 0
        · rw [q]
          rfl
        · rw [show 8 - t = (8 - t - 1) + 1 by omega]
          exact congrArg (fun z : Nat => (z : Int)) (show hd = if ld = 0 then hd else _ from (if_pos (by omega)).symm)
        
      · skip
        refine rw_of (fun rr hrr => q_aload_n rfl (q_iload_n rfl (q_iload_n rfl hrr))) ?_
        obtain ⟨_, mm12, pp13, hV14, rfl, rfl, hF14, hv14⟩ := c_X5_takeRest (S := S) (fz := fz) (m := m1) (p := p1) (d := d) (by omega) (hd) (ld - 1) (u) (v) hP1 (hu) (hv) (hq) (by omega) (by omega)
        refine rw_of (fun rr hrr => q_invV (rest := []) hV14 (show SH 35 = (14, 0) from rfl) (by rw [show (((ld : Nat) : Int) - 1 : Int) = ((ld - 1 : Nat) : Int) by omega]; rfl) rfl (okar_cons rfl (okar_cons rfl okar_nil)) (Nat.le_of_ble_eq_true rfl) (q_aload_n rfl (q_getR (show SH 35 = (14, 0) from rfl) rfl hu (q_iload_n rfl (q_iconst (q_isub hrr)))))) ?_
        obtain ⟨_, mm15, pp16, hV17, rfl, rfl, rfl⟩ := c_X5_degree (S := S) (fz := fz) (m := mm12) (p := p1) (d := d) (by omega) (u) (ld - 1) ((SH_57 (hq.elim (fun z => Or.inl z.1) (fun z => Or.inr z.1)))) (by omega) (by omega)
        refine rw_of (fun rr hrr => q_invS (rest := []) hV17 (by rw [show ((((ld : Nat) : Int) - 1 - 1) : Int) = ((ld - 1 : Nat) : Int) - 1 by omega]; rfl) rfl (okar_cons rfl (okar_cons rfl okar_nil)) (Nat.le_of_ble_eq_true rfl) (q_istore (Nat.le_of_ble_eq_true rfl) rfl (q_aload_n rfl (q_getR (show SH 35 = (14, 0) from rfl) rfl hu (q_astore (Nat.le_of_ble_eq_true rfl) rfl (q_aload_n rfl (q_aload_n rfl (q_getR (show SH 35 = (14, 0) from rfl) rfl hv (q_putR (show SH 35 = (14, 0) from rfl) rfl rfl hrr))))))))) ?_
        generalize hp19 : w2 p1 35 5 (some v) = pp18
        refine rw_of (fun rr hrr => q_aload_n rfl (q_aload rfl (q_putR (show SH 35 = (14, 0) from rfl) rfl rfl hrr))) ?_
        generalize hp21 : w2 pp18 35 6 (some u) = pp20
        refine rw_of (fun rr hrr => q_iload_n rfl (q_istore_n (Nat.le_of_ble_eq_true rfl) rfl (q_iload rfl (q_istore_n (Nat.le_of_ble_eq_true rfl) rfl (q_iinc rfl rfl (q_goto (t := 44) rfl hrr)))))) ?_
        have hA22 : PI pp20 ∧ pp20 35 5 = some v ∧ pp20 35 6 = some u ∧ (v = 57 ∧ u = 58 ∨ v = 58 ∧ u = 57) ∧ Fr (fun a_ => a_ = 57 ∨ a_ = 58) m mm12 ∧ (dg (mm12 u) (ld - 1)) ≤ (ld - 1) ∧ (ld - 1) ≤ 8 ∧ ecd (8 - (t + 1)) (mm12 v) (mm12 u) (ld - 1) (dg (mm12 u) (ld - 1)) = ecd 8 (m 36) (m 37) n (dg (m 37) n) := by
          have hsw := PI_sw56 hP1 hp19 hp21 hq
          have hr : mm12 u = mdv hd (ld - 1) (m1 v) (m1 u) (hd - (ld - 1) + 1) := funext hv14
          refine ⟨hsw.1, hsw.2.1, hsw.2.2, by omega, Fr_trans hF (Fr_mono hF14 (fun a ha => by omega)), dg_le _, by omega, ?_⟩
          rw [← hec, show 8 - t = 8 - (t + 1) + 1 by omega, hF14 v (by omega), hr]
          exact (if_neg (by omega)).symm
        exact rw_cast (ih44 (by omega) mm12 pp20 v u (ld - 1) (dg (mm12 u) (ld - 1)) (some (.int (iI (((dg (mm12 u) (ld - 1) : Nat) : Int) - 1)))) (some (.ref (u))) hA22) (lcons rfl (lcons rfl (lcons (lvI (by omega)) (lcons (lvI (by rfl)) (lcons (lvI (by omega)) (lcons rfl (lcons rfl rfl))))))) rfl
  have hA23 : PI p ∧ p 35 5 = some u0 ∧ p 35 6 = some v0 ∧ (u0 = 57 ∧ v0 = 58 ∨ u0 = 58 ∧ v0 = 57) ∧ Fr (fun a_ => a_ = 57 ∨ a_ = 58) m mm4 ∧ (dg (mm4 v0) n) ≤ n ∧ n ≤ 8 ∧ ecd (8 - 0) (mm4 u0) (mm4 v0) n (dg (mm4 v0) n) = ecd 8 (m 36) (m 37) n (dg (m 37) n) := by
    have e1 : ∀ k, k ≤ n → mm4 u0 k = m 36 k := fun k hk => by rw [hF6 u0 (by omega), hv3, if_pos (by omega)]
    have e2 : ∀ k, k ≤ n → mm4 v0 k = m 37 k := fun k hk => by rw [hv6, if_pos (by omega), hF3 37 (by omega)]
    refine ⟨hP, hu0, hv0, hq0, Fr_trans (Fr_mono hF3 (fun a ha => by omega)) (Fr_mono hF6 (fun a ha => by omega)), dg_le n, hn, ?_⟩
    rw [dg_congr (fun k hk => e2 k (by omega))]
    exact ecd_congr 8 _ _ _ _ _ _ (dg_le n) e1 (fun k hk => e2 k (by have := dg_le (f := m 37) n; omega))
  exact rw_cast (hL44 0 (by omega) mm4 p u0 v0 n (dg (mm4 v0) n) none none hA23) (lcons rfl (lcons rfl (lcons rfl (lcons (lvI (by rfl)) (lcons (lvI (by omega)) (lcons rfl (lcons rfl rfl))))))) rfl
