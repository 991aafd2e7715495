theorem c_X2_times {d : Nat} {S : Env} {fz : Bool} {m : M1} {p : M2} (hd : 1 ≤ d) (x y : F)  : Ct d k_X2_times S fz [.int (iI (vF (x))), .int (iI (vF (y)))] m p (fun v m' p' => v = some (.int (iI (vF (x * y)))) ∧ m = m' ∧ p = p') := by
  obtain ⟨d, rfl⟩ : ∃ e, d = e + 1 := ⟨d - 1, by omega⟩
  refine ct_go (lv := [some (.int (iI (vF (x)))), some (.int (iI (vF (y))))]) (Nat.le_of_ble_eq_true rfl) (okar_cons rfl (okar_cons rfl okar_nil)) rfl (fun Qr hQ => ?_)
  refine rw_blk lk_X2_times_0 ?_
  refine rw_of (fun rr hrr => q_iload_n rfl (q_iload_n rfl (q_imul (q_sipush rfl (q_irem (rg_times _ _) ⟨by omega, by omega⟩ (by omega) (remF (Int.mul_nonneg (vF_ge _) (vF_ge _)) (show toF ((vF (x) * vF (y))) = ((x) * (y)) by simp only [toF_add, toF_mul, toF_sub, toF_neg, toF_vF, toF_0, toF_1, toF_M, F_add0, F_0sub])) hrr))))) ?_
  exact rw_ret hQ (q_ireturn (Or.inl rfl)) (by exact ⟨rfl, rfl, rfl⟩)
theorem c_X2_plus {d : Nat} {S : Env} {fz : Bool} {m : M1} {p : M2} (hd : 1 ≤ d) (x y : F)  : Ct d k_X2_plus S fz [.int (iI (vF (x))), .int (iI (vF (y)))] m p (fun v m' p' => v = some (.int (iI (vF (x + y)))) ∧ m = m' ∧ p = p') := by
  obtain ⟨d, rfl⟩ : ∃ e, d = e + 1 := ⟨d - 1, by omega⟩
  refine ct_go (lv := [some (.int (iI (vF (x)))), some (.int (iI (vF (y))))]) (Nat.le_of_ble_eq_true rfl) (okar_cons rfl (okar_cons rfl okar_nil)) rfl (fun Qr hQ => ?_)
  refine rw_blk lk_X2_plus_0 ?_
  refine rw_of (fun rr hrr => q_iload_n rfl (q_iload_n rfl (q_iadd (q_sipush rfl (q_irem (by have := vF_ge x; have := vF_lt x; have := vF_ge y; have := vF_lt y; exact ⟨by omega, by omega⟩) ⟨by omega, by omega⟩ (by omega) (remF (by have := vF_ge x; have := vF_lt x; have := vF_ge y; have := vF_lt y; omega) (show toF ((vF (x) + vF (y))) = ((x) + (y)) by simp only [toF_add, toF_mul, toF_sub, toF_neg, toF_vF, toF_0, toF_1, toF_M, F_add0, F_0sub])) hrr))))) ?_
  exact rw_ret hQ (q_ireturn (Or.inl rfl)) (by exact ⟨rfl, rfl, rfl⟩)
theorem c_X2_minus {d : Nat} {S : Env} {fz : Bool} {m : M1} {p : M2} (hd : 1 ≤ d) (x y : F)  : Ct d k_X2_minus S fz [.int (iI (vF (x))), .int (iI (vF (y)))] m p (fun v m' p' => v = some (.int (iI (vF (x - y)))) ∧ m = m' ∧ p = p') := by
  obtain ⟨d, rfl⟩ : ∃ e, d = e + 1 := ⟨d - 1, by omega⟩
  refine ct_go (lv := [some (.int (iI (vF (x)))), some (.int (iI (vF (y))))]) (Nat.le_of_ble_eq_true rfl) (okar_cons rfl (okar_cons rfl okar_nil)) rfl (fun Qr hQ => ?_)
  refine rw_blk lk_X2_minus_0 ?_
  refine rw_of (fun rr hrr => q_iload_n rfl (q_sipush rfl (q_iadd (q_iload_n rfl (q_isub (q_sipush rfl (q_irem (by have := vF_ge x; have := vF_lt x; have := vF_ge y; have := vF_lt y; exact ⟨by omega, by omega⟩) ⟨by omega, by omega⟩ (by omega) (remF (by have := vF_ge x; have := vF_lt x; have := vF_ge y; have := vF_lt y; omega) (show toF (((vF (x) + 10007) - vF (y))) = ((x) - (y)) by simp only [toF_add, toF_mul, toF_sub, toF_neg, toF_vF, toF_0, toF_1, toF_M, F_add0, F_0sub])) hrr))))))) ?_
  exact rw_ret hQ (q_ireturn (Or.inl rfl)) (by exact ⟨rfl, rfl, rfl⟩)
theorem c_X2_remainder {d : Nat} {S : Env} {fz : Bool} {m : M1} {p : M2} (hd : 1 ≤ d) (x : Int) (h : -10007 < x ∧ x < 10007) : Ct d k_X2_remainder S fz [.int (iI (x))] m p (fun v m' p' => v = some (.int (iI (vF (toF x)))) ∧ m = m' ∧ p = p') := by
  obtain ⟨d, rfl⟩ : ∃ e, d = e + 1 := ⟨d - 1, by omega⟩
  refine ct_go (lv := [some (.int (iI (x)))]) (Nat.le_of_ble_eq_true rfl) (okar_cons rfl okar_nil) rfl (fun Qr hQ => ?_)
  refine rw_blk lk_X2_remainder_0 ?_
  refine rw_of (fun rr hrr => q_iload_n rfl hrr) ?_
  refine rw_if_ge ⟨by omega, by omega⟩ (t := 12) rfl (fun hc1 => ?_) (fun hc1 => ?_)
  · skip
    refine rw_blk lk_X2_remainder_12 ?_
    refine rw_of (fun rr hrr => q_iload_n rfl hrr) ?_
    refine rw_blk lk_X2_remainder_13 ?_
    exact rw_ret hQ (q_ireturn (Or.inl rfl)) (by exact ⟨lvI (by rw [vF_toF]; omega), rfl, rfl⟩)
  · skip
    refine rw_of (fun rr hrr => q_iload_n rfl (q_sipush rfl (q_iadd (q_goto (t := 13) rfl hrr)))) ?_
    refine rw_blk lk_X2_remainder_13 ?_
    exact rw_ret hQ (q_ireturn (Or.inl rfl)) (by exact ⟨lvI (by rw [vF_toF]; omega), rfl, rfl⟩)
theorem c_L_rest {d : Nat} {S : Env} {fz : Bool} {m : M1} {p : M2} (hd : 1 ≤ d) (x : Int) (f : F) (h : -2147483648 ≤ x ∧ x < 2147483648) (hxf : toF x = f) : Ct d k_L_rest S fz [.int (iI (x))] m p (fun v m' p' => v = some (.int (iI (vF f))) ∧ m = m' ∧ p = p') := by
  obtain ⟨d, rfl⟩ : ∃ e, d = e + 1 := ⟨d - 1, by omega⟩
  refine ct_go (lv := [some (.int (iI (x))), none]) (Nat.le_of_ble_eq_true rfl) (okar_cons rfl okar_nil) rfl (fun Qr hQ => ?_)
  have ht : -10007 < x.tmod 10007 ∧ x.tmod 10007 < 10007 ∧ (x.tmod 10007 - x) % 10007 = 0 := by
    have h1 := Int.tmod_lt_of_pos x (show (0 : Int) < 10007 by omega)
    have h2 := Int.lt_tmod_of_pos x (show (0 : Int) < 10007 by omega)
    have h3 := Int.mul_tdiv_add_tmod x 10007
    omega
  subst hxf
  refine rw_blk lk_L_rest_0 ?_
  refine rw_of (fun rr hrr => q_iload_n rfl (q_sipush rfl (q_irem ⟨by omega, by omega⟩ ⟨by omega, by omega⟩ (by omega) (by rfl) (q_istore_n (Nat.le_of_ble_eq_true rfl) rfl (q_iload_n rfl hrr))))) ?_
  refine rw_if_ge ⟨by omega, by omega⟩ (t := 18) rfl (fun hc1 => ?_) (fun hc1 => ?_)
  · skip
    refine rw_blk lk_L_rest_18 ?_
    refine rw_of (fun rr hrr => q_iload_n rfl hrr) ?_
    refine rw_blk lk_L_rest_19 ?_
    exact rw_ret hQ (q_ireturn (Or.inl rfl)) (by exact ⟨lvI (by rw [vF_toF]; omega), rfl, rfl⟩)
  · skip
    refine rw_of (fun rr hrr => q_iload_n rfl (q_sipush rfl (q_iadd (q_goto (t := 19) rfl hrr)))) ?_
    refine rw_blk lk_L_rest_19 ?_
    exact rw_ret hQ (q_ireturn (Or.inl rfl)) (by exact ⟨lvI (by rw [vF_toF]; omega), rfl, rfl⟩)
theorem c_X2_quotient {d : Nat} {S : Env} {fz : Bool} {m : M1} {p : M2} (hd : 1 ≤ d) (x y : F)  : Ct d k_X2_quotient S fz [.int (iI (vF (x))), .int (iI (vF (y)))] m p (fun v m' p' => v = some (.int (iI (vF (x * iv y)))) ∧ m = m' ∧ p = p') := by
  obtain ⟨d, rfl⟩ : ∃ e, d = e + 1 := ⟨d - 1, by omega⟩
  refine ct_go (lv := [some (.int (iI (vF (x)))), some (.int (iI (vF (y)))), none, none, none]) (Nat.le_of_ble_eq_true rfl) (okar_cons rfl (okar_cons rfl okar_nil)) rfl (fun Qr hQ => ?_)
  refine rw_blk lk_X2_quotient_0 ?_
  refine rw_of (fun rr hrr => q_iload_n rfl (q_istore_n (Nat.le_of_ble_eq_true rfl) rfl (q_iload_n rfl (q_istore_n (Nat.le_of_ble_eq_true rfl) rfl (q_iconst (q_istore (Nat.le_of_ble_eq_true rfl) rfl hrr)))))) ?_
  have hL7 : ∀ i, i ≤ 14 → Rw (Ev d) k_X2_quotient (7, [], [some (.int (iI (vF (x)))), some (.int (iI (vF (y)))), some (.int (iI (vF (Rs x y i)))), some (.int (iI (vF (Pw y i)))), some (.int (iI (((i : Nat) : Int))))], [], hpM S fz (m, p), 0, 0) Qr := by
    refine loop_any (fun i hi7 ih7 => ?_)
    refine rw_blk lk_X2_quotient_7 ?_
    refine rw_of (fun rr hrr => q_iload rfl (q_bipush rfl hrr)) ?_
    refine rw_icmp_ge ⟨by omega, by omega⟩ ⟨by omega, by omega⟩ (t := 48) rfl (fun hc1 => ?_) (fun hc1 => ?_)
    · skip
      refine rw_blk lk_X2_quotient_48 ?_
      refine rw_of (fun rr hrr => q_iload_n rfl hrr) ?_
      exact rw_ret hQ (q_ireturn (Or.inl rfl)) (by exact ⟨lvI (congrArg vF ((show i = 14 by omega) ▸ Rs_mul x y 14)), rfl, rfl⟩)
    · skip
      refine rw_of (fun rr hrr => q_sipush rfl (q_iload rfl (q_ishr (iI_of _).symm (q_iconst (q_iand ((congrArg (· &&& iI 1) (iI_of _)).trans (tb_at (by omega))) (q_iconst hrr)))))) ?_
      refine rw_icmp_ne (by have := tb_01 i; exact ⟨by omega, by omega⟩) ⟨by omega, by omega⟩ (t := 34) rfl (fun hc2 => ?_) (fun hc2 => ?_)
      · skip
        refine rw_blk lk_X2_quotient_34 ?_
        refine rw_of (fun rr hrr => q_iload_n rfl (q_iload_n rfl (q_imul (q_sipush rfl (q_irem (rg_times _ _) ⟨by omega, by omega⟩ (by omega) (remF (Int.mul_nonneg (vF_ge _) (vF_ge _)) (show toF ((vF (Pw y i) * vF (Pw y i))) = ((Pw y i) * (Pw y i)) by simp only [toF_add, toF_mul, toF_sub, toF_neg, toF_vF, toF_0, toF_1, toF_M, F_add0, F_0sub])) (q_istore_n (Nat.le_of_ble_eq_true rfl) rfl (q_iinc rfl rfl (q_goto (t := 7) rfl hrr)))))))) ?_
        exact rw_cast (ih7 (by omega)) (lcons rfl (lcons rfl (lcons (lvI (by first | exact congrArg vF (Rs_1 (by omega)) | exact congrArg vF (Rs_0 (by omega)))) (lcons (lvI (by rfl)) (lcons (lvI (by omega)) rfl))))) rfl
      · skip
        refine rw_of (fun rr hrr => q_iload_n rfl (q_iload_n rfl (q_imul (q_sipush rfl (q_irem (rg_times _ _) ⟨by omega, by omega⟩ (by omega) (remF (Int.mul_nonneg (vF_ge _) (vF_ge _)) (show toF ((vF (Rs x y i) * vF (Pw y i))) = ((Rs x y i) * (Pw y i)) by simp only [toF_add, toF_mul, toF_sub, toF_neg, toF_vF, toF_0, toF_1, toF_M, F_add0, F_0sub])) (q_istore_n (Nat.le_of_ble_eq_true rfl) rfl hrr)))))) ?_
        refine rw_blk lk_X2_quotient_34 ?_
        refine rw_of (fun rr hrr => q_iload_n rfl (q_iload_n rfl (q_imul (q_sipush rfl (q_irem (rg_times _ _) ⟨by omega, by omega⟩ (by omega) (remF (Int.mul_nonneg (vF_ge _) (vF_ge _)) (show toF ((vF (Pw y i) * vF (Pw y i))) = ((Pw y i) * (Pw y i)) by simp only [toF_add, toF_mul, toF_sub, toF_neg, toF_vF, toF_0, toF_1, toF_M, F_add0, F_0sub])) (q_istore_n (Nat.le_of_ble_eq_true rfl) rfl (q_iinc rfl rfl (q_goto (t := 7) rfl hrr)))))))) ?_
        exact rw_cast (ih7 (by omega)) (lcons rfl (lcons rfl (lcons (lvI (by first | exact congrArg vF (Rs_1 (by omega)) | exact congrArg vF (Rs_0 (by omega)))) (lcons (lvI (by rfl)) (lcons (lvI (by omega)) rfl))))) rfl
  exact rw_cast (hL7 0 (by omega)) (lcons rfl (lcons rfl (lcons (lvI (by rfl)) (lcons (lvI (by rfl)) (lcons (lvI (by omega)) rfl))))) rfl
theorem c_L_inverse {d : Nat} {S : Env} {fz : Bool} {m : M1} {p : M2} (hd : 2 ≤ d) (x : Int) (f : F) (h : -2147483648 ≤ x ∧ x < 2147483648) (hxf : toF x = f) : Ct d k_L_inverse S fz [.int (iI (x))] m p (fun v m' p' => v = some (.int (iI (vF (iv f)))) ∧ m = m' ∧ p = p') := by
  obtain ⟨d, rfl⟩ : ∃ e, d = e + 1 := ⟨d - 1, by omega⟩
  refine ct_go (lv := [some (.int (iI (x))), none, none, none]) (Nat.le_of_ble_eq_true rfl) (okar_cons rfl okar_nil) rfl (fun Qr hQ => ?_)
  refine rw_blk lk_L_inverse_0 ?_
  refine rw_of (fun rr hrr => q_iconst (q_istore_n (Nat.le_of_ble_eq_true rfl) rfl (q_iload_n rfl hrr))) ?_
  obtain ⟨_, mm1, pp2, hV3, rfl, rfl, rfl⟩ := c_L_rest (S := S) (fz := fz) (m := m) (p := p) (d := d) (by omega) (x) (f) (by omega) (hxf)
  refine rw_of (fun rr hrr => q_invS hV3 rfl rfl (okar_cons rfl okar_nil) (Nat.le_of_ble_eq_true rfl) (q_istore_n (Nat.le_of_ble_eq_true rfl) rfl (q_sipush rfl (q_istore_n (Nat.le_of_ble_eq_true rfl) rfl hrr)))) ?_
  have hL11 : ∀ i, i ≤ 14 → Rw (Ev d) k_L_inverse (11, [], [some (.int (iI (x))), some (.int (iI (vF (Rs 1 f i)))), some (.int (iI (vF (Pw f i)))), some (.int (iI (((hf i : Nat) : Int))))], [], hpM S fz (m, p), 0, 0) Qr := by
    refine loop_any (fun i hi11 ih11 => ?_)
    have hp8 := hf_pos hi11; have hq8 := hf_le i; have hs8 := hf_s i; have ht8 := tb_hf i
    refine rw_blk lk_L_inverse_11 ?_
    refine rw_of (fun rr hrr => q_iload_n rfl hrr) ?_
    refine rw_if_le ⟨by omega, by omega⟩ (t := 49) rfl (fun hc4 => ?_) (fun hc4 => ?_)
    · skip
      refine rw_blk lk_L_inverse_49 ?_
      refine rw_of (fun rr hrr => q_iload_n rfl hrr) ?_
      exact rw_ret hQ (q_ireturn (Or.inl rfl)) (by exact ⟨lvI (congrArg vF ((show i = 14 by omega) ▸ rfl)), rfl, rfl⟩)
    · skip
      refine rw_of (fun rr hrr => q_iload_n rfl (q_iconst (q_irem ⟨by omega, by omega⟩ ⟨by omega, by omega⟩ (by omega) (show (((hf i : Nat) : Int)).tmod (2) = (((hf i) % 2 : Nat) : Int) by rfl) (q_iconst hrr)))) ?_
      refine rw_icmp_ne ⟨by omega, by omega⟩ ⟨by omega, by omega⟩ (t := 32) rfl (fun hc5 => ?_) (fun hc5 => ?_)
      · skip
        refine rw_blk lk_L_inverse_32 ?_
        refine rw_of (fun rr hrr => q_iload_n rfl hrr) ?_
        refine rw_blk lk_L_inverse_33 ?_
        refine rw_of (fun rr hrr => q_istore_n (Nat.le_of_ble_eq_true rfl) rfl (q_iload_n rfl (q_iload_n rfl (q_imul (q_sipush rfl (q_irem (rg_times _ _) ⟨by omega, by omega⟩ (by omega) (remF (Int.mul_nonneg (vF_ge _) (vF_ge _)) (show toF ((vF (Pw f i) * vF (Pw f i))) = ((Pw f i) * (Pw f i)) by simp only [toF_add, toF_mul, toF_sub, toF_neg, toF_vF, toF_0, toF_1, toF_M, F_add0, F_0sub])) (q_istore_n (Nat.le_of_ble_eq_true rfl) rfl (q_iload_n rfl (q_iconst (q_idiv ⟨by omega, by omega⟩ ⟨by omega, by omega⟩ (by omega) (show (((hf i : Nat) : Int)).tdiv (2) = (((hf i) / 2 : Nat) : Int) by rfl) (q_istore_n (Nat.le_of_ble_eq_true rfl) rfl (q_goto (t := 11) rfl hrr)))))))))))) ?_
        exact rw_cast (ih11 (by omega)) (lcons rfl (lcons (lvI (by first | exact congrArg vF (Rs_1 (by omega)) | exact congrArg vF (Rs_0 (by omega)))) (lcons (lvI (by rfl)) (lcons (lvI (by omega)) rfl)))) rfl
      · skip
        refine rw_of (fun rr hrr => q_iload_n rfl (q_iload_n rfl (q_imul (q_sipush rfl (q_irem (rg_times _ _) ⟨by omega, by omega⟩ (by omega) (remF (Int.mul_nonneg (vF_ge _) (vF_ge _)) (show toF ((vF (Rs 1 f i) * vF (Pw f i))) = ((Rs 1 f i) * (Pw f i)) by simp only [toF_add, toF_mul, toF_sub, toF_neg, toF_vF, toF_0, toF_1, toF_M, F_add0, F_0sub])) (q_goto (t := 33) rfl hrr)))))) ?_
        refine rw_blk lk_L_inverse_33 ?_
        refine rw_of (fun rr hrr => q_istore_n (Nat.le_of_ble_eq_true rfl) rfl (q_iload_n rfl (q_iload_n rfl (q_imul (q_sipush rfl (q_irem (rg_times _ _) ⟨by omega, by omega⟩ (by omega) (remF (Int.mul_nonneg (vF_ge _) (vF_ge _)) (show toF ((vF (Pw f i) * vF (Pw f i))) = ((Pw f i) * (Pw f i)) by simp only [toF_add, toF_mul, toF_sub, toF_neg, toF_vF, toF_0, toF_1, toF_M, F_add0, F_0sub])) (q_istore_n (Nat.le_of_ble_eq_true rfl) rfl (q_iload_n rfl (q_iconst (q_idiv ⟨by omega, by omega⟩ ⟨by omega, by omega⟩ (by omega) (show (((hf i : Nat) : Int)).tdiv (2) = (((hf i) / 2 : Nat) : Int) by rfl) (q_istore_n (Nat.le_of_ble_eq_true rfl) rfl (q_goto (t := 11) rfl hrr)))))))))))) ?_
        exact rw_cast (ih11 (by omega)) (lcons rfl (lcons (lvI (by first | exact congrArg vF (Rs_1 (by omega)) | exact congrArg vF (Rs_0 (by omega)))) (lcons (lvI (by rfl)) (lcons (lvI (by omega)) rfl)))) rfl
  exact rw_cast (hL11 0 (by omega)) (lcons rfl (lcons (lvI (by rfl)) (lcons (lvI (by rfl)) (lcons (lvI (by rfl)) rfl)))) rfl
