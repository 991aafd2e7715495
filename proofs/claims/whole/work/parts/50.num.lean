theorem c_X2_times {d : Nat} {S : MC} {fz : Bool} {m : M1} {p : M2} (hd : 1 ≤ d) (x y : F)  : Ct d k_X2_times S fz [.int (iI (vF (x))), .int (iI (vF (y)))] m p (fun v m' p' => v = some (.int (iI (vF (x * y)))) ∧ m = m' ∧ p = p') := by
  obtain ⟨d, rfl⟩ : ∃ e, d = e + 1 := ⟨d - 1, by omega⟩
  refine ct_go (lv := [some (.int (iI (vF (x)))), some (.int (iI (vF (y))))]) (Nat.le_of_ble_eq_true rfl) (okar_cons rfl (okar_cons rfl okar_nil)) rfl (fun Qr hQ => ?_)
  refine rw_blk lk_X2_times_0 ?_
  refine rw_of (fun r hr => q_iload_n rfl (q_iload_n rfl (q_imul (q_sipush rfl (q_irem (rg_times _ _) ⟨by omega, by omega⟩ (by omega) (remF (Int.mul_nonneg (vF_ge _) (vF_ge _)) (show toF ((vF (x) * vF (y))) = ((x) * (y)) by simp only [toF_add, toF_mul, toF_sub, toF_neg, toF_vF, toF_0, toF_1, toF_M, F_add0, F_0sub])) hr))))) ?_
  exact rw_ret hQ (q_ireturn (Or.inl rfl)) (by exact ⟨rfl, rfl, rfl⟩)
theorem c_X2_plus {d : Nat} {S : MC} {fz : Bool} {m : M1} {p : M2} (hd : 1 ≤ d) (x y : F)  : Ct d k_X2_plus S fz [.int (iI (vF (x))), .int (iI (vF (y)))] m p (fun v m' p' => v = some (.int (iI (vF (x + y)))) ∧ m = m' ∧ p = p') := by
  obtain ⟨d, rfl⟩ : ∃ e, d = e + 1 := ⟨d - 1, by omega⟩
  refine ct_go (lv := [some (.int (iI (vF (x)))), some (.int (iI (vF (y))))]) (Nat.le_of_ble_eq_true rfl) (okar_cons rfl (okar_cons rfl okar_nil)) rfl (fun Qr hQ => ?_)
  refine rw_blk lk_X2_plus_0 ?_
  refine rw_of (fun r hr => q_iload_n rfl (q_iload_n rfl (q_iadd (q_sipush rfl (q_irem (by have := vF_ge x; have := vF_lt x; have := vF_ge y; have := vF_lt y; exact ⟨by omega, by omega⟩) ⟨by omega, by omega⟩ (by omega) (remF (by have := vF_ge x; have := vF_lt x; have := vF_ge y; have := vF_lt y; omega) (show toF ((vF (x) + vF (y))) = ((x) + (y)) by simp only [toF_add, toF_mul, toF_sub, toF_neg, toF_vF, toF_0, toF_1, toF_M, F_add0, F_0sub])) hr))))) ?_
  exact rw_ret hQ (q_ireturn (Or.inl rfl)) (by exact ⟨rfl, rfl, rfl⟩)
theorem c_X2_minus {d : Nat} {S : MC} {fz : Bool} {m : M1} {p : M2} (hd : 1 ≤ d) (x y : F)  : Ct d k_X2_minus S fz [.int (iI (vF (x))), .int (iI (vF (y)))] m p (fun v m' p' => v = some (.int (iI (vF (x - y)))) ∧ m = m' ∧ p = p') := by
  obtain ⟨d, rfl⟩ : ∃ e, d = e + 1 := ⟨d - 1, by omega⟩
  refine ct_go (lv := [some (.int (iI (vF (x)))), some (.int (iI (vF (y))))]) (Nat.le_of_ble_eq_true rfl) (okar_cons rfl (okar_cons rfl okar_nil)) rfl (fun Qr hQ => ?_)
  refine rw_blk lk_X2_minus_0 ?_
  refine rw_of (fun r hr => q_iload_n rfl (q_sipush rfl (q_iadd (q_iload_n rfl (q_isub (q_sipush rfl (q_irem (by have := vF_ge x; have := vF_lt x; have := vF_ge y; have := vF_lt y; exact ⟨by omega, by omega⟩) ⟨by omega, by omega⟩ (by omega) (remF (by have := vF_ge x; have := vF_lt x; have := vF_ge y; have := vF_lt y; omega) (show toF (((vF (x) + 10007) - vF (y))) = ((x) - (y)) by simp only [toF_add, toF_mul, toF_sub, toF_neg, toF_vF, toF_0, toF_1, toF_M, F_add0, F_0sub])) hr))))))) ?_
  exact rw_ret hQ (q_ireturn (Or.inl rfl)) (by exact ⟨rfl, rfl, rfl⟩)
theorem c_X10_times {d : Nat} {S : MC} {fz : Bool} {m : M1} {p : M2} (hd : 1 ≤ d) (x y : F)  : Ct d k_X10_times S fz [.int (iI (vF (x))), .int (iI (vF (y)))] m p (fun v m' p' => v = some (.int (iI (vF (x * y)))) ∧ m = m' ∧ p = p') := by
  obtain ⟨d, rfl⟩ : ∃ e, d = e + 1 := ⟨d - 1, by omega⟩
  refine ct_go (lv := [some (.int (iI (vF (x)))), some (.int (iI (vF (y))))]) (Nat.le_of_ble_eq_true rfl) (okar_cons rfl (okar_cons rfl okar_nil)) rfl (fun Qr hQ => ?_)
  refine rw_blk lk_X10_times_0 ?_
  refine rw_of (fun r hr => q_iload_n rfl (q_iload_n rfl (q_imul (q_sipush rfl (q_irem (rg_times _ _) ⟨by omega, by omega⟩ (by omega) (remF (Int.mul_nonneg (vF_ge _) (vF_ge _)) (show toF ((vF (x) * vF (y))) = ((x) * (y)) by simp only [toF_add, toF_mul, toF_sub, toF_neg, toF_vF, toF_0, toF_1, toF_M, F_add0, F_0sub])) hr))))) ?_
  exact rw_ret hQ (q_ireturn (Or.inl rfl)) (by exact ⟨rfl, rfl, rfl⟩)
theorem c_X2_remainder {d : Nat} {S : MC} {fz : Bool} {m : M1} {p : M2} (hd : 1 ≤ d) (x : Int) (h : -10007 < x ∧ x < 10007) : Ct d k_X2_remainder S fz [.int (iI (x))] m p (fun v m' p' => v = some (.int (iI (vF (toF x)))) ∧ m = m' ∧ p = p') := by
  obtain ⟨d, rfl⟩ : ∃ e, d = e + 1 := ⟨d - 1, by omega⟩
  refine ct_go (lv := [some (.int (iI (x)))]) (Nat.le_of_ble_eq_true rfl) (okar_cons rfl okar_nil) rfl (fun Qr hQ => ?_)
  refine rw_blk lk_X2_remainder_0 ?_
  refine rw_of (fun r hr => q_iload_n rfl hr) ?_
  refine rw_if_ge ⟨by omega, by omega⟩ (t := 12) rfl (fun hc1 => ?_) (fun hc1 => ?_)
  · skip
    refine rw_blk lk_X2_remainder_12 ?_
    refine rw_of (fun r hr => q_iload_n rfl hr) ?_
    refine rw_blk lk_X2_remainder_13 ?_
    exact rw_ret hQ (q_ireturn (Or.inl rfl)) (by exact ⟨lvI (by rw [vF_toF]; omega), rfl, rfl⟩)
  · skip
    refine rw_of (fun r hr => q_iload_n rfl (q_sipush rfl (q_iadd (q_goto (t := 13) rfl hr)))) ?_
    refine rw_blk lk_X2_remainder_13 ?_
    exact rw_ret hQ (q_ireturn (Or.inl rfl)) (by exact ⟨lvI (by rw [vF_toF]; omega), rfl, rfl⟩)
theorem c_X10_rest {d : Nat} {S : MC} {fz : Bool} {m : M1} {p : M2} (hd : 1 ≤ d) (x : Int) (h : -200000000 ≤ x ∧ x ≤ 200000000) : Ct d k_X10_rest S fz [.int (iI (x))] m p (fun v m' p' => v = some (.int (iI (vF (toF x)))) ∧ m = m' ∧ p = p') := by
  obtain ⟨d, rfl⟩ : ∃ e, d = e + 1 := ⟨d - 1, by omega⟩
  refine ct_go (lv := [some (.int (iI (x))), none]) (Nat.le_of_ble_eq_true rfl) (okar_cons rfl okar_nil) rfl (fun Qr hQ => ?_)
  have ht : -10007 < x.tmod 10007 ∧ x.tmod 10007 < 10007 ∧ (x.tmod 10007 - x) % 10007 = 0 := by
    have h1 := Int.tmod_lt_of_pos x (show (0 : Int) < 10007 by omega)
    have h2 := Int.lt_tmod_of_pos x (show (0 : Int) < 10007 by omega)
    have h3 := Int.mul_tdiv_add_tmod x 10007
    omega
  refine rw_blk lk_X10_rest_0 ?_
  refine rw_of (fun r hr => q_iload_n rfl (q_sipush rfl (q_irem ⟨by omega, by omega⟩ ⟨by omega, by omega⟩ (by omega) (by rfl) (q_istore_n (Nat.le_of_ble_eq_true rfl) rfl (q_iload_n rfl hr))))) ?_
  refine rw_if_ge ⟨by omega, by omega⟩ (t := 18) rfl (fun hc1 => ?_) (fun hc1 => ?_)
  · skip
    refine rw_blk lk_X10_rest_18 ?_
    refine rw_of (fun r hr => q_iload_n rfl hr) ?_
    refine rw_blk lk_X10_rest_19 ?_
    exact rw_ret hQ (q_ireturn (Or.inl rfl)) (by exact ⟨lvI (by rw [vF_toF]; omega), rfl, rfl⟩)
  · skip
    refine rw_of (fun r hr => q_iload_n rfl (q_sipush rfl (q_iadd (q_goto (t := 19) rfl hr)))) ?_
    refine rw_blk lk_X10_rest_19 ?_
    exact rw_ret hQ (q_ireturn (Or.inl rfl)) (by exact ⟨lvI (by rw [vF_toF]; omega), rfl, rfl⟩)
