theorem c_X10_told0 {d : Nat} {S : MC} {fz : Bool} {m : M1} {p : M2} (hd : 2 ≤ d) (s : Nat) (i : Nat) (j : Nat) (hP : PI p) (hs12 : s ≤ 12) (hi : i < 8) (hj : j < 8) : Ct d k_X10_told S fz [.ref (261), .int (iI (((s : Nat) : Int))), .int (iI (0)), .int (iI (((i : Nat) : Int))), .int (iI (((j : Nat) : Int)))] m p (fun v m' p' => v = some (.int (iI (vF (m 263 (64 * s + 8 * i + j))))) ∧ m = m' ∧ p = p') := by
  obtain ⟨d, rfl⟩ : ∃ e, d = e + 1 := ⟨d - 1, by omega⟩
  refine ct_go (lv := [some (.ref (261)), some (.int (iI (((s : Nat) : Int)))), some (.int (iI (0))), some (.int (iI (((i : Nat) : Int)))), some (.int (iI (((j : Nat) : Int))))]) (Nat.le_of_ble_eq_true rfl) (okar_cons rfl (okar_cons rfl (okar_cons rfl (okar_cons rfl (okar_cons rfl okar_nil))))) rfl (fun Qr hQ => ?_)
  refine rw_blk lk_X10_told_0 ?_
  refine rw_of (fun rr hrr => q_iload_n rfl hrr) ?_
  refine rw_if_ne ⟨by omega, by omega⟩ (t := 15) rfl (fun hc1 => ?_) (fun hc1 => ?_)
  · exfalso; omega
  · skip
    refine rw_of (fun rr hrr => q_aload_n rfl (q_iload_n rfl (q_iload_n rfl (q_iload rfl hrr)))) ?_
    obtain ⟨_, mm2, pp3, hV4, rfl, rfl, rfl⟩ := c_X10_square (S := S) (fz := fz) (m := m) (p := p) (d := d) (by omega) (s) (i) (j) hP (by omega) (by omega) (by omega)
    refine rw_of (fun rr hrr => q_invV hV4 (show SH 261 = (18, 0) from rfl) rfl rfl (okar_cons rfl (okar_cons rfl (okar_cons rfl okar_nil))) (Nat.le_of_ble_eq_true rfl) (q_goto (t := 60) rfl hrr)) ?_
    refine rw_blk lk_X10_told_60 ?_
    exact rw_ret hQ (q_ireturn (Or.inl rfl)) (by exact ⟨rfl, rfl, rfl⟩)
theorem c_X10_told1 {d : Nat} {S : MC} {fz : Bool} {m : M1} {p : M2} (hd : 2 ≤ d) (s : Nat) (i : Nat) (j : Int) (hP : PI p) (hs12 : s ≤ 12) (hi : i < 8) : Ct d k_X10_told S fz [.ref (261), .int (iI (((s : Nat) : Int))), .int (iI (1)), .int (iI (((i : Nat) : Int))), .int (iI (j))] m p (fun v m' p' => v = some (.int (iI (vF (m 264 (8 * s + i))))) ∧ m = m' ∧ p = p') := by
  obtain ⟨d, rfl⟩ : ∃ e, d = e + 1 := ⟨d - 1, by omega⟩
  refine ct_go (lv := [some (.ref (261)), some (.int (iI (((s : Nat) : Int)))), some (.int (iI (1))), some (.int (iI (((i : Nat) : Int)))), some (.int (iI (j)))]) (Nat.le_of_ble_eq_true rfl) (okar_cons rfl (okar_cons rfl (okar_cons rfl (okar_cons rfl (okar_cons rfl okar_nil))))) rfl (fun Qr hQ => ?_)
  refine rw_blk lk_X10_told_0 ?_
  refine rw_of (fun rr hrr => q_iload_n rfl hrr) ?_
  refine rw_if_ne ⟨by omega, by omega⟩ (t := 15) rfl (fun hc1 => ?_) (fun hc1 => ?_)
  · skip
    refine rw_blk lk_X10_told_15 ?_
    refine rw_of (fun rr hrr => q_iload_n rfl (q_iconst hrr)) ?_
    refine rw_icmp_ne ⟨by omega, by omega⟩ ⟨by omega, by omega⟩ (t := 34) rfl (fun hc2 => ?_) (fun hc2 => ?_)
    · exfalso; omega
    · skip
      refine rw_of (fun rr hrr => q_aload_n rfl (q_getR (show SH 261 = (18, 0) from rfl) rfl (pt_261_3 hP) (q_bipush rfl (q_iload_n rfl (q_imul (q_iload_n rfl (q_iadd (q_iald (j := 8 * s + i) (show SH 264 = (1, 104) from rfl) (by omega) (by omega) rfl (q_goto (t := 60) rfl hrr))))))))) ?_
      refine rw_blk lk_X10_told_60 ?_
      exact rw_ret hQ (q_ireturn (Or.inl rfl)) (by exact ⟨rfl, rfl, rfl⟩)
  · exfalso; omega
theorem c_X10_told2 {d : Nat} {S : MC} {fz : Bool} {m : M1} {p : M2} (hd : 2 ≤ d) (s : Nat) (i : Int) (j : Nat) (hP : PI p) (hs12 : s ≤ 12) (hj : j < 8) : Ct d k_X10_told S fz [.ref (261), .int (iI (((s : Nat) : Int))), .int (iI (2)), .int (iI (i)), .int (iI (((j : Nat) : Int)))] m p (fun v m' p' => v = some (.int (iI (vF (m 265 (8 * s + j))))) ∧ m = m' ∧ p = p') := by
  obtain ⟨d, rfl⟩ : ∃ e, d = e + 1 := ⟨d - 1, by omega⟩
  refine ct_go (lv := [some (.ref (261)), some (.int (iI (((s : Nat) : Int)))), some (.int (iI (2))), some (.int (iI (i))), some (.int (iI (((j : Nat) : Int))))]) (Nat.le_of_ble_eq_true rfl) (okar_cons rfl (okar_cons rfl (okar_cons rfl (okar_cons rfl (okar_cons rfl okar_nil))))) rfl (fun Qr hQ => ?_)
  refine rw_blk lk_X10_told_0 ?_
  refine rw_of (fun rr hrr => q_iload_n rfl hrr) ?_
  refine rw_if_ne ⟨by omega, by omega⟩ (t := 15) rfl (fun hc1 => ?_) (fun hc1 => ?_)
  · skip
    refine rw_blk lk_X10_told_15 ?_
    refine rw_of (fun rr hrr => q_iload_n rfl (q_iconst hrr)) ?_
    refine rw_icmp_ne ⟨by omega, by omega⟩ ⟨by omega, by omega⟩ (t := 34) rfl (fun hc2 => ?_) (fun hc2 => ?_)
    · skip
      refine rw_blk lk_X10_told_34 ?_
      refine rw_of (fun rr hrr => q_iload_n rfl (q_iconst hrr)) ?_
      refine rw_icmp_ne ⟨by omega, by omega⟩ ⟨by omega, by omega⟩ (t := 54) rfl (fun hc3 => ?_) (fun hc3 => ?_)
      · exfalso; omega
      · skip
        refine rw_of (fun rr hrr => q_aload_n rfl (q_getR (show SH 261 = (18, 0) from rfl) rfl (pt_261_4 hP) (q_bipush rfl (q_iload_n rfl (q_imul (q_iload rfl (q_iadd (q_iald (j := 8 * s + j) (show SH 265 = (1, 104) from rfl) (by omega) (by omega) rfl (q_goto (t := 60) rfl hrr))))))))) ?_
        refine rw_blk lk_X10_told_60 ?_
        exact rw_ret hQ (q_ireturn (Or.inl rfl)) (by exact ⟨rfl, rfl, rfl⟩)
    · exfalso; omega
  · exfalso; omega
theorem c_X10_told3 {d : Nat} {S : MC} {fz : Bool} {m : M1} {p : M2} (hd : 2 ≤ d) (s : Nat) (i : Int) (j : Int) (hP : PI p) (hs12 : s ≤ 12) : Ct d k_X10_told S fz [.ref (261), .int (iI (((s : Nat) : Int))), .int (iI (3)), .int (iI (i)), .int (iI (j))] m p (fun v m' p' => v = some (.int (iI (vF (m 266 s)))) ∧ m = m' ∧ p = p') := by
  obtain ⟨d, rfl⟩ : ∃ e, d = e + 1 := ⟨d - 1, by omega⟩
  refine ct_go (lv := [some (.ref (261)), some (.int (iI (((s : Nat) : Int)))), some (.int (iI (3))), some (.int (iI (i))), some (.int (iI (j)))]) (Nat.le_of_ble_eq_true rfl) (okar_cons rfl (okar_cons rfl (okar_cons rfl (okar_cons rfl (okar_cons rfl okar_nil))))) rfl (fun Qr hQ => ?_)
  refine rw_blk lk_X10_told_0 ?_
  refine rw_of (fun rr hrr => q_iload_n rfl hrr) ?_
  refine rw_if_ne ⟨by omega, by omega⟩ (t := 15) rfl (fun hc1 => ?_) (fun hc1 => ?_)
  · skip
    refine rw_blk lk_X10_told_15 ?_
    refine rw_of (fun rr hrr => q_iload_n rfl (q_iconst hrr)) ?_
    refine rw_icmp_ne ⟨by omega, by omega⟩ ⟨by omega, by omega⟩ (t := 34) rfl (fun hc2 => ?_) (fun hc2 => ?_)
    · skip
      refine rw_blk lk_X10_told_34 ?_
      refine rw_of (fun rr hrr => q_iload_n rfl (q_iconst hrr)) ?_
      refine rw_icmp_ne ⟨by omega, by omega⟩ ⟨by omega, by omega⟩ (t := 54) rfl (fun hc3 => ?_) (fun hc3 => ?_)
      · skip
        refine rw_blk lk_X10_told_54 ?_
        refine rw_of (fun rr hrr => q_aload_n rfl (q_getR (show SH 261 = (18, 0) from rfl) rfl (pt_261_5 hP) (q_iload_n rfl (q_iald (j := s) (show SH 266 = (1, 13) from rfl) rfl (by omega) rfl hrr)))) ?_
        refine rw_blk lk_X10_told_60 ?_
        exact rw_ret hQ (q_ireturn (Or.inl rfl)) (by exact ⟨rfl, rfl, rfl⟩)
      · exfalso; omega
    · exfalso; omega
  · exfalso; omega
