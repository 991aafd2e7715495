theorem c_X10_order1 {d : Nat} {S : MC} {fz : Bool} {m : M1} {p : M2} (hd : 3 ≤ d) (s k n : Nat) (hP : PI p) (hk : m 261 0 = nF k) (hk12 : k ≤ 12) (hsk : s < k) (hm : m 262 s = nF n) (hn0 : 1 ≤ n) (hn : n ≤ 8) : Ct d k_X10_order S fz [.ref (261), .int (iI (((s : Nat) : Int)))] m p (fun v m' p' => v = some (.int (iI ((n : Nat) : Int))) ∧ p = p' ∧ w1 m 261 21 0 = m') := by
  obtain ⟨d, rfl⟩ : ∃ e, d = e + 1 := ⟨d - 1, by omega⟩
  refine ct_go (lv := [some (.ref (261)), some (.int (iI (((s : Nat) : Int))))]) (Nat.le_of_ble_eq_true rfl) (okar_cons rfl (okar_cons rfl okar_nil)) rfl (fun Qr hQ => ?_)
  refine rw_blk lk_X10_order_0 ?_
  refine rw_of (fun rr hrr => q_aload_n rfl (q_aload_n rfl (q_iload_n rfl hrr))) ?_
  obtain ⟨_, mm1, pp2, hV3, rfl, rfl, rfl⟩ := c_X10_isSystem1 (S := S) (fz := fz) (m := m) (p := p) (d := d) (by omega) (((s : Nat) : Int)) (k) hP hk (by omega) (by omega) (by omega)
  refine rw_of (fun rr hrr => q_invV hV3 (show SH 261 = (18, 0) from rfl) rfl rfl (okar_cons rfl okar_nil) (Nat.le_of_ble_eq_true rfl) hrr) ?_
  refine rw_if_eq ⟨by omega, by omega⟩ (t := 13) rfl (fun hc4 => ?_) (fun hc4 => ?_)
  · skip
    refine rw_blk lk_X10_order_13 ?_
    refine rw_of (fun rr hrr => q_iconst hrr) ?_
    refine rw_blk lk_X10_order_14 ?_
    obtain ⟨_, mm5, pp6, hV7, rfl, rfl, hw7, hF7⟩ := c_X10_fails1 (S := S) (fz := fz) (m := m) (p := p) (d := d) (by omega) (1) hP (by omega)
    refine rw_of (fun rr hrr => q_invV hV7 (show SH 261 = (18, 0) from rfl) rfl rfl (okar_cons rfl okar_nil) (Nat.le_of_ble_eq_true rfl) hrr) ?_
    refine rw_if_eq ⟨by omega, by omega⟩ (t := 24) rfl (fun hc8 => ?_) (fun hc8 => ?_)
    · skip
      refine rw_blk lk_X10_order_24 ?_
      refine rw_of (fun rr hrr => q_aload_n rfl (q_getR (show SH 261 = (18, 0) from rfl) rfl (pt_261_1 hP) (q_iload_n rfl (q_iald (j := s) (show SH 262 = (1, 13) from rfl) rfl (by omega) (ki (kw hw7 (by omega)) hm (by omega)) hrr)))) ?_
      refine rw_blk lk_X10_order_30 ?_
      refine rw_ret hQ (q_ireturn (Or.inl rfl)) ?_
      first
        | exact ⟨rfl, rfl, rfl⟩
        | (exfalso; omega)
      
    · skip
      refine rw_of (fun rr hrr => q_iconst (q_goto (t := 30) rfl hrr)) ?_
      refine rw_blk lk_X10_order_30 ?_
      refine rw_ret hQ (q_ireturn (Or.inl rfl)) ?_
      first
        | exact ⟨rfl, rfl, rfl⟩
        | (exfalso; omega)
      
  · skip
    refine rw_of (fun rr hrr => q_iconst (q_goto (t := 14) rfl hrr)) ?_
    refine rw_blk lk_X10_order_14 ?_
    obtain ⟨_, mm9, pp10, hV11, rfl, rfl, hw11, hF11⟩ := c_X10_fails0 (S := S) (fz := fz) (m := m) (p := p) (d := d) (by omega) hP
    refine rw_of (fun rr hrr => q_invV hV11 (show SH 261 = (18, 0) from rfl) rfl rfl (okar_cons rfl okar_nil) (Nat.le_of_ble_eq_true rfl) hrr) ?_
    refine rw_if_eq ⟨by omega, by omega⟩ (t := 24) rfl (fun hc12 => ?_) (fun hc12 => ?_)
    · skip
      refine rw_blk lk_X10_order_24 ?_
      refine rw_of (fun rr hrr => q_aload_n rfl (q_getR (show SH 261 = (18, 0) from rfl) rfl (pt_261_1 hP) (q_iload_n rfl (q_iald (j := s) (show SH 262 = (1, 13) from rfl) rfl (by omega) (ki (kw hw11 (by omega)) hm (by omega)) hrr)))) ?_
      refine rw_blk lk_X10_order_30 ?_
      refine rw_ret hQ (q_ireturn (Or.inl rfl)) ?_
      first
        | exact ⟨rfl, rfl, hw11⟩
        | (exfalso; omega)
      
    · skip
      refine rw_of (fun rr hrr => q_iconst (q_goto (t := 30) rfl hrr)) ?_
      refine rw_blk lk_X10_order_30 ?_
      refine rw_ret hQ (q_ireturn (Or.inl rfl)) ?_
      first
        | exact ⟨rfl, rfl, hw11⟩
        | (exfalso; omega)
      
theorem c_X10_order0 {d : Nat} {S : MC} {fz : Bool} {m : M1} {p : M2} (hd : 3 ≤ d) (s : Int) (k : Nat) (hP : PI p) (hk : m 261 0 = nF k) (hk12 : k ≤ 12) (hr : (-2147483648 ≤ s ∧ s < 2147483648)) (h : ¬ (0 ≤ s ∧ s < k)) : Ct d k_X10_order S fz [.ref (261), .int (iI (s))] m p (fun v m' p' => v = some (.int (iI 0)) ∧ p = p' ∧ w1 m 261 21 (nF 1) = m') := by
  obtain ⟨d, rfl⟩ : ∃ e, d = e + 1 := ⟨d - 1, by omega⟩
  refine ct_go (lv := [some (.ref (261)), some (.int (iI (s)))]) (Nat.le_of_ble_eq_true rfl) (okar_cons rfl (okar_cons rfl okar_nil)) rfl (fun Qr hQ => ?_)
  refine rw_blk lk_X10_order_0 ?_
  refine rw_of (fun rr hrr => q_aload_n rfl (q_aload_n rfl (q_iload_n rfl hrr))) ?_
  obtain ⟨_, mm1, pp2, hV3, rfl, rfl, rfl⟩ := c_X10_isSystem0 (S := S) (fz := fz) (m := m) (p := p) (d := d) (by omega) (s) (k) hP hk (by omega) (by omega) (by omega)
  refine rw_of (fun rr hrr => q_invV hV3 (show SH 261 = (18, 0) from rfl) rfl rfl (okar_cons rfl okar_nil) (Nat.le_of_ble_eq_true rfl) hrr) ?_
  refine rw_if_eq ⟨by omega, by omega⟩ (t := 13) rfl (fun hc4 => ?_) (fun hc4 => ?_)
  · skip
    refine rw_blk lk_X10_order_13 ?_
    refine rw_of (fun rr hrr => q_iconst hrr) ?_
    refine rw_blk lk_X10_order_14 ?_
    obtain ⟨_, mm5, pp6, hV7, rfl, rfl, hw7, hF7⟩ := c_X10_fails1 (S := S) (fz := fz) (m := m) (p := p) (d := d) (by omega) (1) hP (by omega)
    refine rw_of (fun rr hrr => q_invV hV7 (show SH 261 = (18, 0) from rfl) rfl rfl (okar_cons rfl okar_nil) (Nat.le_of_ble_eq_true rfl) hrr) ?_
    refine rw_if_eq ⟨by omega, by omega⟩ (t := 24) rfl (fun hc8 => ?_) (fun hc8 => ?_)
    · exfalso; omega
    · skip
      refine rw_of (fun rr hrr => q_iconst (q_goto (t := 30) rfl hrr)) ?_
      refine rw_blk lk_X10_order_30 ?_
      refine rw_ret hQ (q_ireturn (Or.inl rfl)) ?_
      first
        | exact ⟨rfl, rfl, hw7⟩
        | (exfalso; omega)
      
  · skip
    refine rw_of (fun rr hrr => q_iconst (q_goto (t := 14) rfl hrr)) ?_
    refine rw_blk lk_X10_order_14 ?_
    obtain ⟨_, mm9, pp10, hV11, rfl, rfl, hw11, hF11⟩ := c_X10_fails0 (S := S) (fz := fz) (m := m) (p := p) (d := d) (by omega) hP
    refine rw_of (fun rr hrr => q_invV hV11 (show SH 261 = (18, 0) from rfl) rfl rfl (okar_cons rfl okar_nil) (Nat.le_of_ble_eq_true rfl) hrr) ?_
    refine rw_if_eq ⟨by omega, by omega⟩ (t := 24) rfl (fun hc12 => ?_) (fun hc12 => ?_)
    · exfalso; omega
    · skip
      refine rw_of (fun rr hrr => q_iconst (q_goto (t := 30) rfl hrr)) ?_
      refine rw_blk lk_X10_order_30 ?_
      refine rw_ret hQ (q_ireturn (Or.inl rfl)) ?_
      first
        | exact ⟨rfl, rfl, rfl⟩
        | (exfalso; omega)
      
