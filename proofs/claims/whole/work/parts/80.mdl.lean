theorem c_X10_pole1 {d : Nat} {S : MC} {fz : Bool} {m : M1} {p : M2} (hd : 3 ≤ d) (c : Nat) (x : Int) (hP : PI p) (h1 : m 261 6 = nF c) (hcl : c ≤ 16) (hc : c < 16) (h : -10007 < x ∧ x < 10007) : Ct d k_X10_pole S fz [.ref (261), .int (iI (x))] m p (fun v m' p' => v = some (.int (iI ((c + 1 : Nat) : Int))) ∧ p = p' ∧ w1 (w1 (w1 m 261 21 0) 267 c (toF x)) 261 6 (nF (c + 1)) = m') := by
  obtain ⟨d, rfl⟩ : ∃ e, d = e + 1 := ⟨d - 1, by omega⟩
  refine ct_go (lv := [some (.ref (261)), some (.int (iI (x)))]) (Nat.le_of_ble_eq_true rfl) (okar_cons rfl (okar_cons rfl okar_nil)) rfl (fun Qr hQ => ?_)
  refine rw_blk lk_X10_pole_0 ?_
  refine rw_of (fun rr hrr => q_aload_n rfl (q_iload_n rfl hrr)) ?_
  obtain ⟨_, mm1, pp2, hV3, rfl, rfl, rfl⟩ := c_X10_isValue1 (S := S) (fz := fz) (m := m) (p := p) (d := d) (by omega) (x) (by omega) (by omega)
  refine rw_of (fun rr hrr => q_invS hV3 rfl rfl (okar_cons rfl okar_nil) (Nat.le_of_ble_eq_true rfl) hrr) ?_
  refine rw_if_ne ⟨by omega, by omega⟩ (t := 12) rfl (fun hc4 => ?_) (fun hc4 => ?_)
  · skip
    refine rw_blk lk_X10_pole_12 ?_
    refine rw_of (fun rr hrr => q_aload_n rfl (q_getI (show SH 261 = (18, 0) from rfl) rfl (ki rfl h1 (by omega)) (q_bipush rfl hrr))) ?_
    refine rw_icmp_ne ⟨by omega, by omega⟩ ⟨by omega, by omega⟩ (t := 25) rfl (fun hc5 => ?_) (fun hc5 => ?_)
    · skip
      refine rw_blk lk_X10_pole_25 ?_
      refine rw_of (fun rr hrr => q_iconst hrr) ?_
      refine rw_blk lk_X10_pole_26 ?_
      obtain ⟨_, mm6, pp7, hV8, rfl, rfl, hw8, hF8⟩ := c_X10_fails0 (S := S) (fz := fz) (m := m) (p := p) (d := d) (by omega) hP
      refine rw_of (fun rr hrr => q_invV hV8 (show SH 261 = (18, 0) from rfl) rfl rfl (okar_cons rfl okar_nil) (Nat.le_of_ble_eq_true rfl) hrr) ?_
      refine rw_if_eq ⟨by omega, by omega⟩ (t := 34) rfl (fun hc9 => ?_) (fun hc9 => ?_)
      · skip
        refine rw_blk lk_X10_pole_34 ?_
        refine rw_of (fun rr hrr => q_aload_n rfl (q_getR (show SH 261 = (18, 0) from rfl) rfl (pt_261_7 hP) (q_aload_n rfl (q_getI (show SH 261 = (18, 0) from rfl) rfl (by rw [(show mm6 261 6 = m 261 6 from by rw [← hw8, w1_ne (by omega)]), h1, vF_nF (by omega)]) (q_iload_n rfl hrr))))) ?_
        obtain ⟨_, mm10, pp11, hV12, rfl, rfl, rfl⟩ := c_X10_rest (S := S) (fz := fz) (m := mm6) (p := p) (d := d) (by omega) (x) (by omega)
        refine rw_of (fun rr hrr => q_invS hV12 rfl rfl (okar_cons rfl okar_nil) (Nat.le_of_ble_eq_true rfl) (q_iast (j := c) (xx := toF x) (show SH 267 = (1, 16) from rfl) rfl (by omega) rfl hrr)) ?_
        generalize hm14 : w1 mm6 267 c (toF x) = mm13
        refine rw_of (fun rr hrr => q_aload_n rfl (q_dup rfl (q_getI (show SH 261 = (18, 0) from rfl) rfl (by rw [(show mm13 261 6 = mm6 261 6 from by rw [← hm14, w1_ne (by omega)]), (show mm6 261 6 = m 261 6 from by rw [← hw8, w1_ne (by omega)]), h1, vF_nF (by omega)]) (q_iconst (q_iadd (q_putI (xx := nF (c + 1)) (show SH 261 = (18, 0) from rfl) rfl rfl ((show _ = ((c + 1 : Nat) : Int) by omega).trans (vF_nF (by omega)).symm) hrr)))))) ?_
        generalize hm16 : w1 mm13 261 6 (nF (c + 1)) = mm15
        refine rw_of (fun rr hrr => q_aload_n rfl (q_getI (show SH 261 = (18, 0) from rfl) rfl (ki rfl (by rw [← hm16, w1_at]) (by omega)) hrr)) ?_
        exact rw_ret hQ (q_ireturn (Or.inl rfl)) (by exact ⟨rfl, rfl, by rw [hw8, hm14, hm16]⟩)
      · exfalso; omega
    · exfalso; omega
  · exfalso; omega
theorem c_X10_input1 {d : Nat} {S : MC} {fz : Bool} {m : M1} {p : M2} (hd : 3 ≤ d) (c : Nat) (x : Int) (hP : PI p) (h1 : m 261 8 = nF c) (hcl : c ≤ 20) (hc : c < 20) (h : -10007 < x ∧ x < 10007) : Ct d k_X10_input S fz [.ref (261), .int (iI (x))] m p (fun v m' p' => v = some (.int (iI ((c + 1 : Nat) : Int))) ∧ p = p' ∧ w1 (w1 (w1 m 261 21 0) 268 c (toF x)) 261 8 (nF (c + 1)) = m') := by
  obtain ⟨d, rfl⟩ : ∃ e, d = e + 1 := ⟨d - 1, by omega⟩
  refine ct_go (lv := [some (.ref (261)), some (.int (iI (x)))]) (Nat.le_of_ble_eq_true rfl) (okar_cons rfl (okar_cons rfl okar_nil)) rfl (fun Qr hQ => ?_)
  refine rw_blk lk_X10_input_0 ?_
  refine rw_of (fun rr hrr => q_aload_n rfl (q_iload_n rfl hrr)) ?_
  obtain ⟨_, mm1, pp2, hV3, rfl, rfl, rfl⟩ := c_X10_isValue1 (S := S) (fz := fz) (m := m) (p := p) (d := d) (by omega) (x) (by omega) (by omega)
  refine rw_of (fun rr hrr => q_invS hV3 rfl rfl (okar_cons rfl okar_nil) (Nat.le_of_ble_eq_true rfl) hrr) ?_
  refine rw_if_ne ⟨by omega, by omega⟩ (t := 12) rfl (fun hc4 => ?_) (fun hc4 => ?_)
  · skip
    refine rw_blk lk_X10_input_12 ?_
    refine rw_of (fun rr hrr => q_aload_n rfl (q_getI (show SH 261 = (18, 0) from rfl) rfl (ki rfl h1 (by omega)) (q_bipush rfl hrr))) ?_
    refine rw_icmp_ne ⟨by omega, by omega⟩ ⟨by omega, by omega⟩ (t := 25) rfl (fun hc5 => ?_) (fun hc5 => ?_)
    · skip
      refine rw_blk lk_X10_input_25 ?_
      refine rw_of (fun rr hrr => q_iconst hrr) ?_
      refine rw_blk lk_X10_input_26 ?_
      obtain ⟨_, mm6, pp7, hV8, rfl, rfl, hw8, hF8⟩ := c_X10_fails0 (S := S) (fz := fz) (m := m) (p := p) (d := d) (by omega) hP
      refine rw_of (fun rr hrr => q_invV hV8 (show SH 261 = (18, 0) from rfl) rfl rfl (okar_cons rfl okar_nil) (Nat.le_of_ble_eq_true rfl) hrr) ?_
      refine rw_if_eq ⟨by omega, by omega⟩ (t := 34) rfl (fun hc9 => ?_) (fun hc9 => ?_)
      · skip
        refine rw_blk lk_X10_input_34 ?_
        refine rw_of (fun rr hrr => q_aload_n rfl (q_getR (show SH 261 = (18, 0) from rfl) rfl (pt_261_9 hP) (q_aload_n rfl (q_getI (show SH 261 = (18, 0) from rfl) rfl (by rw [(show mm6 261 8 = m 261 8 from by rw [← hw8, w1_ne (by omega)]), h1, vF_nF (by omega)]) (q_iload_n rfl hrr))))) ?_
        obtain ⟨_, mm10, pp11, hV12, rfl, rfl, rfl⟩ := c_X10_rest (S := S) (fz := fz) (m := mm6) (p := p) (d := d) (by omega) (x) (by omega)
        refine rw_of (fun rr hrr => q_invS hV12 rfl rfl (okar_cons rfl okar_nil) (Nat.le_of_ble_eq_true rfl) (q_iast (j := c) (xx := toF x) (show SH 268 = (1, 20) from rfl) rfl (by omega) rfl hrr)) ?_
        generalize hm14 : w1 mm6 268 c (toF x) = mm13
        refine rw_of (fun rr hrr => q_aload_n rfl (q_dup rfl (q_getI (show SH 261 = (18, 0) from rfl) rfl (by rw [(show mm13 261 8 = mm6 261 8 from by rw [← hm14, w1_ne (by omega)]), (show mm6 261 8 = m 261 8 from by rw [← hw8, w1_ne (by omega)]), h1, vF_nF (by omega)]) (q_iconst (q_iadd (q_putI (xx := nF (c + 1)) (show SH 261 = (18, 0) from rfl) rfl rfl ((show _ = ((c + 1 : Nat) : Int) by omega).trans (vF_nF (by omega)).symm) hrr)))))) ?_
        generalize hm16 : w1 mm13 261 8 (nF (c + 1)) = mm15
        refine rw_of (fun rr hrr => q_aload_n rfl (q_getI (show SH 261 = (18, 0) from rfl) rfl (ki rfl (by rw [← hm16, w1_at]) (by omega)) hrr)) ?_
        exact rw_ret hQ (q_ireturn (Or.inl rfl)) (by exact ⟨rfl, rfl, by rw [hw8, hm14, hm16]⟩)
      · exfalso; omega
    · exfalso; omega
  · exfalso; omega
