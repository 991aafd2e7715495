theorem c_X10_thrown {d : Nat} {S : MC} {fz : Bool} {m : M1} {p : M2} (hd : 1 ≤ d) (w : Nat) (hP : PI p) (hw : m 261 21 = nF w) (hl : w ≤ 100) : Ct d k_X10_thrown S fz [.ref (261)] m p (fun v m' p' => v = some (.int (iI (((w : Nat) : Int)))) ∧ m = m' ∧ p = p') := by
  obtain ⟨d, rfl⟩ : ∃ e, d = e + 1 := ⟨d - 1, by omega⟩
  refine ct_go (lv := [some (.ref (261))]) (Nat.le_of_ble_eq_true rfl) (okar_cons rfl okar_nil) rfl (fun Qr hQ => ?_)
  refine rw_blk lk_X10_thrown_0 ?_
  refine rw_of (fun rr hrr => q_aload_n rfl (q_getI (show SH 261 = (18, 0) from rfl) rfl (ki rfl hw (by omega)) hrr)) ?_
  exact rw_ret hQ (q_ireturn (Or.inl rfl)) (by exact ⟨rfl, rfl, rfl⟩)
theorem c_X10_fails1 {d : Nat} {S : MC} {fz : Bool} {m : M1} {p : M2} (hd : 1 ≤ d) (w : Nat) (hP : PI p) (h : 1 ≤ w ∧ w ≤ 3) : Ct d k_X10_fails S fz [.ref (261), .int (iI (((w : Nat) : Int)))] m p (fun v m' p' => v = some (.int (iI 1)) ∧ p = p' ∧ w1 m 261 21 (nF w) = m' ∧ Fr (fun a_ => a_ = 261) m m') := by
  obtain ⟨d, rfl⟩ : ∃ e, d = e + 1 := ⟨d - 1, by omega⟩
  refine ct_go (lv := [some (.ref (261)), some (.int (iI (((w : Nat) : Int))))]) (Nat.le_of_ble_eq_true rfl) (okar_cons rfl (okar_cons rfl okar_nil)) rfl (fun Qr hQ => ?_)
  refine rw_blk lk_X10_fails_0 ?_
  refine rw_of (fun rr hrr => q_aload_n rfl (q_iload_n rfl (q_putI (xx := nF (w)) (show SH 261 = (18, 0) from rfl) rfl rfl ((show _ = ((w : Nat) : Int) by omega).trans (vF_nF (by omega)).symm) hrr))) ?_
  generalize hm2 : w1 m 261 21 (nF (w)) = mm1
  refine rw_of (fun rr hrr => q_iload_n rfl hrr) ?_
  refine rw_if_le ⟨by omega, by omega⟩ (t := 13) rfl (fun hc3 => ?_) (fun hc3 => ?_)
  · exfalso; omega
  · skip
    refine rw_of (fun rr hrr => q_iconst (q_goto (t := 14) rfl hrr)) ?_
    refine rw_blk lk_X10_fails_14 ?_
    exact rw_ret hQ (q_ireturn (by omega)) (by exact ⟨rfl, rfl, hm2, fr_w hm2 Fr_rfl rfl⟩)
theorem c_X10_fails0 {d : Nat} {S : MC} {fz : Bool} {m : M1} {p : M2} (hd : 1 ≤ d)  (hP : PI p) : Ct d k_X10_fails S fz [.ref (261), .int (iI (0))] m p (fun v m' p' => v = some (.int (iI 0)) ∧ p = p' ∧ w1 m 261 21 0 = m' ∧ Fr (fun a_ => a_ = 261) m m') := by
  obtain ⟨d, rfl⟩ : ∃ e, d = e + 1 := ⟨d - 1, by omega⟩
  refine ct_go (lv := [some (.ref (261)), some (.int (iI (0)))]) (Nat.le_of_ble_eq_true rfl) (okar_cons rfl (okar_cons rfl okar_nil)) rfl (fun Qr hQ => ?_)
  refine rw_blk lk_X10_fails_0 ?_
  refine rw_of (fun rr hrr => q_aload_n rfl (q_iload_n rfl (q_putI (xx := 0) (show SH 261 = (18, 0) from rfl) rfl rfl rfl hrr))) ?_
  generalize hm2 : w1 m 261 21 0 = mm1
  refine rw_of (fun rr hrr => q_iload_n rfl hrr) ?_
  refine rw_if_le ⟨by omega, by omega⟩ (t := 13) rfl (fun hc3 => ?_) (fun hc3 => ?_)
  · skip
    refine rw_blk lk_X10_fails_13 ?_
    refine rw_of (fun rr hrr => q_iconst hrr) ?_
    refine rw_blk lk_X10_fails_14 ?_
    exact rw_ret hQ (q_ireturn (by omega)) (by exact ⟨rfl, rfl, hm2, fr_w hm2 Fr_rfl rfl⟩)
  · exfalso; omega
theorem c_X10_isIn1 {d : Nat} {S : MC} {fz : Bool} {m : M1} {p : M2} (hd : 1 ≤ d) (x y z : Int) (hrx : (-2147483648 ≤ x ∧ x < 2147483648)) (hry : -20000 ≤ y ∧ y ≤ 20000 ∧ -20000 ≤ z ∧ z ≤ 20000) (h : y ≤ x ∧ x ≤ z) : Ct d k_X10_isIn S fz [.int (iI (x)), .int (iI (y)), .int (iI (z))] m p (fun v m' p' => v = some (.int (iI (1))) ∧ m = m' ∧ p = p') := by
  obtain ⟨d, rfl⟩ : ∃ e, d = e + 1 := ⟨d - 1, by omega⟩
  refine ct_go (lv := [some (.int (iI (x))), some (.int (iI (y))), some (.int (iI (z)))]) (Nat.le_of_ble_eq_true rfl) (okar_cons rfl (okar_cons rfl (okar_cons rfl okar_nil))) rfl (fun Qr hQ => ?_)
  refine rw_blk lk_X10_isIn_0 ?_
  refine rw_of (fun rr hrr => q_iload_n rfl (q_iload_n rfl hrr)) ?_
  refine rw_icmp_lt ⟨by omega, by omega⟩ ⟨by omega, by omega⟩ (t := 14) rfl (fun hc1 => ?_) (fun hc1 => ?_)
  · exfalso; omega
  · skip
    refine rw_of (fun rr hrr => q_iload_n rfl (q_iload_n rfl hrr)) ?_
    refine rw_icmp_gt ⟨by omega, by omega⟩ ⟨by omega, by omega⟩ (t := 14) rfl (fun hc2 => ?_) (fun hc2 => ?_)
    · exfalso; omega
    · skip
      refine rw_of (fun rr hrr => q_iconst (q_goto (t := 15) rfl hrr)) ?_
      refine rw_blk lk_X10_isIn_15 ?_
      exact rw_ret hQ (q_ireturn (by omega)) (by exact ⟨rfl, rfl, rfl⟩)
theorem c_X10_isIn0 {d : Nat} {S : MC} {fz : Bool} {m : M1} {p : M2} (hd : 1 ≤ d) (x y z : Int) (hrx : (-2147483648 ≤ x ∧ x < 2147483648)) (hry : -20000 ≤ y ∧ y ≤ 20000 ∧ -20000 ≤ z ∧ z ≤ 20000) (h : x < y ∨ z < x) : Ct d k_X10_isIn S fz [.int (iI (x)), .int (iI (y)), .int (iI (z))] m p (fun v m' p' => v = some (.int (iI (0))) ∧ m = m' ∧ p = p') := by
  obtain ⟨d, rfl⟩ : ∃ e, d = e + 1 := ⟨d - 1, by omega⟩
  refine ct_go (lv := [some (.int (iI (x))), some (.int (iI (y))), some (.int (iI (z)))]) (Nat.le_of_ble_eq_true rfl) (okar_cons rfl (okar_cons rfl (okar_cons rfl okar_nil))) rfl (fun Qr hQ => ?_)
  refine rw_blk lk_X10_isIn_0 ?_
  refine rw_of (fun rr hrr => q_iload_n rfl (q_iload_n rfl hrr)) ?_
  refine rw_icmp_lt ⟨by omega, by omega⟩ ⟨by omega, by omega⟩ (t := 14) rfl (fun hc1 => ?_) (fun hc1 => ?_)
  · skip
    refine rw_blk lk_X10_isIn_14 ?_
    refine rw_of (fun rr hrr => q_iconst hrr) ?_
    refine rw_blk lk_X10_isIn_15 ?_
    exact rw_ret hQ (q_ireturn (by omega)) (by exact ⟨rfl, rfl, rfl⟩)
  · skip
    refine rw_of (fun rr hrr => q_iload_n rfl (q_iload_n rfl hrr)) ?_
    refine rw_icmp_gt ⟨by omega, by omega⟩ ⟨by omega, by omega⟩ (t := 14) rfl (fun hc2 => ?_) (fun hc2 => ?_)
    · skip
      refine rw_blk lk_X10_isIn_14 ?_
      refine rw_of (fun rr hrr => q_iconst hrr) ?_
      refine rw_blk lk_X10_isIn_15 ?_
      exact rw_ret hQ (q_ireturn (by omega)) (by exact ⟨rfl, rfl, rfl⟩)
    · exfalso; omega
theorem c_X10_isSystem1 {d : Nat} {S : MC} {fz : Bool} {m : M1} {p : M2} (hd : 2 ≤ d) (x : Int) (k : Nat) (hP : PI p) (hk : m 261 0 = nF k) (hk12 : k ≤ 12) (hrx : (-2147483648 ≤ x ∧ x < 2147483648)) (h : 0 ≤ x ∧ x < k) : Ct d k_X10_isSystem S fz [.ref (261), .int (iI (x))] m p (fun v m' p' => v = some (.int (iI (1))) ∧ m = m' ∧ p = p') := by
  obtain ⟨d, rfl⟩ : ∃ e, d = e + 1 := ⟨d - 1, by omega⟩
  refine ct_go (lv := [some (.ref (261)), some (.int (iI (x)))]) (Nat.le_of_ble_eq_true rfl) (okar_cons rfl (okar_cons rfl okar_nil)) rfl (fun Qr hQ => ?_)
  refine rw_blk lk_X10_isSystem_0 ?_
  refine rw_of (fun rr hrr => q_iload_n rfl (q_iconst (q_aload_n rfl (q_getI (show SH 261 = (18, 0) from rfl) rfl (ki rfl hk (by omega)) (q_iconst (q_isub hrr)))))) ?_
  obtain ⟨_, mm1, pp2, hV3, rfl, rfl, rfl⟩ := c_X10_isIn1 (S := S) (fz := fz) (m := m) (p := p) (d := d) (by omega) (x) (0) ((((k : Nat) : Int) - 1)) (by omega) (by omega) (by omega)
  refine rw_of (fun rr hrr => q_invS hV3 rfl rfl (okar_cons rfl (okar_cons rfl (okar_cons rfl okar_nil))) (Nat.le_of_ble_eq_true rfl) hrr) ?_
  exact rw_ret hQ (q_ireturn (by omega)) (by exact ⟨rfl, rfl, rfl⟩)
theorem c_X10_isValue1 {d : Nat} {S : MC} {fz : Bool} {m : M1} {p : M2} (hd : 2 ≤ d) (x : Int) (hrx : (-2147483648 ≤ x ∧ x < 2147483648)) (h : -10007 < x ∧ x < 10007) : Ct d k_X10_isValue S fz [.int (iI (x))] m p (fun v m' p' => v = some (.int (iI (1))) ∧ m = m' ∧ p = p') := by
  obtain ⟨d, rfl⟩ : ∃ e, d = e + 1 := ⟨d - 1, by omega⟩
  refine ct_go (lv := [some (.int (iI (x)))]) (Nat.le_of_ble_eq_true rfl) (okar_cons rfl okar_nil) rfl (fun Qr hQ => ?_)
  refine rw_blk lk_X10_isValue_0 ?_
  refine rw_of (fun rr hrr => q_iload_n rfl (q_sipush rfl (q_sipush rfl hrr))) ?_
  obtain ⟨_, mm1, pp2, hV3, rfl, rfl, rfl⟩ := c_X10_isIn1 (S := S) (fz := fz) (m := m) (p := p) (d := d) (by omega) (x) ((-10006)) (10006) (by omega) (by omega) (by omega)
  refine rw_of (fun rr hrr => q_invS hV3 rfl rfl (okar_cons rfl (okar_cons rfl (okar_cons rfl okar_nil))) (Nat.le_of_ble_eq_true rfl) hrr) ?_
  exact rw_ret hQ (q_ireturn (by omega)) (by exact ⟨rfl, rfl, rfl⟩)
theorem c_X10_isSystem0 {d : Nat} {S : MC} {fz : Bool} {m : M1} {p : M2} (hd : 2 ≤ d) (x : Int) (k : Nat) (hP : PI p) (hk : m 261 0 = nF k) (hk12 : k ≤ 12) (hrx : (-2147483648 ≤ x ∧ x < 2147483648)) (h : ¬ (0 ≤ x ∧ x < k)) : Ct d k_X10_isSystem S fz [.ref (261), .int (iI (x))] m p (fun v m' p' => v = some (.int (iI (0))) ∧ m = m' ∧ p = p') := by
  obtain ⟨d, rfl⟩ : ∃ e, d = e + 1 := ⟨d - 1, by omega⟩
  refine ct_go (lv := [some (.ref (261)), some (.int (iI (x)))]) (Nat.le_of_ble_eq_true rfl) (okar_cons rfl (okar_cons rfl okar_nil)) rfl (fun Qr hQ => ?_)
  refine rw_blk lk_X10_isSystem_0 ?_
  refine rw_of (fun rr hrr => q_iload_n rfl (q_iconst (q_aload_n rfl (q_getI (show SH 261 = (18, 0) from rfl) rfl (ki rfl hk (by omega)) (q_iconst (q_isub hrr)))))) ?_
  obtain ⟨_, mm1, pp2, hV3, rfl, rfl, rfl⟩ := c_X10_isIn0 (S := S) (fz := fz) (m := m) (p := p) (d := d) (by omega) (x) (0) ((((k : Nat) : Int) - 1)) (by omega) (by omega) (by omega)
  refine rw_of (fun rr hrr => q_invS hV3 rfl rfl (okar_cons rfl (okar_cons rfl (okar_cons rfl okar_nil))) (Nat.le_of_ble_eq_true rfl) hrr) ?_
  exact rw_ret hQ (q_ireturn (by omega)) (by exact ⟨rfl, rfl, rfl⟩)
theorem c_X10_isValue0 {d : Nat} {S : MC} {fz : Bool} {m : M1} {p : M2} (hd : 2 ≤ d) (x : Int) (hrx : (-2147483648 ≤ x ∧ x < 2147483648)) (h : x ≤ -10007 ∨ 10007 ≤ x) : Ct d k_X10_isValue S fz [.int (iI (x))] m p (fun v m' p' => v = some (.int (iI (0))) ∧ m = m' ∧ p = p') := by
  obtain ⟨d, rfl⟩ : ∃ e, d = e + 1 := ⟨d - 1, by omega⟩
  refine ct_go (lv := [some (.int (iI (x)))]) (Nat.le_of_ble_eq_true rfl) (okar_cons rfl okar_nil) rfl (fun Qr hQ => ?_)
  refine rw_blk lk_X10_isValue_0 ?_
  refine rw_of (fun rr hrr => q_iload_n rfl (q_sipush rfl (q_sipush rfl hrr))) ?_
  obtain ⟨_, mm1, pp2, hV3, rfl, rfl, rfl⟩ := c_X10_isIn0 (S := S) (fz := fz) (m := m) (p := p) (d := d) (by omega) (x) ((-10006)) (10006) (by omega) (by omega) (by omega)
  refine rw_of (fun rr hrr => q_invS hV3 rfl rfl (okar_cons rfl (okar_cons rfl (okar_cons rfl okar_nil))) (Nat.le_of_ble_eq_true rfl) hrr) ?_
  exact rw_ret hQ (q_ireturn (by omega)) (by exact ⟨rfl, rfl, rfl⟩)
theorem c_X10_begins {d : Nat} {S : MC} {fz : Bool} {m : M1} {p : M2} (hd : 1 ≤ d) (s n : Nat) (hP : PI p) (hs12 : s ≤ 12) (hn : n ≤ 8) : Ct d k_X10_begins S fz [.ref (261), .int (iI (((s : Nat) : Int))), .int (iI (((n : Nat) : Int)))] m p (fun v m' p' => v = none ∧ p = p' ∧ Fr (fun a_ => 262 ≤ a_ ∧ a_ ≤ 266) m m' ∧ (∀ x, m' 262 x = if x = s then nF n else m 262 x) ∧ (∀ x, m' 266 x = if x = s then 0 else m 266 x) ∧ (∀ x, m' 263 x = if 64 * s ≤ x ∧ x < 64 * s + 64 then 0 else m 263 x) ∧ (∀ x, m' 264 x = if 8 * s ≤ x ∧ x < 8 * s + 8 then 0 else m 264 x) ∧ ∀ x, m' 265 x = if 8 * s ≤ x ∧ x < 8 * s + 8 then 0 else m 265 x) := by
  obtain ⟨d, rfl⟩ : ∃ e, d = e + 1 := ⟨d - 1, by omega⟩
  refine ct_go (lv := [some (.ref (261)), some (.int (iI (((s : Nat) : Int)))), some (.int (iI (((n : Nat) : Int)))), none]) (Nat.le_of_ble_eq_true rfl) (okar_cons rfl (okar_cons rfl (okar_cons rfl okar_nil))) rfl (fun Qr hQ => ?_)
  refine rw_blk lk_X10_begins_0 ?_
  refine rw_of (fun rr hrr => q_aload_n rfl (q_getR (show SH 261 = (18, 0) from rfl) rfl (pt_261_1 hP) (q_iload_n rfl (q_iload_n rfl (q_iast (j := s) (xx := nF (n)) (show SH 262 = (1, 13) from rfl) rfl (by omega) ((show _ = ((n : Nat) : Int) by omega).trans (vF_nF (by omega)).symm) hrr))))) ?_
  generalize hm2 : w1 m 262 s (nF (n)) = mm1
  refine rw_of (fun rr hrr => q_aload_n rfl (q_getR (show SH 261 = (18, 0) from rfl) rfl (pt_261_5 hP) (q_iload_n rfl (q_iconst (q_iast (j := s) (xx := 0) (show SH 266 = (1, 13) from rfl) rfl (by omega) rfl hrr))))) ?_
  generalize hm4 : w1 mm1 266 s 0 = mm3
  refine rw_of (fun rr hrr => q_iconst (q_istore_n (Nat.le_of_ble_eq_true rfl) rfl hrr)) ?_
  have hL16 : ∀ k, k ≤ 64 → ∀ (m1 : M1), (Fr (fun a_ => 262 ≤ a_ ∧ a_ ≤ 266) m m1 ∧ (∀ x, m1 262 x = if x = s then nF n else m 262 x) ∧ (∀ x, m1 266 x = if x = s then 0 else m 266 x) ∧ (∀ x, m1 263 x = if 64 * s ≤ x ∧ x < 64 * s + k then 0 else m 263 x) ∧ m1 264 = m 264 ∧ m1 265 = m 265) → Rw (Ev d) k_X10_begins (16, [], [some (.ref (261)), some (.int (iI (((s : Nat) : Int)))), some (.int (iI (((n : Nat) : Int)))), some (.int (iI (((k : Nat) : Int))))], [], hpM S fz (m1, p), 0, 0) Qr := by
    refine loop_any (fun k hi16 ih16 => ?_)
    intro m1
    intro hI16
    obtain ⟨hF1, ho1, hd1, hA1, h264, h265⟩ := hI16
    refine rw_blk lk_X10_begins_16 ?_
    refine rw_of (fun rr hrr => q_iload_n rfl (q_bipush rfl hrr)) ?_
    refine rw_icmp_ge ⟨by omega, by omega⟩ ⟨by omega, by omega⟩ (t := 40) rfl (fun hc5 => ?_) (fun hc5 => ?_)
    · skip
      refine rw_blk lk_X10_begins_40 ?_
      refine rw_of (fun rr hrr => q_iconst (q_istore_n (Nat.le_of_ble_eq_true rfl) rfl hrr)) ?_
      have hL42 : ∀ k2, k2 ≤ 8 → ∀ (m2 : M1), (Fr (fun a_ => a_ = 264 ∨ a_ = 265) m1 m2 ∧ (∀ x, m2 264 x = if 8 * s ≤ x ∧ x < 8 * s + k2 then 0 else m 264 x) ∧ ∀ x, m2 265 x = if 8 * s ≤ x ∧ x < 8 * s + k2 then 0 else m 265 x) → Rw (Ev d) k_X10_begins (42, [], [some (.ref (261)), some (.int (iI (((s : Nat) : Int)))), some (.int (iI (((n : Nat) : Int)))), some (.int (iI (((k2 : Nat) : Int))))], [], hpM S fz (m2, p), 0, 0) Qr := by
        refine loop_any (fun k2 hi42 ih42 => ?_)
        intro m2
        intro hI42
        obtain ⟨hF2, hb2, hc2⟩ := hI42
        refine rw_blk lk_X10_begins_42 ?_
        refine rw_of (fun rr hrr => q_iload_n rfl (q_bipush rfl hrr)) ?_
        refine rw_icmp_ge ⟨by omega, by omega⟩ ⟨by omega, by omega⟩ (t := 78) rfl (fun hc6 => ?_) (fun hc6 => ?_)
        · skip
          refine rw_blk lk_X10_begins_78 ?_
          refine rw_ret hQ (q_return) ?_
          
          have e64 : k = 64 := (by omega)
          have e8 : k2 = 8 := (by omega)
          subst e64
          subst e8
          exact ⟨rfl, rfl, Fr_trans hF1 (Fr_mono hF2 (fun a ha => by omega)), fun x => by rw [hF2 262 (by omega)]; exact ho1 x, fun x => by rw [hF2 266 (by omega)]; exact hd1 x, fun x => by rw [hF2 263 (by omega)]; exact hA1 x, hb2, hc2⟩
          
        · skip
          refine rw_of (fun rr hrr => q_aload_n rfl (q_getR (show SH 261 = (18, 0) from rfl) rfl (pt_261_3 hP) (q_bipush rfl (q_iload_n rfl (q_imul (q_iload_n rfl (q_iadd (q_iconst (q_iast (j := 8 * s + k2) (xx := 0) (show SH 264 = (1, 104) from rfl) (by omega) (by omega) rfl hrr))))))))) ?_
          generalize hm8 : w1 m2 264 (8 * s + k2) 0 = mm7
          refine rw_of (fun rr hrr => q_aload_n rfl (q_getR (show SH 261 = (18, 0) from rfl) rfl (pt_261_4 hP) (q_bipush rfl (q_iload_n rfl (q_imul (q_iload_n rfl (q_iadd (q_iconst (q_iast (j := 8 * s + k2) (xx := 0) (show SH 265 = (1, 104) from rfl) (by omega) (by omega) rfl hrr))))))))) ?_
          generalize hm10 : w1 mm7 265 (8 * s + k2) 0 = mm9
          refine rw_of (fun rr hrr => q_iinc rfl rfl (q_goto (t := 42) rfl hrr)) ?_
          have hA11 : Fr (fun a_ => a_ = 264 ∨ a_ = 265) m1 mm9 ∧ (∀ x, mm9 264 x = if 8 * s ≤ x ∧ x < 8 * s + (k2 + 1) then 0 else m 264 x) ∧ ∀ x, mm9 265 x = if 8 * s ≤ x ∧ x < 8 * s + (k2 + 1) then 0 else m 265 x := by
            refine ⟨fr_w hm10 (fr_w hm8 hF2 (by omega)) (by omega), ?_, ?_⟩
            · have h1 := filld_w (P' := fun x => 8 * s ≤ x ∧ x < 8 * s + (k2 + 1)) (f := fun x => 0) hm8 hb2 rfl (fun x => by omega)
              intro x
              rw [← hm10, w1_a (by omega)]
              exact h1 x
            · exact filld_w (P' := fun x => 8 * s ≤ x ∧ x < 8 * s + (k2 + 1)) (f := fun x => 0) hm10 (fun x => by rw [← hm8, w1_a (by omega)]; exact hc2 x) rfl (fun x => by omega)
          exact rw_cast (ih42 (by omega) mm9 hA11) (lcons rfl (lcons rfl (lcons rfl (lcons (lvI (by omega)) rfl)))) rfl
      exact rw_cast (hL42 0 (by omega) m1 (by exact ⟨Fr_rfl, fun x => by rw [if_neg (by omega), h264], fun x => by rw [if_neg (by omega), h265]⟩)) (lcons rfl (lcons rfl (lcons rfl (lcons (lvI (by omega)) rfl)))) rfl
    · skip
      refine rw_of (fun rr hrr => q_aload_n rfl (q_getR (show SH 261 = (18, 0) from rfl) rfl (pt_261_2 hP) (q_bipush rfl (q_iload_n rfl (q_imul (q_iload_n rfl (q_iadd (q_iconst (q_iast (j := 64 * s + k) (xx := 0) (show SH 263 = (1, 832) from rfl) (by omega) (by omega) rfl hrr))))))))) ?_
      generalize hm13 : w1 m1 263 (64 * s + k) 0 = mm12
      refine rw_of (fun rr hrr => q_iinc rfl rfl (q_goto (t := 16) rfl hrr)) ?_
      exact rw_cast (ih16 (by omega) mm12 (by refine ⟨fr_w hm13 hF1 (by omega), fun x => by rw [← hm13, w1_a (by omega)]; exact ho1 x, fun x => by rw [← hm13, w1_a (by omega)]; exact hd1 x, filld_w (P' := fun x => 64 * s ≤ x ∧ x < 64 * s + (k + 1)) (f := fun x => 0) hm13 hA1 rfl (fun x => by omega), by rw [← hm13, w1_a (by omega)]; exact h264, by rw [← hm13, w1_a (by omega)]; exact h265⟩)) (lcons rfl (lcons rfl (lcons rfl (lcons (lvI (by omega)) rfl)))) rfl
  have hA14 : Fr (fun a_ => 262 ≤ a_ ∧ a_ ≤ 266) m mm3 ∧ (∀ x, mm3 262 x = if x = s then nF n else m 262 x) ∧ (∀ x, mm3 266 x = if x = s then 0 else m 266 x) ∧ (∀ x, mm3 263 x = if 64 * s ≤ x ∧ x < 64 * s + 0 then 0 else m 263 x) ∧ mm3 264 = m 264 ∧ mm3 265 = m 265 := by
    refine ⟨fr_w hm4 (fr_w hm2 Fr_rfl (by omega)) (by omega), fun x => ?_, fun x => ?_, fun x => ?_, ?_, ?_⟩
    · rw [← hm4, w1_a (by omega), ← hm2]
      by_cases q : x = s
      · rw [q, w1_at, if_pos rfl]
      · rw [w1_ne (fun z => q z.2), if_neg q]
    · rw [← hm4, ← hm2]
      by_cases q : x = s
      · rw [q, w1_at, if_pos rfl]
      · rw [w1_ne (fun z => q z.2), w1_a (by omega), if_neg q]
    · rw [← hm4, w1_a (by omega), ← hm2, w1_a (by omega), if_neg (by omega)]
    · rw [← hm4, w1_a (by omega), ← hm2, w1_a (by omega)]
    · rw [← hm4, w1_a (by omega), ← hm2, w1_a (by omega)]
  exact rw_cast (hL16 0 (by omega) mm3 hA14) (lcons rfl (lcons rfl (lcons rfl (lcons (lvI (by omega)) rfl)))) rfl
theorem c_X10_copies {d : Nat} {S : MC} {fz : Bool} {m : M1} {p : M2} (hd : 1 ≤ d) (f s : Nat) (hP : PI p) (hs12 : s ≤ 12) (hf12 : f ≤ 12) (hfs : f ≠ s) : Ct d k_X10_copies S fz [.ref (261), .int (iI (((f : Nat) : Int))), .int (iI (((s : Nat) : Int)))] m p (fun v m' p' => v = none ∧ p = p' ∧ Fr (fun a_ => 262 ≤ a_ ∧ a_ ≤ 266) m m' ∧ (∀ x, m' 262 x = if x = s then m 262 f else m 262 x) ∧ (∀ x, m' 266 x = if x = s then m 266 f else m 266 x) ∧ (∀ x, m' 263 x = if 64 * s ≤ x ∧ x < 64 * s + 64 then m 263 (64 * f + (x - 64 * s)) else m 263 x) ∧ (∀ x, m' 264 x = if 8 * s ≤ x ∧ x < 8 * s + 8 then m 264 (8 * f + (x - 8 * s)) else m 264 x) ∧ ∀ x, m' 265 x = if 8 * s ≤ x ∧ x < 8 * s + 8 then m 265 (8 * f + (x - 8 * s)) else m 265 x) := by
  obtain ⟨d, rfl⟩ : ∃ e, d = e + 1 := ⟨d - 1, by omega⟩
  refine ct_go (lv := [some (.ref (261)), some (.int (iI (((f : Nat) : Int)))), some (.int (iI (((s : Nat) : Int)))), none]) (Nat.le_of_ble_eq_true rfl) (okar_cons rfl (okar_cons rfl (okar_cons rfl okar_nil))) rfl (fun Qr hQ => ?_)
  refine rw_blk lk_X10_copies_0 ?_
  refine rw_of (fun rr hrr => q_aload_n rfl (q_getR (show SH 261 = (18, 0) from rfl) rfl (pt_261_1 hP) (q_iload_n rfl (q_aload_n rfl (q_getR (show SH 261 = (18, 0) from rfl) rfl (pt_261_1 hP) (q_iload_n rfl (q_iald (j := f) (show SH 262 = (1, 13) from rfl) rfl (by omega) rfl (q_iast (j := s) (xx := m 262 f) (show SH 262 = (1, 13) from rfl) rfl (by omega) rfl hrr)))))))) ?_
  generalize hm2 : w1 m 262 s (m 262 f) = mm1
  refine rw_of (fun rr hrr => q_aload_n rfl (q_getR (show SH 261 = (18, 0) from rfl) rfl (pt_261_5 hP) (q_iload_n rfl (q_aload_n rfl (q_getR (show SH 261 = (18, 0) from rfl) rfl (pt_261_5 hP) (q_iload_n rfl (q_iald (j := f) (show SH 266 = (1, 13) from rfl) rfl (by omega) rfl (q_iast (j := s) (xx := mm1 266 f) (show SH 266 = (1, 13) from rfl) rfl (by omega) rfl hrr)))))))) ?_
  generalize hm4 : w1 mm1 266 s (mm1 266 f) = mm3
  refine rw_of (fun rr hrr => q_iconst (q_istore_n (Nat.le_of_ble_eq_true rfl) rfl hrr)) ?_
  have hL26 : ∀ k, k ≤ 64 → ∀ (m1 : M1), (Fr (fun a_ => 262 ≤ a_ ∧ a_ ≤ 266) m m1 ∧ (∀ x, m1 262 x = if x = s then m 262 f else m 262 x) ∧ (∀ x, m1 266 x = if x = s then m 266 f else m 266 x) ∧ (∀ x, m1 263 x = if 64 * s ≤ x ∧ x < 64 * s + k then m 263 (64 * f + (x - 64 * s)) else m 263 x) ∧ m1 264 = m 264 ∧ m1 265 = m 265) → Rw (Ev d) k_X10_copies (26, [], [some (.ref (261)), some (.int (iI (((f : Nat) : Int)))), some (.int (iI (((s : Nat) : Int)))), some (.int (iI (((k : Nat) : Int))))], [], hpM S fz (m1, p), 0, 0) Qr := by
    refine loop_any (fun k hi26 ih26 => ?_)
    intro m1
    intro hI26
    obtain ⟨hF1, ho1, hd1, hA1, h264, h265⟩ := hI26
    refine rw_blk lk_X10_copies_26 ?_
    refine rw_of (fun rr hrr => q_iload_n rfl (q_bipush rfl hrr)) ?_
    refine rw_icmp_ge ⟨by omega, by omega⟩ ⟨by omega, by omega⟩ (t := 60) rfl (fun hc5 => ?_) (fun hc5 => ?_)
    · skip
      refine rw_blk lk_X10_copies_60 ?_
      refine rw_of (fun rr hrr => q_iconst (q_istore_n (Nat.le_of_ble_eq_true rfl) rfl hrr)) ?_
      have hL62 : ∀ k2, k2 ≤ 8 → ∀ (m2 : M1), (Fr (fun a_ => a_ = 264 ∨ a_ = 265) m1 m2 ∧ (∀ x, m2 264 x = if 8 * s ≤ x ∧ x < 8 * s + k2 then m 264 (8 * f + (x - 8 * s)) else m 264 x) ∧ ∀ x, m2 265 x = if 8 * s ≤ x ∧ x < 8 * s + k2 then m 265 (8 * f + (x - 8 * s)) else m 265 x) → Rw (Ev d) k_X10_copies (62, [], [some (.ref (261)), some (.int (iI (((f : Nat) : Int)))), some (.int (iI (((s : Nat) : Int)))), some (.int (iI (((k2 : Nat) : Int))))], [], hpM S fz (m2, p), 0, 0) Qr := by
        refine loop_any (fun k2 hi62 ih62 => ?_)
        intro m2
        intro hI62
        obtain ⟨hF2, hb2, hc2⟩ := hI62
        refine rw_blk lk_X10_copies_62 ?_
        refine rw_of (fun rr hrr => q_iload_n rfl (q_bipush rfl hrr)) ?_
        refine rw_icmp_ge ⟨by omega, by omega⟩ ⟨by omega, by omega⟩ (t := 118) rfl (fun hc6 => ?_) (fun hc6 => ?_)
        · skip
          refine rw_blk lk_X10_copies_118 ?_
          refine rw_ret hQ (q_return) ?_
          
          have e64 : k = 64 := (by omega)
          have e8 : k2 = 8 := (by omega)
          subst e64
          subst e8
          exact ⟨rfl, rfl, Fr_trans hF1 (Fr_mono hF2 (fun a ha => by omega)), fun x => by rw [hF2 262 (by omega)]; exact ho1 x, fun x => by rw [hF2 266 (by omega)]; exact hd1 x, fun x => by rw [hF2 263 (by omega)]; exact hA1 x, hb2, hc2⟩
          
        · skip
          refine rw_of (fun rr hrr => q_aload_n rfl (q_getR (show SH 261 = (18, 0) from rfl) rfl (pt_261_3 hP) (q_bipush rfl (q_iload_n rfl (q_imul (q_iload_n rfl (q_iadd (q_aload_n rfl (q_getR (show SH 261 = (18, 0) from rfl) rfl (pt_261_3 hP) (q_bipush rfl (q_iload_n rfl (q_imul (q_iload_n rfl (q_iadd (q_iald (j := 8 * f + k2) (show SH 264 = (1, 104) from rfl) (by omega) (by omega) rfl (q_iast (j := 8 * s + k2) (xx := m2 264 (8 * f + k2)) (show SH 264 = (1, 104) from rfl) (by omega) (by omega) rfl hrr)))))))))))))))) ?_
          generalize hm8 : w1 m2 264 (8 * s + k2) (m2 264 (8 * f + k2)) = mm7
          refine rw_of (fun rr hrr => q_aload_n rfl (q_getR (show SH 261 = (18, 0) from rfl) rfl (pt_261_4 hP) (q_bipush rfl (q_iload_n rfl (q_imul (q_iload_n rfl (q_iadd (q_aload_n rfl (q_getR (show SH 261 = (18, 0) from rfl) rfl (pt_261_4 hP) (q_bipush rfl (q_iload_n rfl (q_imul (q_iload_n rfl (q_iadd (q_iald (j := 8 * f + k2) (show SH 265 = (1, 104) from rfl) (by omega) (by omega) rfl (q_iast (j := 8 * s + k2) (xx := mm7 265 (8 * f + k2)) (show SH 265 = (1, 104) from rfl) (by omega) (by omega) rfl hrr)))))))))))))))) ?_
          generalize hm10 : w1 mm7 265 (8 * s + k2) (mm7 265 (8 * f + k2)) = mm9
          refine rw_of (fun rr hrr => q_iinc rfl rfl (q_goto (t := 62) rfl hrr)) ?_
          have hA11 : Fr (fun a_ => a_ = 264 ∨ a_ = 265) m1 mm9 ∧ (∀ x, mm9 264 x = if 8 * s ≤ x ∧ x < 8 * s + (k2 + 1) then m 264 (8 * f + (x - 8 * s)) else m 264 x) ∧ ∀ x, mm9 265 x = if 8 * s ≤ x ∧ x < 8 * s + (k2 + 1) then m 265 (8 * f + (x - 8 * s)) else m 265 x := by
            refine ⟨fr_w hm10 (fr_w hm8 hF2 (by omega)) (by omega), ?_, ?_⟩
            · have h1 := filld_w (P' := fun x => 8 * s ≤ x ∧ x < 8 * s + (k2 + 1)) (f := fun x => m 264 (8 * f + (x - 8 * s))) hm8 hb2 (by show _ = m 264 (8 * f + (8 * s + k2 - 8 * s)); rw [hb2, if_neg (by omega), show 8 * s + k2 - 8 * s = k2 by omega]) (fun x => by omega)
              intro x
              rw [← hm10, w1_a (by omega)]
              exact h1 x
            · exact filld_w (P' := fun x => 8 * s ≤ x ∧ x < 8 * s + (k2 + 1)) (f := fun x => m 265 (8 * f + (x - 8 * s))) hm10 (fun x => by rw [← hm8, w1_a (by omega)]; exact hc2 x) (by show _ = m 265 (8 * f + (8 * s + k2 - 8 * s)); rw [← hm8, w1_a (by omega), hc2, if_neg (by omega), show 8 * s + k2 - 8 * s = k2 by omega]) (fun x => by omega)
          exact rw_cast (ih62 (by omega) mm9 hA11) (lcons rfl (lcons rfl (lcons rfl (lcons (lvI (by omega)) rfl)))) rfl
      exact rw_cast (hL62 0 (by omega) m1 (by exact ⟨Fr_rfl, fun x => by rw [if_neg (by omega), h264], fun x => by rw [if_neg (by omega), h265]⟩)) (lcons rfl (lcons rfl (lcons rfl (lcons (lvI (by omega)) rfl)))) rfl
    · skip
      refine rw_of (fun rr hrr => q_aload_n rfl (q_getR (show SH 261 = (18, 0) from rfl) rfl (pt_261_2 hP) (q_bipush rfl (q_iload_n rfl (q_imul (q_iload_n rfl (q_iadd (q_aload_n rfl (q_getR (show SH 261 = (18, 0) from rfl) rfl (pt_261_2 hP) (q_bipush rfl (q_iload_n rfl (q_imul (q_iload_n rfl (q_iadd (q_iald (j := 64 * f + k) (show SH 263 = (1, 832) from rfl) (by omega) (by omega) rfl (q_iast (j := 64 * s + k) (xx := m1 263 (64 * f + k)) (show SH 263 = (1, 832) from rfl) (by omega) (by omega) rfl hrr)))))))))))))))) ?_
      generalize hm13 : w1 m1 263 (64 * s + k) (m1 263 (64 * f + k)) = mm12
      refine rw_of (fun rr hrr => q_iinc rfl rfl (q_goto (t := 26) rfl hrr)) ?_
      exact rw_cast (ih26 (by omega) mm12 (by refine ⟨fr_w hm13 hF1 (by omega), fun x => by rw [← hm13, w1_a (by omega)]; exact ho1 x, fun x => by rw [← hm13, w1_a (by omega)]; exact hd1 x, filld_w (P' := fun x => 64 * s ≤ x ∧ x < 64 * s + (k + 1)) (f := fun x => m 263 (64 * f + (x - 64 * s))) hm13 hA1 (by show _ = m 263 (64 * f + (64 * s + k - 64 * s)); rw [hA1, if_neg (by omega), show 64 * s + k - 64 * s = k by omega]) (fun x => by omega), by rw [← hm13, w1_a (by omega)]; exact h264, by rw [← hm13, w1_a (by omega)]; exact h265⟩)) (lcons rfl (lcons rfl (lcons rfl (lcons (lvI (by omega)) rfl)))) rfl
  have hA14 : Fr (fun a_ => 262 ≤ a_ ∧ a_ ≤ 266) m mm3 ∧ (∀ x, mm3 262 x = if x = s then m 262 f else m 262 x) ∧ (∀ x, mm3 266 x = if x = s then m 266 f else m 266 x) ∧ (∀ x, mm3 263 x = if 64 * s ≤ x ∧ x < 64 * s + 0 then m 263 (64 * f + (x - 64 * s)) else m 263 x) ∧ mm3 264 = m 264 ∧ mm3 265 = m 265 := by
    refine ⟨fr_w hm4 (fr_w hm2 Fr_rfl (by omega)) (by omega), fun x => ?_, fun x => ?_, fun x => ?_, ?_, ?_⟩
    · rw [← hm4, w1_a (by omega), ← hm2]
      by_cases q : x = s
      · rw [q, w1_at, if_pos rfl]
      · rw [w1_ne (fun z => q z.2), if_neg q]
    · rw [← hm4, ← hm2]
      by_cases q : x = s
      · rw [q, w1_at, if_pos rfl, w1_a (by omega)]
      · rw [w1_ne (fun z => q z.2), w1_a (by omega), if_neg q]
    · rw [← hm4, w1_a (by omega), ← hm2, w1_a (by omega), if_neg (by omega)]
    · rw [← hm4, w1_a (by omega), ← hm2, w1_a (by omega)]
    · rw [← hm4, w1_a (by omega), ← hm2, w1_a (by omega)]
  exact rw_cast (hL26 0 (by omega) mm3 hA14) (lcons rfl (lcons rfl (lcons rfl (lcons (lvI (by omega)) rfl)))) rfl
