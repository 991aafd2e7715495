theorem c_X10_at0 {d : Nat} {S : MC} {fz : Bool} {m : M1} {p : M2} (hd : 4 ≤ d) (s k n : Nat) (i : Nat) (j : Nat) (hP : PI p) (hk : m 261 0 = nF k) (hk12 : k ≤ 12) (hsk : s < k) (hm : m 262 s = nF n) (hn0 : 1 ≤ n) (hn : n ≤ 8) (hi : i < n) (hj : j < n) : Ct d k_X10_at S fz [.ref (261), .int (iI (((s : Nat) : Int))), .int (iI (0)), .int (iI (((i : Nat) : Int))), .int (iI (((j : Nat) : Int)))] m p (fun v m' p' => v = some (.int (iI (vF (m 263 (64 * s + 8 * i + j))))) ∧ p = p' ∧ w1 m 261 21 0 = m') := by
  obtain ⟨d, rfl⟩ : ∃ e, d = e + 1 := ⟨d - 1, by omega⟩
  refine ct_go (lv := [some (.ref (261)), some (.int (iI (((s : Nat) : Int)))), some (.int (iI (0))), some (.int (iI (((i : Nat) : Int)))), some (.int (iI (((j : Nat) : Int))))]) (Nat.le_of_ble_eq_true rfl) (okar_cons rfl (okar_cons rfl (okar_cons rfl (okar_cons rfl (okar_cons rfl okar_nil))))) rfl (fun Qr hQ => ?_)
  refine rw_blk lk_X10_at_0 ?_
  refine rw_of (fun rr hrr => q_aload_n rfl (q_aload_n rfl (q_iload_n rfl (q_iload_n rfl (q_iload_n rfl (q_iload rfl hrr)))))) ?_
  obtain ⟨_, mm1, pp2, hV3, rfl, rfl, rfl⟩ := c_X10_isPlace0_11 (S := S) (fz := fz) (m := m) (p := p) (d := d) (by omega) (s) (k) (n) (((i : Nat) : Int)) (((j : Nat) : Int)) hP hk (by omega) (by omega) hm (by omega) (by omega) (by omega) (by omega) (by omega) (by omega)
  refine rw_of (fun rr hrr => q_invV hV3 (show SH 261 = (18, 0) from rfl) rfl rfl (okar_cons rfl (okar_cons rfl (okar_cons rfl (okar_cons rfl okar_nil)))) (Nat.le_of_ble_eq_true rfl) hrr) ?_
  refine rw_if_eq ⟨by omega, by omega⟩ (t := 17) rfl (fun hc4 => ?_) (fun hc4 => ?_)
  · exfalso; omega
  · skip
    refine rw_of (fun rr hrr => q_iconst (q_goto (t := 18) rfl hrr)) ?_
    refine rw_blk lk_X10_at_18 ?_
    obtain ⟨_, mm5, pp6, hV7, rfl, rfl, hw7, hF7⟩ := c_X10_fails0 (S := S) (fz := fz) (m := m) (p := p) (d := d) (by omega) hP
    refine rw_of (fun rr hrr => q_invV hV7 (show SH 261 = (18, 0) from rfl) rfl rfl (okar_cons rfl okar_nil) (Nat.le_of_ble_eq_true rfl) hrr) ?_
    refine rw_if_eq ⟨by omega, by omega⟩ (t := 28) rfl (fun hc8 => ?_) (fun hc8 => ?_)
    · skip
      refine rw_blk lk_X10_at_28 ?_
      refine rw_of (fun rr hrr => q_aload_n rfl (q_iload_n rfl (q_iload_n rfl (q_iload_n rfl (q_iload rfl hrr))))) ?_
      obtain ⟨_, mm9, pp10, hV11, rfl, rfl, rfl⟩ := c_X10_told0 (S := S) (fz := fz) (m := mm5) (p := p) (d := d) (by omega) (s) (i) (j) hP (by omega) (by omega) (by omega)
      refine rw_of (fun rr hrr => q_invV hV11 (show SH 261 = (18, 0) from rfl) rfl rfl (okar_cons rfl (okar_cons rfl (okar_cons rfl (okar_cons rfl okar_nil)))) (Nat.le_of_ble_eq_true rfl) hrr) ?_
      refine rw_blk lk_X10_at_37 ?_
      exact rw_ret hQ (q_ireturn (Or.inl rfl)) (by exact ⟨lvI (congrArg vF (congrFun (hF7 263 (by omega)) _)), rfl, hw7⟩)
    · exfalso; omega
theorem c_X10_at1 {d : Nat} {S : MC} {fz : Bool} {m : M1} {p : M2} (hd : 4 ≤ d) (s k n : Nat) (i : Nat) (j : Int) (hP : PI p) (hk : m 261 0 = nF k) (hk12 : k ≤ 12) (hsk : s < k) (hm : m 262 s = nF n) (hn0 : 1 ≤ n) (hn : n ≤ 8) (hi : i < n) (hrj : (-2147483648 ≤ j ∧ j < 2147483648)) : Ct d k_X10_at S fz [.ref (261), .int (iI (((s : Nat) : Int))), .int (iI (1)), .int (iI (((i : Nat) : Int))), .int (iI (j))] m p (fun v m' p' => v = some (.int (iI (vF (m 264 (8 * s + i))))) ∧ p = p' ∧ w1 m 261 21 0 = m') := by
  obtain ⟨d, rfl⟩ : ∃ e, d = e + 1 := ⟨d - 1, by omega⟩
  refine ct_go (lv := [some (.ref (261)), some (.int (iI (((s : Nat) : Int)))), some (.int (iI (1))), some (.int (iI (((i : Nat) : Int)))), some (.int (iI (j)))]) (Nat.le_of_ble_eq_true rfl) (okar_cons rfl (okar_cons rfl (okar_cons rfl (okar_cons rfl (okar_cons rfl okar_nil))))) rfl (fun Qr hQ => ?_)
  refine rw_blk lk_X10_at_0 ?_
  refine rw_of (fun rr hrr => q_aload_n rfl (q_aload_n rfl (q_iload_n rfl (q_iload_n rfl (q_iload_n rfl (q_iload rfl hrr)))))) ?_
  obtain ⟨_, mm1, pp2, hV3, rfl, rfl, rfl⟩ := c_X10_isPlace1_11 (S := S) (fz := fz) (m := m) (p := p) (d := d) (by omega) (s) (k) (n) (((i : Nat) : Int)) (j) hP hk (by omega) (by omega) hm (by omega) (by omega) (by omega) (by omega) (by omega)
  refine rw_of (fun rr hrr => q_invV hV3 (show SH 261 = (18, 0) from rfl) rfl rfl (okar_cons rfl (okar_cons rfl (okar_cons rfl (okar_cons rfl okar_nil)))) (Nat.le_of_ble_eq_true rfl) hrr) ?_
  refine rw_if_eq ⟨by omega, by omega⟩ (t := 17) rfl (fun hc4 => ?_) (fun hc4 => ?_)
  · exfalso; omega
  · skip
    refine rw_of (fun rr hrr => q_iconst (q_goto (t := 18) rfl hrr)) ?_
    refine rw_blk lk_X10_at_18 ?_
    obtain ⟨_, mm5, pp6, hV7, rfl, rfl, hw7, hF7⟩ := c_X10_fails0 (S := S) (fz := fz) (m := m) (p := p) (d := d) (by omega) hP
    refine rw_of (fun rr hrr => q_invV hV7 (show SH 261 = (18, 0) from rfl) rfl rfl (okar_cons rfl okar_nil) (Nat.le_of_ble_eq_true rfl) hrr) ?_
    refine rw_if_eq ⟨by omega, by omega⟩ (t := 28) rfl (fun hc8 => ?_) (fun hc8 => ?_)
    · skip
      refine rw_blk lk_X10_at_28 ?_
      refine rw_of (fun rr hrr => q_aload_n rfl (q_iload_n rfl (q_iload_n rfl (q_iload_n rfl (q_iload rfl hrr))))) ?_
      obtain ⟨_, mm9, pp10, hV11, rfl, rfl, rfl⟩ := c_X10_told1 (S := S) (fz := fz) (m := mm5) (p := p) (d := d) (by omega) (s) (i) (j) hP (by omega) (by omega)
      refine rw_of (fun rr hrr => q_invV hV11 (show SH 261 = (18, 0) from rfl) rfl rfl (okar_cons rfl (okar_cons rfl (okar_cons rfl (okar_cons rfl okar_nil)))) (Nat.le_of_ble_eq_true rfl) hrr) ?_
      refine rw_blk lk_X10_at_37 ?_
      exact rw_ret hQ (q_ireturn (Or.inl rfl)) (by exact ⟨lvI (congrArg vF (congrFun (hF7 264 (by omega)) _)), rfl, hw7⟩)
    · exfalso; omega
theorem c_X10_at2 {d : Nat} {S : MC} {fz : Bool} {m : M1} {p : M2} (hd : 4 ≤ d) (s k n : Nat) (i : Int) (j : Nat) (hP : PI p) (hk : m 261 0 = nF k) (hk12 : k ≤ 12) (hsk : s < k) (hm : m 262 s = nF n) (hn0 : 1 ≤ n) (hn : n ≤ 8) (hri : (-2147483648 ≤ i ∧ i < 2147483648)) (hj : j < n) : Ct d k_X10_at S fz [.ref (261), .int (iI (((s : Nat) : Int))), .int (iI (2)), .int (iI (i)), .int (iI (((j : Nat) : Int)))] m p (fun v m' p' => v = some (.int (iI (vF (m 265 (8 * s + j))))) ∧ p = p' ∧ w1 m 261 21 0 = m') := by
  obtain ⟨d, rfl⟩ : ∃ e, d = e + 1 := ⟨d - 1, by omega⟩
  refine ct_go (lv := [some (.ref (261)), some (.int (iI (((s : Nat) : Int)))), some (.int (iI (2))), some (.int (iI (i))), some (.int (iI (((j : Nat) : Int))))]) (Nat.le_of_ble_eq_true rfl) (okar_cons rfl (okar_cons rfl (okar_cons rfl (okar_cons rfl (okar_cons rfl okar_nil))))) rfl (fun Qr hQ => ?_)
  refine rw_blk lk_X10_at_0 ?_
  refine rw_of (fun rr hrr => q_aload_n rfl (q_aload_n rfl (q_iload_n rfl (q_iload_n rfl (q_iload_n rfl (q_iload rfl hrr)))))) ?_
  obtain ⟨_, mm1, pp2, hV3, rfl, rfl, rfl⟩ := c_X10_isPlace2_11 (S := S) (fz := fz) (m := m) (p := p) (d := d) (by omega) (s) (k) (n) (i) (((j : Nat) : Int)) hP hk (by omega) (by omega) hm (by omega) (by omega) (by omega) (by omega) (by omega)
  refine rw_of (fun rr hrr => q_invV hV3 (show SH 261 = (18, 0) from rfl) rfl rfl (okar_cons rfl (okar_cons rfl (okar_cons rfl (okar_cons rfl okar_nil)))) (Nat.le_of_ble_eq_true rfl) hrr) ?_
  refine rw_if_eq ⟨by omega, by omega⟩ (t := 17) rfl (fun hc4 => ?_) (fun hc4 => ?_)
  · exfalso; omega
  · skip
    refine rw_of (fun rr hrr => q_iconst (q_goto (t := 18) rfl hrr)) ?_
    refine rw_blk lk_X10_at_18 ?_
    obtain ⟨_, mm5, pp6, hV7, rfl, rfl, hw7, hF7⟩ := c_X10_fails0 (S := S) (fz := fz) (m := m) (p := p) (d := d) (by omega) hP
    refine rw_of (fun rr hrr => q_invV hV7 (show SH 261 = (18, 0) from rfl) rfl rfl (okar_cons rfl okar_nil) (Nat.le_of_ble_eq_true rfl) hrr) ?_
    refine rw_if_eq ⟨by omega, by omega⟩ (t := 28) rfl (fun hc8 => ?_) (fun hc8 => ?_)
    · skip
      refine rw_blk lk_X10_at_28 ?_
      refine rw_of (fun rr hrr => q_aload_n rfl (q_iload_n rfl (q_iload_n rfl (q_iload_n rfl (q_iload rfl hrr))))) ?_
      obtain ⟨_, mm9, pp10, hV11, rfl, rfl, rfl⟩ := c_X10_told2 (S := S) (fz := fz) (m := mm5) (p := p) (d := d) (by omega) (s) (i) (j) hP (by omega) (by omega)
      refine rw_of (fun rr hrr => q_invV hV11 (show SH 261 = (18, 0) from rfl) rfl rfl (okar_cons rfl (okar_cons rfl (okar_cons rfl (okar_cons rfl okar_nil)))) (Nat.le_of_ble_eq_true rfl) hrr) ?_
      refine rw_blk lk_X10_at_37 ?_
      exact rw_ret hQ (q_ireturn (Or.inl rfl)) (by exact ⟨lvI (congrArg vF (congrFun (hF7 265 (by omega)) _)), rfl, hw7⟩)
    · exfalso; omega
theorem c_X10_at3 {d : Nat} {S : MC} {fz : Bool} {m : M1} {p : M2} (hd : 4 ≤ d) (s k n : Nat) (i : Int) (j : Int) (hP : PI p) (hk : m 261 0 = nF k) (hk12 : k ≤ 12) (hsk : s < k) (hm : m 262 s = nF n) (hn0 : 1 ≤ n) (hn : n ≤ 8) (hri : (-2147483648 ≤ i ∧ i < 2147483648)) (hrj : (-2147483648 ≤ j ∧ j < 2147483648)) : Ct d k_X10_at S fz [.ref (261), .int (iI (((s : Nat) : Int))), .int (iI (3)), .int (iI (i)), .int (iI (j))] m p (fun v m' p' => v = some (.int (iI (vF (m 266 s)))) ∧ p = p' ∧ w1 m 261 21 0 = m') := by
  obtain ⟨d, rfl⟩ : ∃ e, d = e + 1 := ⟨d - 1, by omega⟩
  refine ct_go (lv := [some (.ref (261)), some (.int (iI (((s : Nat) : Int)))), some (.int (iI (3))), some (.int (iI (i))), some (.int (iI (j)))]) (Nat.le_of_ble_eq_true rfl) (okar_cons rfl (okar_cons rfl (okar_cons rfl (okar_cons rfl (okar_cons rfl okar_nil))))) rfl (fun Qr hQ => ?_)
  refine rw_blk lk_X10_at_0 ?_
  refine rw_of (fun rr hrr => q_aload_n rfl (q_aload_n rfl (q_iload_n rfl (q_iload_n rfl (q_iload_n rfl (q_iload rfl hrr)))))) ?_
  obtain ⟨_, mm1, pp2, hV3, rfl, rfl, rfl⟩ := c_X10_isPlace3_11 (S := S) (fz := fz) (m := m) (p := p) (d := d) (by omega) (s) (k) (n) (i) (j) hP hk (by omega) (by omega) hm (by omega) (by omega) (by omega) (by omega)
  refine rw_of (fun rr hrr => q_invV hV3 (show SH 261 = (18, 0) from rfl) rfl rfl (okar_cons rfl (okar_cons rfl (okar_cons rfl (okar_cons rfl okar_nil)))) (Nat.le_of_ble_eq_true rfl) hrr) ?_
  refine rw_if_eq ⟨by omega, by omega⟩ (t := 17) rfl (fun hc4 => ?_) (fun hc4 => ?_)
  · exfalso; omega
  · skip
    refine rw_of (fun rr hrr => q_iconst (q_goto (t := 18) rfl hrr)) ?_
    refine rw_blk lk_X10_at_18 ?_
    obtain ⟨_, mm5, pp6, hV7, rfl, rfl, hw7, hF7⟩ := c_X10_fails0 (S := S) (fz := fz) (m := m) (p := p) (d := d) (by omega) hP
    refine rw_of (fun rr hrr => q_invV hV7 (show SH 261 = (18, 0) from rfl) rfl rfl (okar_cons rfl okar_nil) (Nat.le_of_ble_eq_true rfl) hrr) ?_
    refine rw_if_eq ⟨by omega, by omega⟩ (t := 28) rfl (fun hc8 => ?_) (fun hc8 => ?_)
    · skip
      refine rw_blk lk_X10_at_28 ?_
      refine rw_of (fun rr hrr => q_aload_n rfl (q_iload_n rfl (q_iload_n rfl (q_iload_n rfl (q_iload rfl hrr))))) ?_
      obtain ⟨_, mm9, pp10, hV11, rfl, rfl, rfl⟩ := c_X10_told3 (S := S) (fz := fz) (m := mm5) (p := p) (d := d) (by omega) (s) (i) (j) hP (by omega)
      refine rw_of (fun rr hrr => q_invV hV11 (show SH 261 = (18, 0) from rfl) rfl rfl (okar_cons rfl (okar_cons rfl (okar_cons rfl (okar_cons rfl okar_nil)))) (Nat.le_of_ble_eq_true rfl) hrr) ?_
      refine rw_blk lk_X10_at_37 ?_
      exact rw_ret hQ (q_ireturn (Or.inl rfl)) (by exact ⟨lvI (congrArg vF (congrFun (hF7 266 (by omega)) _)), rfl, hw7⟩)
    · exfalso; omega
