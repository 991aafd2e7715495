theorem c_X10_misses0 {d : Nat} {S : MC} {fz : Bool} {m : M1} {p : M2} (hd : 3 ≤ d) (s k n : Nat) (x : Int) (hP : PI p) (hk : m 261 0 = nF k) (hk12 : k ≤ 12) (hsk : s < k) (hm : m 262 s = nF n) (hn0 : 1 ≤ n) (hn : n ≤ 8) (hr : (-2147483648 ≤ x ∧ x < 2147483648)) (h : 0 ≤ x ∧ x < n) : Ct d k_X10_misses S fz [.ref (261), .int (iI (((s : Nat) : Int))), .int (iI (x))] m p (fun v m' p' => v = some (.int (iI (0))) ∧ m = m' ∧ p = p') := by
  obtain ⟨d, rfl⟩ : ∃ e, d = e + 1 := ⟨d - 1, by omega⟩
  refine ct_go (lv := [some (.ref (261)), some (.int (iI (((s : Nat) : Int)))), some (.int (iI (x)))]) (Nat.le_of_ble_eq_true rfl) (okar_cons rfl (okar_cons rfl (okar_cons rfl okar_nil))) rfl (fun Qr hQ => ?_)
  refine rw_blk lk_X10_misses_0 ?_
  refine rw_of (fun rr hrr => q_aload_n rfl (q_iload_n rfl hrr)) ?_
  obtain ⟨_, mm1, pp2, hV3, rfl, rfl, rfl⟩ := c_X10_isSystem1 (S := S) (fz := fz) (m := m) (p := p) (d := d) (by omega) (((s : Nat) : Int)) (k) hP hk (by omega) (by omega) (by omega)
  refine rw_of (fun rr hrr => q_invV hV3 (show SH 261 = (18, 0) from rfl) rfl rfl (okar_cons rfl okar_nil) (Nat.le_of_ble_eq_true rfl) hrr) ?_
  refine rw_if_eq ⟨by omega, by omega⟩ (t := 40) rfl (fun hc4 => ?_) (fun hc4 => ?_)
  · exfalso; omega
  · skip
    refine rw_of (fun rr hrr => q_iload_n rfl (q_iconst (q_aload_n rfl (q_getR (show SH 261 = (18, 0) from rfl) rfl (pt_261_1 hP) (q_aload_n rfl (q_iload_n rfl hrr)))))) ?_
    obtain ⟨_, mm5, pp6, hV7, rfl, rfl, rfl⟩ := c_X10_isSystem1 (S := S) (fz := fz) (m := m) (p := p) (d := d) (by omega) (((s : Nat) : Int)) (k) hP hk (by omega) (by omega) (by omega)
    refine rw_of (fun rr hrr => q_invV hV7 (show SH 261 = (18, 0) from rfl) rfl rfl (okar_cons rfl okar_nil) (Nat.le_of_ble_eq_true rfl) hrr) ?_
    refine rw_if_eq ⟨by omega, by omega⟩ (t := 26) rfl (fun hc8 => ?_) (fun hc8 => ?_)
    · exfalso; omega
    · skip
      refine rw_of (fun rr hrr => q_iload_n rfl (q_goto (t := 27) rfl hrr)) ?_
      refine rw_blk lk_X10_misses_27 ?_
      refine rw_of (fun rr hrr => q_iald (j := s) (show SH 262 = (1, 13) from rfl) rfl (by omega) (ki rfl hm (by omega)) (q_iconst (q_isub hrr))) ?_
      obtain ⟨_, mm9, pp10, hV11, rfl, rfl, rfl⟩ := c_X10_isIn1 (S := S) (fz := fz) (m := m) (p := p) (d := d) (by omega) (x) (0) ((((n : Nat) : Int) - 1)) (by omega) (by omega) (by omega)
      refine rw_of (fun rr hrr => q_invS hV11 rfl rfl (okar_cons rfl (okar_cons rfl (okar_cons rfl okar_nil))) (Nat.le_of_ble_eq_true rfl) hrr) ?_
      refine rw_if_eq ⟨by omega, by omega⟩ (t := 40) rfl (fun hc12 => ?_) (fun hc12 => ?_)
      · exfalso; omega
      · skip
        refine rw_of (fun rr hrr => q_iconst (q_goto (t := 41) rfl hrr)) ?_
        refine rw_blk lk_X10_misses_41 ?_
        exact rw_ret hQ (q_ireturn (Or.inl rfl)) (by exact ⟨rfl, rfl, rfl⟩)
theorem c_X10_misses1 {d : Nat} {S : MC} {fz : Bool} {m : M1} {p : M2} (hd : 3 ≤ d) (s k n : Nat) (x : Int) (hP : PI p) (hk : m 261 0 = nF k) (hk12 : k ≤ 12) (hsk : s < k) (hm : m 262 s = nF n) (hn0 : 1 ≤ n) (hn : n ≤ 8) (hr : (-2147483648 ≤ x ∧ x < 2147483648)) (h : x < 0 ∨ n ≤ x) : Ct d k_X10_misses S fz [.ref (261), .int (iI (((s : Nat) : Int))), .int (iI (x))] m p (fun v m' p' => v = some (.int (iI (1))) ∧ m = m' ∧ p = p') := by
  obtain ⟨d, rfl⟩ : ∃ e, d = e + 1 := ⟨d - 1, by omega⟩
  refine ct_go (lv := [some (.ref (261)), some (.int (iI (((s : Nat) : Int)))), some (.int (iI (x)))]) (Nat.le_of_ble_eq_true rfl) (okar_cons rfl (okar_cons rfl (okar_cons rfl okar_nil))) rfl (fun Qr hQ => ?_)
  refine rw_blk lk_X10_misses_0 ?_
  refine rw_of (fun rr hrr => q_aload_n rfl (q_iload_n rfl hrr)) ?_
  obtain ⟨_, mm1, pp2, hV3, rfl, rfl, rfl⟩ := c_X10_isSystem1 (S := S) (fz := fz) (m := m) (p := p) (d := d) (by omega) (((s : Nat) : Int)) (k) hP hk (by omega) (by omega) (by omega)
  refine rw_of (fun rr hrr => q_invV hV3 (show SH 261 = (18, 0) from rfl) rfl rfl (okar_cons rfl okar_nil) (Nat.le_of_ble_eq_true rfl) hrr) ?_
  refine rw_if_eq ⟨by omega, by omega⟩ (t := 40) rfl (fun hc4 => ?_) (fun hc4 => ?_)
  · exfalso; omega
  · skip
    refine rw_of (fun rr hrr => q_iload_n rfl (q_iconst (q_aload_n rfl (q_getR (show SH 261 = (18, 0) from rfl) rfl (pt_261_1 hP) (q_aload_n rfl (q_iload_n rfl hrr)))))) ?_
    obtain ⟨_, mm5, pp6, hV7, rfl, rfl, rfl⟩ := c_X10_isSystem1 (S := S) (fz := fz) (m := m) (p := p) (d := d) (by omega) (((s : Nat) : Int)) (k) hP hk (by omega) (by omega) (by omega)
    refine rw_of (fun rr hrr => q_invV hV7 (show SH 261 = (18, 0) from rfl) rfl rfl (okar_cons rfl okar_nil) (Nat.le_of_ble_eq_true rfl) hrr) ?_
    refine rw_if_eq ⟨by omega, by omega⟩ (t := 26) rfl (fun hc8 => ?_) (fun hc8 => ?_)
    · exfalso; omega
    · skip
      refine rw_of (fun rr hrr => q_iload_n rfl (q_goto (t := 27) rfl hrr)) ?_
      refine rw_blk lk_X10_misses_27 ?_
      refine rw_of (fun rr hrr => q_iald (j := s) (show SH 262 = (1, 13) from rfl) rfl (by omega) (ki rfl hm (by omega)) (q_iconst (q_isub hrr))) ?_
      obtain ⟨_, mm9, pp10, hV11, rfl, rfl, rfl⟩ := c_X10_isIn0 (S := S) (fz := fz) (m := m) (p := p) (d := d) (by omega) (x) (0) ((((n : Nat) : Int) - 1)) (by omega) (by omega) (by omega)
      refine rw_of (fun rr hrr => q_invS hV11 rfl rfl (okar_cons rfl (okar_cons rfl (okar_cons rfl okar_nil))) (Nat.le_of_ble_eq_true rfl) hrr) ?_
      refine rw_if_eq ⟨by omega, by omega⟩ (t := 40) rfl (fun hc12 => ?_) (fun hc12 => ?_)
      · skip
        refine rw_blk lk_X10_misses_40 ?_
        refine rw_of (fun rr hrr => q_iconst hrr) ?_
        refine rw_blk lk_X10_misses_41 ?_
        exact rw_ret hQ (q_ireturn (Or.inl rfl)) (by exact ⟨rfl, rfl, rfl⟩)
      · exfalso; omega
theorem c_X10_missesS {d : Nat} {S : MC} {fz : Bool} {m : M1} {p : M2} (hd : 3 ≤ d) (s : Int) (k : Nat) (x : Int) (hP : PI p) (hk : m 261 0 = nF k) (hk12 : k ≤ 12) (hr : (-2147483648 ≤ s ∧ s < 2147483648)) (h : ¬ (0 ≤ s ∧ s < k)) : Ct d k_X10_misses S fz [.ref (261), .int (iI (s)), .int (iI (x))] m p (fun v m' p' => v = some (.int (iI (1))) ∧ m = m' ∧ p = p') := by
  obtain ⟨d, rfl⟩ : ∃ e, d = e + 1 := ⟨d - 1, by omega⟩
  refine ct_go (lv := [some (.ref (261)), some (.int (iI (s))), some (.int (iI (x)))]) (Nat.le_of_ble_eq_true rfl) (okar_cons rfl (okar_cons rfl (okar_cons rfl okar_nil))) rfl (fun Qr hQ => ?_)
  refine rw_blk lk_X10_misses_0 ?_
  refine rw_of (fun rr hrr => q_aload_n rfl (q_iload_n rfl hrr)) ?_
  obtain ⟨_, mm1, pp2, hV3, rfl, rfl, rfl⟩ := c_X10_isSystem0 (S := S) (fz := fz) (m := m) (p := p) (d := d) (by omega) (s) (k) hP hk (by omega) (by omega) (by omega)
  refine rw_of (fun rr hrr => q_invV hV3 (show SH 261 = (18, 0) from rfl) rfl rfl (okar_cons rfl okar_nil) (Nat.le_of_ble_eq_true rfl) hrr) ?_
  refine rw_if_eq ⟨by omega, by omega⟩ (t := 40) rfl (fun hc4 => ?_) (fun hc4 => ?_)
  · skip
    refine rw_blk lk_X10_misses_40 ?_
    refine rw_of (fun rr hrr => q_iconst hrr) ?_
    refine rw_blk lk_X10_misses_41 ?_
    exact rw_ret hQ (q_ireturn (Or.inl rfl)) (by exact ⟨rfl, rfl, rfl⟩)
  · exfalso; omega
