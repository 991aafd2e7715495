theorem c_X10_pole0 {d : Nat} {S : MC} {fz : Bool} {m : M1} {p : M2} (hd : 3 ≤ d) (c : Nat) (x : Int) (hP : PI p) (h1 : m 261 6 = nF c) (hcl : c ≤ 16) (hr : (-2147483648 ≤ x ∧ x < 2147483648)) (h : x ≤ -10007 ∨ 10007 ≤ x) : Ct d k_X10_pole S fz [.ref (261), .int (iI (x))] m p (fun v m' p' => v = some (.int (iI 0)) ∧ p = p' ∧ w1 m 261 21 (nF 1) = m') := by
  obtain ⟨d, rfl⟩ : ∃ e, d = e + 1 := ⟨d - 1, by omega⟩
  refine ct_go (lv := [some (.ref (261)), some (.int (iI (x)))]) (Nat.le_of_ble_eq_true rfl) (okar_cons rfl (okar_cons rfl okar_nil)) rfl (fun Qr hQ => ?_)
  refine rw_blk lk_X10_pole_0 ?_
  refine rw_of (fun rr hrr => q_aload_n rfl (q_iload_n rfl hrr)) ?_
  obtain ⟨_, mm1, pp2, hV3, rfl, rfl, rfl⟩ := c_X10_isValue0 (S := S) (fz := fz) (m := m) (p := p) (d := d) (by omega) (x) (by omega) (by omega)
  refine rw_of (fun rr hrr => q_invS hV3 rfl rfl (okar_cons rfl okar_nil) (Nat.le_of_ble_eq_true rfl) hrr) ?_
  refine rw_if_ne ⟨by omega, by omega⟩ (t := 12) rfl (fun hc4 => ?_) (fun hc4 => ?_)
  · exfalso; omega
  · skip
    refine rw_of (fun rr hrr => q_iconst (q_goto (t := 26) rfl hrr)) ?_
    refine rw_blk lk_X10_pole_26 ?_
    obtain ⟨_, mm5, pp6, hV7, rfl, rfl, hw7, hF7⟩ := c_X10_fails1 (S := S) (fz := fz) (m := m) (p := p) (d := d) (by omega) (1) hP (by omega)
    refine rw_of (fun rr hrr => q_invV hV7 (show SH 261 = (18, 0) from rfl) rfl rfl (okar_cons rfl okar_nil) (Nat.le_of_ble_eq_true rfl) hrr) ?_
    refine rw_if_eq ⟨by omega, by omega⟩ (t := 34) rfl (fun hc8 => ?_) (fun hc8 => ?_)
    · exfalso; omega
    · skip
      refine rw_of (fun rr hrr => q_iconst hrr) ?_
      refine rw_ret hQ (q_ireturn (Or.inl rfl)) ?_
      first
        | exact ⟨rfl, rfl, hw7⟩
        | (exfalso; omega)
      
theorem c_X10_poleF {d : Nat} {S : MC} {fz : Bool} {m : M1} {p : M2} (hd : 3 ≤ d) (c : Nat) (x : Int) (hP : PI p) (h1 : m 261 6 = nF c) (hcl : c ≤ 16) (hc : c = 16) (h : -10007 < x ∧ x < 10007) : Ct d k_X10_pole S fz [.ref (261), .int (iI (x))] m p (fun v m' p' => v = some (.int (iI 0)) ∧ p = p' ∧ w1 m 261 21 (nF 2) = m') := by
  obtain ⟨d, rfl⟩ : ∃ e, d = e + 1 := ⟨d - 1, by omega⟩
  refine ct_go (lv := [some (.ref (261)), some (.int (iI (x)))]) (Nat.le_of_ble_eq_true rfl) (okar_cons rfl (okar_cons rfl okar_nil)) rfl (fun Qr hQ => ?_)
  refine rw_blk lk_X10_pole_0 ?_
  refine rw_of (fun rr hrr => q_aload_n rfl (q_iload_n rfl hrr)) ?_
  obtain ⟨_, mm1, pp2, hV3, rfl, rfl, rfl⟩ := c_X10_isValue1 (S := S) (fz := fz) (m := m) (p := p) (d := d) (by omega) (x) (by omega) (by omega)
  refine rw_of (fun rr hrr => q_invS hV3 rfl rfl (okar_cons rfl okar_nil) (Nat.le_of_ble_eq_true rfl) hrr) ?_
  refine rw_if_ne ⟨by omega, by omega⟩ (t := 12) rfl (fun hc4 => ?_) (fun hc4 => ?_)
  · skip
    refine rw_blk lk_X10_pole_12 ?_
    refine rw_of (fun rr hrr => q_aload_n rfl (q_getI (show SH 261 = (18, 0) from rfl) rfl (ki rfl h1 (by omega)) (q_bipush rfl hrr))) ?_
    refine rw_icmp_ne ⟨by omega, by omega⟩ ⟨by omega, by omega⟩ (t := 25) rfl (fun hc5 => ?_) (fun hc5 => ?_)
    · exfalso; omega
    · skip
      refine rw_of (fun rr hrr => q_iconst (q_goto (t := 26) rfl hrr)) ?_
      refine rw_blk lk_X10_pole_26 ?_
      obtain ⟨_, mm6, pp7, hV8, rfl, rfl, hw8, hF8⟩ := c_X10_fails1 (S := S) (fz := fz) (m := m) (p := p) (d := d) (by omega) (2) hP (by omega)
      refine rw_of (fun rr hrr => q_invV hV8 (show SH 261 = (18, 0) from rfl) rfl rfl (okar_cons rfl okar_nil) (Nat.le_of_ble_eq_true rfl) hrr) ?_
      refine rw_if_eq ⟨by omega, by omega⟩ (t := 34) rfl (fun hc9 => ?_) (fun hc9 => ?_)
      · exfalso; omega
      · skip
        refine rw_of (fun rr hrr => q_iconst hrr) ?_
        refine rw_ret hQ (q_ireturn (Or.inl rfl)) ?_
        first
          | exact ⟨rfl, rfl, hw8⟩
          | (exfalso; omega)
        
  · exfalso; omega
theorem c_X10_input0 {d : Nat} {S : MC} {fz : Bool} {m : M1} {p : M2} (hd : 3 ≤ d) (c : Nat) (x : Int) (hP : PI p) (h1 : m 261 8 = nF c) (hcl : c ≤ 20) (hr : (-2147483648 ≤ x ∧ x < 2147483648)) (h : x ≤ -10007 ∨ 10007 ≤ x) : Ct d k_X10_input S fz [.ref (261), .int (iI (x))] m p (fun v m' p' => v = some (.int (iI 0)) ∧ p = p' ∧ w1 m 261 21 (nF 1) = m') := by
  obtain ⟨d, rfl⟩ : ∃ e, d = e + 1 := ⟨d - 1, by omega⟩
  refine ct_go (lv := [some (.ref (261)), some (.int (iI (x)))]) (Nat.le_of_ble_eq_true rfl) (okar_cons rfl (okar_cons rfl okar_nil)) rfl (fun Qr hQ => ?_)
  refine rw_blk lk_X10_input_0 ?_
  refine rw_of (fun rr hrr => q_aload_n rfl (q_iload_n rfl hrr)) ?_
  obtain ⟨_, mm1, pp2, hV3, rfl, rfl, rfl⟩ := c_X10_isValue0 (S := S) (fz := fz) (m := m) (p := p) (d := d) (by omega) (x) (by omega) (by omega)
  refine rw_of (fun rr hrr => q_invS hV3 rfl rfl (okar_cons rfl okar_nil) (Nat.le_of_ble_eq_true rfl) hrr) ?_
  refine rw_if_ne ⟨by omega, by omega⟩ (t := 12) rfl (fun hc4 => ?_) (fun hc4 => ?_)
  · exfalso; omega
  · skip
    refine rw_of (fun rr hrr => q_iconst (q_goto (t := 26) rfl hrr)) ?_
    refine rw_blk lk_X10_input_26 ?_
    obtain ⟨_, mm5, pp6, hV7, rfl, rfl, hw7, hF7⟩ := c_X10_fails1 (S := S) (fz := fz) (m := m) (p := p) (d := d) (by omega) (1) hP (by omega)
    refine rw_of (fun rr hrr => q_invV hV7 (show SH 261 = (18, 0) from rfl) rfl rfl (okar_cons rfl okar_nil) (Nat.le_of_ble_eq_true rfl) hrr) ?_
    refine rw_if_eq ⟨by omega, by omega⟩ (t := 34) rfl (fun hc8 => ?_) (fun hc8 => ?_)
    · exfalso; omega
    · skip
      refine rw_of (fun rr hrr => q_iconst hrr) ?_
      refine rw_ret hQ (q_ireturn (Or.inl rfl)) ?_
      first
        | exact ⟨rfl, rfl, hw7⟩
        | (exfalso; omega)
      
theorem c_X10_inputF {d : Nat} {S : MC} {fz : Bool} {m : M1} {p : M2} (hd : 3 ≤ d) (c : Nat) (x : Int) (hP : PI p) (h1 : m 261 8 = nF c) (hcl : c ≤ 20) (hc : c = 20) (h : -10007 < x ∧ x < 10007) : Ct d k_X10_input S fz [.ref (261), .int (iI (x))] m p (fun v m' p' => v = some (.int (iI 0)) ∧ p = p' ∧ w1 m 261 21 (nF 2) = m') := by
  obtain ⟨d, rfl⟩ : ∃ e, d = e + 1 := ⟨d - 1, by omega⟩
  refine ct_go (lv := [some (.ref (261)), some (.int (iI (x)))]) (Nat.le_of_ble_eq_true rfl) (okar_cons rfl (okar_cons rfl okar_nil)) rfl (fun Qr hQ => ?_)
  refine rw_blk lk_X10_input_0 ?_
  refine rw_of (fun rr hrr => q_aload_n rfl (q_iload_n rfl hrr)) ?_
  obtain ⟨_, mm1, pp2, hV3, rfl, rfl, rfl⟩ := c_X10_isValue1 (S := S) (fz := fz) (m := m) (p := p) (d := d) (by omega) (x) (by omega) (by omega)
  refine rw_of (fun rr hrr => q_invS hV3 rfl rfl (okar_cons rfl okar_nil) (Nat.le_of_ble_eq_true rfl) hrr) ?_
  refine rw_if_ne ⟨by omega, by omega⟩ (t := 12) rfl (fun hc4 => ?_) (fun hc4 => ?_)
  · skip
    refine rw_blk lk_X10_input_12 ?_
    refine rw_of (fun rr hrr => q_aload_n rfl (q_getI (show SH 261 = (18, 0) from rfl) rfl (ki rfl h1 (by omega)) (q_bipush rfl hrr))) ?_
    refine rw_icmp_ne ⟨by omega, by omega⟩ ⟨by omega, by omega⟩ (t := 25) rfl (fun hc5 => ?_) (fun hc5 => ?_)
    · exfalso; omega
    · skip
      refine rw_of (fun rr hrr => q_iconst (q_goto (t := 26) rfl hrr)) ?_
      refine rw_blk lk_X10_input_26 ?_
      obtain ⟨_, mm6, pp7, hV8, rfl, rfl, hw8, hF8⟩ := c_X10_fails1 (S := S) (fz := fz) (m := m) (p := p) (d := d) (by omega) (2) hP (by omega)
      refine rw_of (fun rr hrr => q_invV hV8 (show SH 261 = (18, 0) from rfl) rfl rfl (okar_cons rfl okar_nil) (Nat.le_of_ble_eq_true rfl) hrr) ?_
      refine rw_if_eq ⟨by omega, by omega⟩ (t := 34) rfl (fun hc9 => ?_) (fun hc9 => ?_)
      · exfalso; omega
      · skip
        refine rw_of (fun rr hrr => q_iconst hrr) ?_
        refine rw_ret hQ (q_ireturn (Or.inl rfl)) ?_
        first
          | exact ⟨rfl, rfl, hw8⟩
          | (exfalso; omega)
        
  · exfalso; omega
theorem c_X10_at0_10 {d : Nat} {S : MC} {fz : Bool} {m : M1} {p : M2} (hd : 4 ≤ d) (s k n : Nat) (i j : Int) (hP : PI p) (hk : m 261 0 = nF k) (hk12 : k ≤ 12) (hsk : s < k) (hm : m 262 s = nF n) (hn0 : 1 ≤ n) (hn : n ≤ 8) (hri : (-2147483648 ≤ i ∧ i < 2147483648)) (hrj : (-2147483648 ≤ j ∧ j < 2147483648)) (hi : 0 ≤ i ∧ i < n) (hj : j < 0 ∨ n ≤ j) : Ct d k_X10_at S fz [.ref (261), .int (iI (((s : Nat) : Int))), .int (iI (0)), .int (iI (i)), .int (iI (j))] m p (fun v m' p' => v = some (.int (iI 0)) ∧ p = p' ∧ w1 m 261 21 (nF 1) = m') := by
  obtain ⟨d, rfl⟩ : ∃ e, d = e + 1 := ⟨d - 1, by omega⟩
  refine ct_go (lv := [some (.ref (261)), some (.int (iI (((s : Nat) : Int)))), some (.int (iI (0))), some (.int (iI (i))), some (.int (iI (j)))]) (Nat.le_of_ble_eq_true rfl) (okar_cons rfl (okar_cons rfl (okar_cons rfl (okar_cons rfl (okar_cons rfl okar_nil))))) rfl (fun Qr hQ => ?_)
  refine rw_blk lk_X10_at_0 ?_
  refine rw_of (fun rr hrr => q_aload_n rfl (q_aload_n rfl (q_iload_n rfl (q_iload_n rfl (q_iload_n rfl (q_iload rfl hrr)))))) ?_
  obtain ⟨_, mm1, pp2, hV3, rfl, rfl, rfl⟩ := c_X10_isPlace0_10 (S := S) (fz := fz) (m := m) (p := p) (d := d) (by omega) (s) (k) (n) (i) (j) hP hk (by omega) (by omega) hm (by omega) (by omega) (by omega) (by omega) (by omega) (by omega)
  refine rw_of (fun rr hrr => q_invV hV3 (show SH 261 = (18, 0) from rfl) rfl rfl (okar_cons rfl (okar_cons rfl (okar_cons rfl (okar_cons rfl okar_nil)))) (Nat.le_of_ble_eq_true rfl) hrr) ?_
  refine rw_if_eq ⟨by omega, by omega⟩ (t := 17) rfl (fun hc4 => ?_) (fun hc4 => ?_)
  · skip
    refine rw_blk lk_X10_at_17 ?_
    refine rw_of (fun rr hrr => q_iconst hrr) ?_
    refine rw_blk lk_X10_at_18 ?_
    obtain ⟨_, mm5, pp6, hV7, rfl, rfl, hw7, hF7⟩ := c_X10_fails1 (S := S) (fz := fz) (m := m) (p := p) (d := d) (by omega) (1) hP (by omega)
    refine rw_of (fun rr hrr => q_invV hV7 (show SH 261 = (18, 0) from rfl) rfl rfl (okar_cons rfl okar_nil) (Nat.le_of_ble_eq_true rfl) hrr) ?_
    refine rw_if_eq ⟨by omega, by omega⟩ (t := 28) rfl (fun hc8 => ?_) (fun hc8 => ?_)
    · exfalso; omega
    · skip
      refine rw_of (fun rr hrr => q_iconst (q_goto (t := 37) rfl hrr)) ?_
      refine rw_blk lk_X10_at_37 ?_
      refine rw_ret hQ (q_ireturn (Or.inl rfl)) ?_
      first
        | exact ⟨rfl, rfl, hw7⟩
        | (exfalso; omega)
      
  · exfalso; omega
theorem c_X10_at0_01 {d : Nat} {S : MC} {fz : Bool} {m : M1} {p : M2} (hd : 4 ≤ d) (s k n : Nat) (i j : Int) (hP : PI p) (hk : m 261 0 = nF k) (hk12 : k ≤ 12) (hsk : s < k) (hm : m 262 s = nF n) (hn0 : 1 ≤ n) (hn : n ≤ 8) (hri : (-2147483648 ≤ i ∧ i < 2147483648)) (hrj : (-2147483648 ≤ j ∧ j < 2147483648)) (hi : i < 0 ∨ n ≤ i) (hj : 0 ≤ j ∧ j < n) : Ct d k_X10_at S fz [.ref (261), .int (iI (((s : Nat) : Int))), .int (iI (0)), .int (iI (i)), .int (iI (j))] m p (fun v m' p' => v = some (.int (iI 0)) ∧ p = p' ∧ w1 m 261 21 (nF 1) = m') := by
  obtain ⟨d, rfl⟩ : ∃ e, d = e + 1 := ⟨d - 1, by omega⟩
  refine ct_go (lv := [some (.ref (261)), some (.int (iI (((s : Nat) : Int)))), some (.int (iI (0))), some (.int (iI (i))), some (.int (iI (j)))]) (Nat.le_of_ble_eq_true rfl) (okar_cons rfl (okar_cons rfl (okar_cons rfl (okar_cons rfl (okar_cons rfl okar_nil))))) rfl (fun Qr hQ => ?_)
  refine rw_blk lk_X10_at_0 ?_
  refine rw_of (fun rr hrr => q_aload_n rfl (q_aload_n rfl (q_iload_n rfl (q_iload_n rfl (q_iload_n rfl (q_iload rfl hrr)))))) ?_
  obtain ⟨_, mm1, pp2, hV3, rfl, rfl, rfl⟩ := c_X10_isPlace0_01 (S := S) (fz := fz) (m := m) (p := p) (d := d) (by omega) (s) (k) (n) (i) (j) hP hk (by omega) (by omega) hm (by omega) (by omega) (by omega) (by omega) (by omega) (by omega)
  refine rw_of (fun rr hrr => q_invV hV3 (show SH 261 = (18, 0) from rfl) rfl rfl (okar_cons rfl (okar_cons rfl (okar_cons rfl (okar_cons rfl okar_nil)))) (Nat.le_of_ble_eq_true rfl) hrr) ?_
  refine rw_if_eq ⟨by omega, by omega⟩ (t := 17) rfl (fun hc4 => ?_) (fun hc4 => ?_)
  · skip
    refine rw_blk lk_X10_at_17 ?_
    refine rw_of (fun rr hrr => q_iconst hrr) ?_
    refine rw_blk lk_X10_at_18 ?_
    obtain ⟨_, mm5, pp6, hV7, rfl, rfl, hw7, hF7⟩ := c_X10_fails1 (S := S) (fz := fz) (m := m) (p := p) (d := d) (by omega) (1) hP (by omega)
    refine rw_of (fun rr hrr => q_invV hV7 (show SH 261 = (18, 0) from rfl) rfl rfl (okar_cons rfl okar_nil) (Nat.le_of_ble_eq_true rfl) hrr) ?_
    refine rw_if_eq ⟨by omega, by omega⟩ (t := 28) rfl (fun hc8 => ?_) (fun hc8 => ?_)
    · exfalso; omega
    · skip
      refine rw_of (fun rr hrr => q_iconst (q_goto (t := 37) rfl hrr)) ?_
      refine rw_blk lk_X10_at_37 ?_
      refine rw_ret hQ (q_ireturn (Or.inl rfl)) ?_
      first
        | exact ⟨rfl, rfl, hw7⟩
        | (exfalso; omega)
      
  · exfalso; omega
theorem c_X10_at0_00 {d : Nat} {S : MC} {fz : Bool} {m : M1} {p : M2} (hd : 4 ≤ d) (s k n : Nat) (i j : Int) (hP : PI p) (hk : m 261 0 = nF k) (hk12 : k ≤ 12) (hsk : s < k) (hm : m 262 s = nF n) (hn0 : 1 ≤ n) (hn : n ≤ 8) (hri : (-2147483648 ≤ i ∧ i < 2147483648)) (hrj : (-2147483648 ≤ j ∧ j < 2147483648)) (hi : i < 0 ∨ n ≤ i) (hj : j < 0 ∨ n ≤ j) : Ct d k_X10_at S fz [.ref (261), .int (iI (((s : Nat) : Int))), .int (iI (0)), .int (iI (i)), .int (iI (j))] m p (fun v m' p' => v = some (.int (iI 0)) ∧ p = p' ∧ w1 m 261 21 (nF 1) = m') := by
  obtain ⟨d, rfl⟩ : ∃ e, d = e + 1 := ⟨d - 1, by omega⟩
  refine ct_go (lv := [some (.ref (261)), some (.int (iI (((s : Nat) : Int)))), some (.int (iI (0))), some (.int (iI (i))), some (.int (iI (j)))]) (Nat.le_of_ble_eq_true rfl) (okar_cons rfl (okar_cons rfl (okar_cons rfl (okar_cons rfl (okar_cons rfl okar_nil))))) rfl (fun Qr hQ => ?_)
  refine rw_blk lk_X10_at_0 ?_
  refine rw_of (fun rr hrr => q_aload_n rfl (q_aload_n rfl (q_iload_n rfl (q_iload_n rfl (q_iload_n rfl (q_iload rfl hrr)))))) ?_
  obtain ⟨_, mm1, pp2, hV3, rfl, rfl, rfl⟩ := c_X10_isPlace0_00 (S := S) (fz := fz) (m := m) (p := p) (d := d) (by omega) (s) (k) (n) (i) (j) hP hk (by omega) (by omega) hm (by omega) (by omega) (by omega) (by omega) (by omega) (by omega)
  refine rw_of (fun rr hrr => q_invV hV3 (show SH 261 = (18, 0) from rfl) rfl rfl (okar_cons rfl (okar_cons rfl (okar_cons rfl (okar_cons rfl okar_nil)))) (Nat.le_of_ble_eq_true rfl) hrr) ?_
  refine rw_if_eq ⟨by omega, by omega⟩ (t := 17) rfl (fun hc4 => ?_) (fun hc4 => ?_)
  · skip
    refine rw_blk lk_X10_at_17 ?_
    refine rw_of (fun rr hrr => q_iconst hrr) ?_
    refine rw_blk lk_X10_at_18 ?_
    obtain ⟨_, mm5, pp6, hV7, rfl, rfl, hw7, hF7⟩ := c_X10_fails1 (S := S) (fz := fz) (m := m) (p := p) (d := d) (by omega) (1) hP (by omega)
    refine rw_of (fun rr hrr => q_invV hV7 (show SH 261 = (18, 0) from rfl) rfl rfl (okar_cons rfl okar_nil) (Nat.le_of_ble_eq_true rfl) hrr) ?_
    refine rw_if_eq ⟨by omega, by omega⟩ (t := 28) rfl (fun hc8 => ?_) (fun hc8 => ?_)
    · exfalso; omega
    · skip
      refine rw_of (fun rr hrr => q_iconst (q_goto (t := 37) rfl hrr)) ?_
      refine rw_blk lk_X10_at_37 ?_
      refine rw_ret hQ (q_ireturn (Or.inl rfl)) ?_
      first
        | exact ⟨rfl, rfl, hw7⟩
        | (exfalso; omega)
      
  · exfalso; omega
theorem c_X10_at1_01 {d : Nat} {S : MC} {fz : Bool} {m : M1} {p : M2} (hd : 4 ≤ d) (s k n : Nat) (i j : Int) (hP : PI p) (hk : m 261 0 = nF k) (hk12 : k ≤ 12) (hsk : s < k) (hm : m 262 s = nF n) (hn0 : 1 ≤ n) (hn : n ≤ 8) (hri : (-2147483648 ≤ i ∧ i < 2147483648)) (hrj : (-2147483648 ≤ j ∧ j < 2147483648)) (hi : i < 0 ∨ n ≤ i) : Ct d k_X10_at S fz [.ref (261), .int (iI (((s : Nat) : Int))), .int (iI (1)), .int (iI (i)), .int (iI (j))] m p (fun v m' p' => v = some (.int (iI 0)) ∧ p = p' ∧ w1 m 261 21 (nF 1) = m') := by
  obtain ⟨d, rfl⟩ : ∃ e, d = e + 1 := ⟨d - 1, by omega⟩
  refine ct_go (lv := [some (.ref (261)), some (.int (iI (((s : Nat) : Int)))), some (.int (iI (1))), some (.int (iI (i))), some (.int (iI (j)))]) (Nat.le_of_ble_eq_true rfl) (okar_cons rfl (okar_cons rfl (okar_cons rfl (okar_cons rfl (okar_cons rfl okar_nil))))) rfl (fun Qr hQ => ?_)
  refine rw_blk lk_X10_at_0 ?_
  refine rw_of (fun rr hrr => q_aload_n rfl (q_aload_n rfl (q_iload_n rfl (q_iload_n rfl (q_iload_n rfl (q_iload rfl hrr)))))) ?_
  obtain ⟨_, mm1, pp2, hV3, rfl, rfl, rfl⟩ := c_X10_isPlace1_01 (S := S) (fz := fz) (m := m) (p := p) (d := d) (by omega) (s) (k) (n) (i) (j) hP hk (by omega) (by omega) hm (by omega) (by omega) (by omega) (by omega) (by omega)
  refine rw_of (fun rr hrr => q_invV hV3 (show SH 261 = (18, 0) from rfl) rfl rfl (okar_cons rfl (okar_cons rfl (okar_cons rfl (okar_cons rfl okar_nil)))) (Nat.le_of_ble_eq_true rfl) hrr) ?_
  refine rw_if_eq ⟨by omega, by omega⟩ (t := 17) rfl (fun hc4 => ?_) (fun hc4 => ?_)
  · skip
    refine rw_blk lk_X10_at_17 ?_
    refine rw_of (fun rr hrr => q_iconst hrr) ?_
    refine rw_blk lk_X10_at_18 ?_
    obtain ⟨_, mm5, pp6, hV7, rfl, rfl, hw7, hF7⟩ := c_X10_fails1 (S := S) (fz := fz) (m := m) (p := p) (d := d) (by omega) (1) hP (by omega)
    refine rw_of (fun rr hrr => q_invV hV7 (show SH 261 = (18, 0) from rfl) rfl rfl (okar_cons rfl okar_nil) (Nat.le_of_ble_eq_true rfl) hrr) ?_
    refine rw_if_eq ⟨by omega, by omega⟩ (t := 28) rfl (fun hc8 => ?_) (fun hc8 => ?_)
    · exfalso; omega
    · skip
      refine rw_of (fun rr hrr => q_iconst (q_goto (t := 37) rfl hrr)) ?_
      refine rw_blk lk_X10_at_37 ?_
      refine rw_ret hQ (q_ireturn (Or.inl rfl)) ?_
      first
        | exact ⟨rfl, rfl, hw7⟩
        | (exfalso; omega)
      
  · exfalso; omega
theorem c_X10_at2_10 {d : Nat} {S : MC} {fz : Bool} {m : M1} {p : M2} (hd : 4 ≤ d) (s k n : Nat) (i j : Int) (hP : PI p) (hk : m 261 0 = nF k) (hk12 : k ≤ 12) (hsk : s < k) (hm : m 262 s = nF n) (hn0 : 1 ≤ n) (hn : n ≤ 8) (hri : (-2147483648 ≤ i ∧ i < 2147483648)) (hrj : (-2147483648 ≤ j ∧ j < 2147483648)) (hj : j < 0 ∨ n ≤ j) : Ct d k_X10_at S fz [.ref (261), .int (iI (((s : Nat) : Int))), .int (iI (2)), .int (iI (i)), .int (iI (j))] m p (fun v m' p' => v = some (.int (iI 0)) ∧ p = p' ∧ w1 m 261 21 (nF 1) = m') := by
  obtain ⟨d, rfl⟩ : ∃ e, d = e + 1 := ⟨d - 1, by omega⟩
  refine ct_go (lv := [some (.ref (261)), some (.int (iI (((s : Nat) : Int)))), some (.int (iI (2))), some (.int (iI (i))), some (.int (iI (j)))]) (Nat.le_of_ble_eq_true rfl) (okar_cons rfl (okar_cons rfl (okar_cons rfl (okar_cons rfl (okar_cons rfl okar_nil))))) rfl (fun Qr hQ => ?_)
  refine rw_blk lk_X10_at_0 ?_
  refine rw_of (fun rr hrr => q_aload_n rfl (q_aload_n rfl (q_iload_n rfl (q_iload_n rfl (q_iload_n rfl (q_iload rfl hrr)))))) ?_
  obtain ⟨_, mm1, pp2, hV3, rfl, rfl, rfl⟩ := c_X10_isPlace2_10 (S := S) (fz := fz) (m := m) (p := p) (d := d) (by omega) (s) (k) (n) (i) (j) hP hk (by omega) (by omega) hm (by omega) (by omega) (by omega) (by omega) (by omega)
  refine rw_of (fun rr hrr => q_invV hV3 (show SH 261 = (18, 0) from rfl) rfl rfl (okar_cons rfl (okar_cons rfl (okar_cons rfl (okar_cons rfl okar_nil)))) (Nat.le_of_ble_eq_true rfl) hrr) ?_
  refine rw_if_eq ⟨by omega, by omega⟩ (t := 17) rfl (fun hc4 => ?_) (fun hc4 => ?_)
  · skip
    refine rw_blk lk_X10_at_17 ?_
    refine rw_of (fun rr hrr => q_iconst hrr) ?_
    refine rw_blk lk_X10_at_18 ?_
    obtain ⟨_, mm5, pp6, hV7, rfl, rfl, hw7, hF7⟩ := c_X10_fails1 (S := S) (fz := fz) (m := m) (p := p) (d := d) (by omega) (1) hP (by omega)
    refine rw_of (fun rr hrr => q_invV hV7 (show SH 261 = (18, 0) from rfl) rfl rfl (okar_cons rfl okar_nil) (Nat.le_of_ble_eq_true rfl) hrr) ?_
    refine rw_if_eq ⟨by omega, by omega⟩ (t := 28) rfl (fun hc8 => ?_) (fun hc8 => ?_)
    · exfalso; omega
    · skip
      refine rw_of (fun rr hrr => q_iconst (q_goto (t := 37) rfl hrr)) ?_
      refine rw_blk lk_X10_at_37 ?_
      refine rw_ret hQ (q_ireturn (Or.inl rfl)) ?_
      first
        | exact ⟨rfl, rfl, hw7⟩
        | (exfalso; omega)
      
  · exfalso; omega
theorem c_X10_atW {d : Nat} {S : MC} {fz : Bool} {m : M1} {p : M2} (hd : 4 ≤ d) (s k n : Nat) (w i j : Int) (hP : PI p) (hk : m 261 0 = nF k) (hk12 : k ≤ 12) (hsk : s < k) (hm : m 262 s = nF n) (hn0 : 1 ≤ n) (hn : n ≤ 8) (hr : (-2147483648 ≤ w ∧ w < 2147483648)) (h : w < 0 ∨ 3 < w) : Ct d k_X10_at S fz [.ref (261), .int (iI (((s : Nat) : Int))), .int (iI (w)), .int (iI (i)), .int (iI (j))] m p (fun v m' p' => v = some (.int (iI 0)) ∧ p = p' ∧ w1 m 261 21 (nF 1) = m') := by
  obtain ⟨d, rfl⟩ : ∃ e, d = e + 1 := ⟨d - 1, by omega⟩
  refine ct_go (lv := [some (.ref (261)), some (.int (iI (((s : Nat) : Int)))), some (.int (iI (w))), some (.int (iI (i))), some (.int (iI (j)))]) (Nat.le_of_ble_eq_true rfl) (okar_cons rfl (okar_cons rfl (okar_cons rfl (okar_cons rfl (okar_cons rfl okar_nil))))) rfl (fun Qr hQ => ?_)
  refine rw_blk lk_X10_at_0 ?_
  refine rw_of (fun rr hrr => q_aload_n rfl (q_aload_n rfl (q_iload_n rfl (q_iload_n rfl (q_iload_n rfl (q_iload rfl hrr)))))) ?_
  obtain ⟨_, mm1, pp2, hV3, rfl, rfl, rfl⟩ := c_X10_isPlaceW (S := S) (fz := fz) (m := m) (p := p) (d := d) (by omega) (s) (k) (n) (w) (i) (j) hP hk (by omega) (by omega) hm (by omega) (by omega) (by omega) (by omega)
  refine rw_of (fun rr hrr => q_invV hV3 (show SH 261 = (18, 0) from rfl) rfl rfl (okar_cons rfl (okar_cons rfl (okar_cons rfl (okar_cons rfl okar_nil)))) (Nat.le_of_ble_eq_true rfl) hrr) ?_
  refine rw_if_eq ⟨by omega, by omega⟩ (t := 17) rfl (fun hc4 => ?_) (fun hc4 => ?_)
  · skip
    refine rw_blk lk_X10_at_17 ?_
    refine rw_of (fun rr hrr => q_iconst hrr) ?_
    refine rw_blk lk_X10_at_18 ?_
    obtain ⟨_, mm5, pp6, hV7, rfl, rfl, hw7, hF7⟩ := c_X10_fails1 (S := S) (fz := fz) (m := m) (p := p) (d := d) (by omega) (1) hP (by omega)
    refine rw_of (fun rr hrr => q_invV hV7 (show SH 261 = (18, 0) from rfl) rfl rfl (okar_cons rfl okar_nil) (Nat.le_of_ble_eq_true rfl) hrr) ?_
    refine rw_if_eq ⟨by omega, by omega⟩ (t := 28) rfl (fun hc8 => ?_) (fun hc8 => ?_)
    · exfalso; omega
    · skip
      refine rw_of (fun rr hrr => q_iconst (q_goto (t := 37) rfl hrr)) ?_
      refine rw_blk lk_X10_at_37 ?_
      refine rw_ret hQ (q_ireturn (Or.inl rfl)) ?_
      first
        | exact ⟨rfl, rfl, hw7⟩
        | (exfalso; omega)
      
  · exfalso; omega
theorem c_X10_atS {d : Nat} {S : MC} {fz : Bool} {m : M1} {p : M2} (hd : 4 ≤ d) (s : Int) (k : Nat) (w i j : Int) (hP : PI p) (hk : m 261 0 = nF k) (hk12 : k ≤ 12) (hr : (-2147483648 ≤ s ∧ s < 2147483648)) (h : ¬ (0 ≤ s ∧ s < k)) : Ct d k_X10_at S fz [.ref (261), .int (iI (s)), .int (iI (w)), .int (iI (i)), .int (iI (j))] m p (fun v m' p' => v = some (.int (iI 0)) ∧ p = p' ∧ w1 m 261 21 (nF 1) = m') := by
  obtain ⟨d, rfl⟩ : ∃ e, d = e + 1 := ⟨d - 1, by omega⟩
  refine ct_go (lv := [some (.ref (261)), some (.int (iI (s))), some (.int (iI (w))), some (.int (iI (i))), some (.int (iI (j)))]) (Nat.le_of_ble_eq_true rfl) (okar_cons rfl (okar_cons rfl (okar_cons rfl (okar_cons rfl (okar_cons rfl okar_nil))))) rfl (fun Qr hQ => ?_)
  refine rw_blk lk_X10_at_0 ?_
  refine rw_of (fun rr hrr => q_aload_n rfl (q_aload_n rfl (q_iload_n rfl (q_iload_n rfl (q_iload_n rfl (q_iload rfl hrr)))))) ?_
  obtain ⟨_, mm1, pp2, hV3, rfl, rfl, rfl⟩ := c_X10_isPlaceS (S := S) (fz := fz) (m := m) (p := p) (d := d) (by omega) (s) (k) (w) (i) (j) hP hk (by omega) (by omega) (by omega)
  refine rw_of (fun rr hrr => q_invV hV3 (show SH 261 = (18, 0) from rfl) rfl rfl (okar_cons rfl (okar_cons rfl (okar_cons rfl (okar_cons rfl okar_nil)))) (Nat.le_of_ble_eq_true rfl) hrr) ?_
  refine rw_if_eq ⟨by omega, by omega⟩ (t := 17) rfl (fun hc4 => ?_) (fun hc4 => ?_)
  · skip
    refine rw_blk lk_X10_at_17 ?_
    refine rw_of (fun rr hrr => q_iconst hrr) ?_
    refine rw_blk lk_X10_at_18 ?_
    obtain ⟨_, mm5, pp6, hV7, rfl, rfl, hw7, hF7⟩ := c_X10_fails1 (S := S) (fz := fz) (m := m) (p := p) (d := d) (by omega) (1) hP (by omega)
    refine rw_of (fun rr hrr => q_invV hV7 (show SH 261 = (18, 0) from rfl) rfl rfl (okar_cons rfl okar_nil) (Nat.le_of_ble_eq_true rfl) hrr) ?_
    refine rw_if_eq ⟨by omega, by omega⟩ (t := 28) rfl (fun hc8 => ?_) (fun hc8 => ?_)
    · exfalso; omega
    · skip
      refine rw_of (fun rr hrr => q_iconst (q_goto (t := 37) rfl hrr)) ?_
      refine rw_blk lk_X10_at_37 ?_
      refine rw_ret hQ (q_ireturn (Or.inl rfl)) ?_
      first
        | exact ⟨rfl, rfl, hw7⟩
        | (exfalso; omega)
      
  · exfalso; omega
