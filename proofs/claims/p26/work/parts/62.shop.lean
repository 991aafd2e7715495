theorem cf_congr {n : Nat} {A A' : Nat → Nat → F} {b b' o o' : Nat → F} (hn : 1 ≤ n) (hA : ∀ i, i < n → ∀ c, c < n → A i c = A' i c) (hb : ∀ i, i < n → b i = b' i) (ho : ∀ i, i < n → o i = o' i) (z : Nat) : ∀ i, i < n → cf n A b o z i = cf n A' b' o' z i := by
  induction z with
  | zero => exact hb
  | succ z ih =>
    intro i hi
    show dot n (A i) (cf n A b o z) + o (n - 1 - z) * b i = dot n (A' i) (cf n A' b' o' z) + o' (n - 1 - z) * b' i
    rw [hb i hi, ho (n - 1 - z) (by omega), dot_congr (fun c hc => hA i hi c hc) ih]
theorem c_X9_at0 {d : Nat} {S : Env} {fz : Bool} {m : M1} {p : M2} (hd : 8 ≤ d) (s k n : Nat) (i : Nat) (j : Nat) (hP : PI p) (hk : m 1 1 = nF k) (hk12 : k ≤ 12) (hsk : s < k) (hm : m (117 + 12 * s) 0 = nF n) (hn0 : 1 ≤ n) (hn : n ≤ 8) (hi : i < n) (hj : j < n) : Ct d k_X9_at S fz [.ref (1), .int (iI (((s : Nat) : Int))), .int (iI (0)), .int (iI (((i : Nat) : Int))), .int (iI (((j : Nat) : Int)))] m p (fun v m' p' => v = some (.int (iI (vF (m (117 + 12 * s + 2 + i) j)))) ∧ m = m' ∧ p = p') := by
  obtain ⟨d, rfl⟩ : ∃ e, d = e + 1 := ⟨d - 1, by omega⟩
  refine ct_go (lv := [some (.ref (1)), some (.int (iI (((s : Nat) : Int)))), some (.int (iI (0))), some (.int (iI (((i : Nat) : Int)))), some (.int (iI (((j : Nat) : Int)))), none]) (Nat.le_of_ble_eq_true rfl) (okar_cons rfl (okar_cons rfl (okar_cons rfl (okar_cons rfl (okar_cons rfl okar_nil))))) rfl (fun Qr hQ => ?_)
  refine rw_blk lk_X9_at_0 ?_
  refine rw_of (fun rr hrr => q_aload_n rfl (q_iload_n rfl hrr)) ?_
  obtain ⟨_, mm1, pp2, hV3, rfl, rfl, rfl⟩ := c_X9_plantOf (S := S) (fz := fz) (m := m) (p := p) (d := d) (by omega) (s) (k) hP hk (by omega) (by omega)
  refine rw_of (fun rr hrr => q_invV hV3 (show SH 1 = (17, 0) from rfl) rfl rfl (okar_cons rfl okar_nil) (Nat.le_of_ble_eq_true rfl) (q_astore (Nat.le_of_ble_eq_true rfl) rfl (q_aload rfl (q_iload_n rfl (q_iload_n rfl (q_iload rfl hrr)))))) ?_
  obtain ⟨_, mm4, pp5, hV6, rfl, rfl, rfl⟩ := c_X9_requireEntry0 (S := S) (fz := fz) (m := m) (p := p) (d := d) (by omega) (117 + 12 * s) (n) (((i : Nat) : Int)) (((j : Nat) : Int)) hP (Or.inr ⟨s, by omega, rfl⟩) hm (by omega) (by omega) (by omega)
  refine rw_of (fun rr hrr => q_invS hV6 rfl rfl (okar_cons rfl (okar_cons rfl (okar_cons rfl (okar_cons rfl okar_nil)))) (Nat.le_of_ble_eq_true rfl) (q_aload rfl (q_iload_n rfl (q_iload_n rfl (q_iload rfl hrr))))) ?_
  obtain ⟨_, mm7, pp8, hV9, rfl, rfl, rfl⟩ := c_X4_read0 (S := S) (fz := fz) (m := m) (p := p) (d := d) (by omega) (117 + 12 * s) (i) (j) hP (Or.inr ⟨s, by omega, rfl⟩) (by omega) (by omega)
  refine rw_of (fun rr hrr => q_invV hV9 (PI_pl hP (Or.inr ⟨s, by omega, rfl⟩)).1 rfl rfl (okar_cons rfl (okar_cons rfl (okar_cons rfl okar_nil))) (Nat.le_of_ble_eq_true rfl) hrr) ?_
  exact rw_ret hQ (q_ireturn (Or.inl rfl)) (by exact ⟨rfl, rfl, rfl⟩)
theorem c_X9_set0 {d : Nat} {S : Env} {fz : Bool} {m : M1} {p : M2} (hd : 8 ≤ d) (s k n : Nat) (i : Nat) (j : Nat) (x : Int) (hP : PI p) (hk : m 1 1 = nF k) (hk12 : k ≤ 12) (hsk : s < k) (hm : m (117 + 12 * s) 0 = nF n) (hn0 : 1 ≤ n) (hn : n ≤ 8) (hi : i < n) (hj : j < n) (hx : -10007 < x ∧ x < 10007) : Ct d k_X9_set S fz [.ref (1), .int (iI (((s : Nat) : Int))), .int (iI (0)), .int (iI (((i : Nat) : Int))), .int (iI (((j : Nat) : Int))), .int (iI (x))] m p (fun v m' p' => v = some (.int (iI (vF (m (117 + 12 * s + 2 + i) j)))) ∧ p = p' ∧ w1 m (117 + 12 * s + 2 + i) j (toF x) = m') := by
  obtain ⟨d, rfl⟩ : ∃ e, d = e + 1 := ⟨d - 1, by omega⟩
  refine ct_go (lv := [some (.ref (1)), some (.int (iI (((s : Nat) : Int)))), some (.int (iI (0))), some (.int (iI (((i : Nat) : Int)))), some (.int (iI (((j : Nat) : Int)))), some (.int (iI (x))), none, none]) (Nat.le_of_ble_eq_true rfl) (okar_cons rfl (okar_cons rfl (okar_cons rfl (okar_cons rfl (okar_cons rfl (okar_cons rfl okar_nil)))))) rfl (fun Qr hQ => ?_)
  refine rw_blk lk_X9_set_0 ?_
  refine rw_of (fun rr hrr => q_aload_n rfl (q_iload_n rfl hrr)) ?_
  obtain ⟨_, mm1, pp2, hV3, rfl, rfl, rfl⟩ := c_X9_plantOf (S := S) (fz := fz) (m := m) (p := p) (d := d) (by omega) (s) (k) hP hk (by omega) (by omega)
  refine rw_of (fun rr hrr => q_invV hV3 (show SH 1 = (17, 0) from rfl) rfl rfl (okar_cons rfl okar_nil) (Nat.le_of_ble_eq_true rfl) (q_astore (Nat.le_of_ble_eq_true rfl) rfl (q_aload rfl (q_iload_n rfl (q_iload_n rfl (q_iload rfl hrr)))))) ?_
  obtain ⟨_, mm4, pp5, hV6, rfl, rfl, rfl⟩ := c_X9_requireEntry0 (S := S) (fz := fz) (m := m) (p := p) (d := d) (by omega) (117 + 12 * s) (n) (((i : Nat) : Int)) (((j : Nat) : Int)) hP (Or.inr ⟨s, by omega, rfl⟩) hm (by omega) (by omega) (by omega)
  refine rw_of (fun rr hrr => q_invS hV6 rfl rfl (okar_cons rfl (okar_cons rfl (okar_cons rfl (okar_cons rfl okar_nil)))) (Nat.le_of_ble_eq_true rfl) (q_iload rfl hrr)) ?_
  obtain ⟨_, mm7, pp8, hV9, rfl, rfl, rfl⟩ := c_X9_requireValue (S := S) (fz := fz) (m := m) (p := p) (d := d) (by omega) (x) (by omega)
  refine rw_of (fun rr hrr => q_invS hV9 rfl rfl (okar_cons rfl okar_nil) (Nat.le_of_ble_eq_true rfl) (q_aload rfl (q_iload_n rfl (q_iload_n rfl (q_iload rfl hrr))))) ?_
  obtain ⟨_, mm10, pp11, hV12, rfl, rfl, rfl⟩ := c_X4_read0 (S := S) (fz := fz) (m := m) (p := p) (d := d) (by omega) (117 + 12 * s) (i) (j) hP (Or.inr ⟨s, by omega, rfl⟩) (by omega) (by omega)
  refine rw_of (fun rr hrr => q_invV hV12 (PI_pl hP (Or.inr ⟨s, by omega, rfl⟩)).1 rfl rfl (okar_cons rfl (okar_cons rfl (okar_cons rfl okar_nil))) (Nat.le_of_ble_eq_true rfl) (q_istore (Nat.le_of_ble_eq_true rfl) rfl (q_aload rfl (q_iload_n rfl (q_iload_n rfl (q_iload rfl (q_iload rfl hrr))))))) ?_
  obtain ⟨_, mm13, pp14, hV15, rfl, rfl, rfl⟩ := c_X2_remainder (S := S) (fz := fz) (m := m) (p := p) (d := d) (by omega) (x) (by omega)
  refine rw_of (fun rr hrr => q_invS hV15 rfl rfl (okar_cons rfl okar_nil) (Nat.le_of_ble_eq_true rfl) hrr) ?_
  obtain ⟨_, mm16, pp17, hV18, rfl, rfl, hw18⟩ := c_X4_write0 (S := S) (fz := fz) (m := m) (p := p) (d := d) (by omega) (117 + 12 * s) (i) (j) (toF x) hP (Or.inr ⟨s, by omega, rfl⟩) (by omega) (by omega)
  refine rw_of (fun rr hrr => q_invV hV18 (PI_pl hP (Or.inr ⟨s, by omega, rfl⟩)).1 rfl rfl (okar_cons rfl (okar_cons rfl (okar_cons rfl (okar_cons rfl okar_nil)))) (Nat.le_of_ble_eq_true rfl) (q_iload rfl hrr)) ?_
  exact rw_ret hQ (q_ireturn (Or.inl rfl)) (by exact ⟨rfl, rfl, hw18⟩)
theorem t_X9_set0 {d : Nat} {S : Env} {fz : Bool} {m : M1} {p : M2} (hd : 8 ≤ d) (s k n : Nat) (i : Nat) (j : Nat) (x : Int) (hP : PI p) (hk : m 1 1 = nF k) (hk12 : k ≤ 12) (hsk : s < k) (hm : m (117 + 12 * s) 0 = nF n) (hn0 : 1 ≤ n) (hn : n ≤ 8) (hi : i < n) (hj : j < n) (hr : (-2147483648 ≤ x ∧ x < 2147483648)) (h : x ≤ -10007 ∨ 10007 ≤ x) : Tx d k_X9_set S fz [.ref (1), .int (iI (((s : Nat) : Int))), .int (iI (0)), .int (iI (((i : Nat) : Int))), .int (iI (((j : Nat) : Int))), .int (iI (x))] m p 1 (fun m' p' => m = m' ∧ p = p') := by
  obtain ⟨d, rfl⟩ : ∃ e, d = e + 1 := ⟨d - 1, by omega⟩
  refine tx_go (lv := [some (.ref (1)), some (.int (iI (((s : Nat) : Int)))), some (.int (iI (0))), some (.int (iI (((i : Nat) : Int)))), some (.int (iI (((j : Nat) : Int)))), some (.int (iI (x))), none, none]) (Nat.le_of_ble_eq_true rfl) (okar_cons rfl (okar_cons rfl (okar_cons rfl (okar_cons rfl (okar_cons rfl (okar_cons rfl okar_nil)))))) (by decide) (by omega) rfl (fun Qr hQ => ?_)
  refine rw_blk lk_X9_set_0 ?_
  refine rw_of (fun rr hrr => q_aload_n rfl (q_iload_n rfl hrr)) ?_
  obtain ⟨_, mm1, pp2, hV3, rfl, rfl, rfl⟩ := c_X9_plantOf (S := S) (fz := fz) (m := m) (p := p) (d := d) (by omega) (s) (k) hP hk (by omega) (by omega)
  refine rw_of (fun rr hrr => q_invV hV3 (show SH 1 = (17, 0) from rfl) rfl rfl (okar_cons rfl okar_nil) (Nat.le_of_ble_eq_true rfl) (q_astore (Nat.le_of_ble_eq_true rfl) rfl (q_aload rfl (q_iload_n rfl (q_iload_n rfl (q_iload rfl hrr)))))) ?_
  obtain ⟨_, mm4, pp5, hV6, rfl, rfl, rfl⟩ := c_X9_requireEntry0 (S := S) (fz := fz) (m := m) (p := p) (d := d) (by omega) (117 + 12 * s) (n) (((i : Nat) : Int)) (((j : Nat) : Int)) hP (Or.inr ⟨s, by omega, rfl⟩) hm (by omega) (by omega) (by omega)
  refine rw_of (fun rr hrr => q_invS hV6 rfl rfl (okar_cons rfl (okar_cons rfl (okar_cons rfl (okar_cons rfl okar_nil)))) (Nat.le_of_ble_eq_true rfl) (q_iload rfl hrr)) ?_
  obtain ⟨mm7, pp8, hV9, rfl, rfl⟩ := t_X9_requireValue (S := S) (fz := fz) (m := m) (p := p) (d := d) (by omega) (x) (by omega) (by omega)
  refine rw_end (q_invSx hV9 (by decide) rfl rfl (okar_cons rfl okar_nil) (Nat.le_of_ble_eq_true rfl)) ?_
  rw [hQ]
  refine ⟨_, _, rfl, ?_⟩
  exact ⟨rfl, rfl⟩
theorem c_X9_at1 {d : Nat} {S : Env} {fz : Bool} {m : M1} {p : M2} (hd : 8 ≤ d) (s k n : Nat) (i : Nat) (j : Int) (hP : PI p) (hk : m 1 1 = nF k) (hk12 : k ≤ 12) (hsk : s < k) (hm : m (117 + 12 * s) 0 = nF n) (hn0 : 1 ≤ n) (hn : n ≤ 8) (hi : i < n) : Ct d k_X9_at S fz [.ref (1), .int (iI (((s : Nat) : Int))), .int (iI (1)), .int (iI (((i : Nat) : Int))), .int (iI (j))] m p (fun v m' p' => v = some (.int (iI (vF (m (117 + 12 * s + 10) i)))) ∧ m = m' ∧ p = p') := by
  obtain ⟨d, rfl⟩ : ∃ e, d = e + 1 := ⟨d - 1, by omega⟩
  refine ct_go (lv := [some (.ref (1)), some (.int (iI (((s : Nat) : Int)))), some (.int (iI (1))), some (.int (iI (((i : Nat) : Int)))), some (.int (iI (j))), none]) (Nat.le_of_ble_eq_true rfl) (okar_cons rfl (okar_cons rfl (okar_cons rfl (okar_cons rfl (okar_cons rfl okar_nil))))) rfl (fun Qr hQ => ?_)
  refine rw_blk lk_X9_at_0 ?_
  refine rw_of (fun rr hrr => q_aload_n rfl (q_iload_n rfl hrr)) ?_
  obtain ⟨_, mm1, pp2, hV3, rfl, rfl, rfl⟩ := c_X9_plantOf (S := S) (fz := fz) (m := m) (p := p) (d := d) (by omega) (s) (k) hP hk (by omega) (by omega)
  refine rw_of (fun rr hrr => q_invV hV3 (show SH 1 = (17, 0) from rfl) rfl rfl (okar_cons rfl okar_nil) (Nat.le_of_ble_eq_true rfl) (q_astore (Nat.le_of_ble_eq_true rfl) rfl (q_aload rfl (q_iload_n rfl (q_iload_n rfl (q_iload rfl hrr)))))) ?_
  obtain ⟨_, mm4, pp5, hV6, rfl, rfl, rfl⟩ := c_X9_requireEntry1 (S := S) (fz := fz) (m := m) (p := p) (d := d) (by omega) (117 + 12 * s) (n) (((i : Nat) : Int)) (j) hP (Or.inr ⟨s, by omega, rfl⟩) hm (by omega) (by omega)
  refine rw_of (fun rr hrr => q_invS hV6 rfl rfl (okar_cons rfl (okar_cons rfl (okar_cons rfl (okar_cons rfl okar_nil)))) (Nat.le_of_ble_eq_true rfl) (q_aload rfl (q_iload_n rfl (q_iload_n rfl (q_iload rfl hrr))))) ?_
  obtain ⟨_, mm7, pp8, hV9, rfl, rfl, rfl⟩ := c_X4_read1 (S := S) (fz := fz) (m := m) (p := p) (d := d) (by omega) (117 + 12 * s) (i) (j) hP (Or.inr ⟨s, by omega, rfl⟩) (by omega)
  refine rw_of (fun rr hrr => q_invV hV9 (PI_pl hP (Or.inr ⟨s, by omega, rfl⟩)).1 rfl rfl (okar_cons rfl (okar_cons rfl (okar_cons rfl okar_nil))) (Nat.le_of_ble_eq_true rfl) hrr) ?_
  exact rw_ret hQ (q_ireturn (Or.inl rfl)) (by exact ⟨rfl, rfl, rfl⟩)
theorem c_X9_set1 {d : Nat} {S : Env} {fz : Bool} {m : M1} {p : M2} (hd : 8 ≤ d) (s k n : Nat) (i : Nat) (j : Int) (x : Int) (hP : PI p) (hk : m 1 1 = nF k) (hk12 : k ≤ 12) (hsk : s < k) (hm : m (117 + 12 * s) 0 = nF n) (hn0 : 1 ≤ n) (hn : n ≤ 8) (hi : i < n) (hx : -10007 < x ∧ x < 10007) : Ct d k_X9_set S fz [.ref (1), .int (iI (((s : Nat) : Int))), .int (iI (1)), .int (iI (((i : Nat) : Int))), .int (iI (j)), .int (iI (x))] m p (fun v m' p' => v = some (.int (iI (vF (m (117 + 12 * s + 10) i)))) ∧ p = p' ∧ w1 m (117 + 12 * s + 10) i (toF x) = m') := by
  obtain ⟨d, rfl⟩ : ∃ e, d = e + 1 := ⟨d - 1, by omega⟩
  refine ct_go (lv := [some (.ref (1)), some (.int (iI (((s : Nat) : Int)))), some (.int (iI (1))), some (.int (iI (((i : Nat) : Int)))), some (.int (iI (j))), some (.int (iI (x))), none, none]) (Nat.le_of_ble_eq_true rfl) (okar_cons rfl (okar_cons rfl (okar_cons rfl (okar_cons rfl (okar_cons rfl (okar_cons rfl okar_nil)))))) rfl (fun Qr hQ => ?_)
  refine rw_blk lk_X9_set_0 ?_
  refine rw_of (fun rr hrr => q_aload_n rfl (q_iload_n rfl hrr)) ?_
  obtain ⟨_, mm1, pp2, hV3, rfl, rfl, rfl⟩ := c_X9_plantOf (S := S) (fz := fz) (m := m) (p := p) (d := d) (by omega) (s) (k) hP hk (by omega) (by omega)
  refine rw_of (fun rr hrr => q_invV hV3 (show SH 1 = (17, 0) from rfl) rfl rfl (okar_cons rfl okar_nil) (Nat.le_of_ble_eq_true rfl) (q_astore (Nat.le_of_ble_eq_true rfl) rfl (q_aload rfl (q_iload_n rfl (q_iload_n rfl (q_iload rfl hrr)))))) ?_
  obtain ⟨_, mm4, pp5, hV6, rfl, rfl, rfl⟩ := c_X9_requireEntry1 (S := S) (fz := fz) (m := m) (p := p) (d := d) (by omega) (117 + 12 * s) (n) (((i : Nat) : Int)) (j) hP (Or.inr ⟨s, by omega, rfl⟩) hm (by omega) (by omega)
  refine rw_of (fun rr hrr => q_invS hV6 rfl rfl (okar_cons rfl (okar_cons rfl (okar_cons rfl (okar_cons rfl okar_nil)))) (Nat.le_of_ble_eq_true rfl) (q_iload rfl hrr)) ?_
  obtain ⟨_, mm7, pp8, hV9, rfl, rfl, rfl⟩ := c_X9_requireValue (S := S) (fz := fz) (m := m) (p := p) (d := d) (by omega) (x) (by omega)
  refine rw_of (fun rr hrr => q_invS hV9 rfl rfl (okar_cons rfl okar_nil) (Nat.le_of_ble_eq_true rfl) (q_aload rfl (q_iload_n rfl (q_iload_n rfl (q_iload rfl hrr))))) ?_
  obtain ⟨_, mm10, pp11, hV12, rfl, rfl, rfl⟩ := c_X4_read1 (S := S) (fz := fz) (m := m) (p := p) (d := d) (by omega) (117 + 12 * s) (i) (j) hP (Or.inr ⟨s, by omega, rfl⟩) (by omega)
  refine rw_of (fun rr hrr => q_invV hV12 (PI_pl hP (Or.inr ⟨s, by omega, rfl⟩)).1 rfl rfl (okar_cons rfl (okar_cons rfl (okar_cons rfl okar_nil))) (Nat.le_of_ble_eq_true rfl) (q_istore (Nat.le_of_ble_eq_true rfl) rfl (q_aload rfl (q_iload_n rfl (q_iload_n rfl (q_iload rfl (q_iload rfl hrr))))))) ?_
  obtain ⟨_, mm13, pp14, hV15, rfl, rfl, rfl⟩ := c_X2_remainder (S := S) (fz := fz) (m := m) (p := p) (d := d) (by omega) (x) (by omega)
  refine rw_of (fun rr hrr => q_invS hV15 rfl rfl (okar_cons rfl okar_nil) (Nat.le_of_ble_eq_true rfl) hrr) ?_
  obtain ⟨_, mm16, pp17, hV18, rfl, rfl, hw18⟩ := c_X4_write1 (S := S) (fz := fz) (m := m) (p := p) (d := d) (by omega) (117 + 12 * s) (i) (j) (toF x) hP (Or.inr ⟨s, by omega, rfl⟩) (by omega)
  refine rw_of (fun rr hrr => q_invV hV18 (PI_pl hP (Or.inr ⟨s, by omega, rfl⟩)).1 rfl rfl (okar_cons rfl (okar_cons rfl (okar_cons rfl (okar_cons rfl okar_nil)))) (Nat.le_of_ble_eq_true rfl) (q_iload rfl hrr)) ?_
  exact rw_ret hQ (q_ireturn (Or.inl rfl)) (by exact ⟨rfl, rfl, hw18⟩)
theorem t_X9_set1 {d : Nat} {S : Env} {fz : Bool} {m : M1} {p : M2} (hd : 8 ≤ d) (s k n : Nat) (i : Nat) (j : Int) (x : Int) (hP : PI p) (hk : m 1 1 = nF k) (hk12 : k ≤ 12) (hsk : s < k) (hm : m (117 + 12 * s) 0 = nF n) (hn0 : 1 ≤ n) (hn : n ≤ 8) (hi : i < n) (hr : (-2147483648 ≤ x ∧ x < 2147483648)) (h : x ≤ -10007 ∨ 10007 ≤ x) : Tx d k_X9_set S fz [.ref (1), .int (iI (((s : Nat) : Int))), .int (iI (1)), .int (iI (((i : Nat) : Int))), .int (iI (j)), .int (iI (x))] m p 1 (fun m' p' => m = m' ∧ p = p') := by
  obtain ⟨d, rfl⟩ : ∃ e, d = e + 1 := ⟨d - 1, by omega⟩
  refine tx_go (lv := [some (.ref (1)), some (.int (iI (((s : Nat) : Int)))), some (.int (iI (1))), some (.int (iI (((i : Nat) : Int)))), some (.int (iI (j))), some (.int (iI (x))), none, none]) (Nat.le_of_ble_eq_true rfl) (okar_cons rfl (okar_cons rfl (okar_cons rfl (okar_cons rfl (okar_cons rfl (okar_cons rfl okar_nil)))))) (by decide) (by omega) rfl (fun Qr hQ => ?_)
  refine rw_blk lk_X9_set_0 ?_
  refine rw_of (fun rr hrr => q_aload_n rfl (q_iload_n rfl hrr)) ?_
  obtain ⟨_, mm1, pp2, hV3, rfl, rfl, rfl⟩ := c_X9_plantOf (S := S) (fz := fz) (m := m) (p := p) (d := d) (by omega) (s) (k) hP hk (by omega) (by omega)
  refine rw_of (fun rr hrr => q_invV hV3 (show SH 1 = (17, 0) from rfl) rfl rfl (okar_cons rfl okar_nil) (Nat.le_of_ble_eq_true rfl) (q_astore (Nat.le_of_ble_eq_true rfl) rfl (q_aload rfl (q_iload_n rfl (q_iload_n rfl (q_iload rfl hrr)))))) ?_
  obtain ⟨_, mm4, pp5, hV6, rfl, rfl, rfl⟩ := c_X9_requireEntry1 (S := S) (fz := fz) (m := m) (p := p) (d := d) (by omega) (117 + 12 * s) (n) (((i : Nat) : Int)) (j) hP (Or.inr ⟨s, by omega, rfl⟩) hm (by omega) (by omega)
  refine rw_of (fun rr hrr => q_invS hV6 rfl rfl (okar_cons rfl (okar_cons rfl (okar_cons rfl (okar_cons rfl okar_nil)))) (Nat.le_of_ble_eq_true rfl) (q_iload rfl hrr)) ?_
  obtain ⟨mm7, pp8, hV9, rfl, rfl⟩ := t_X9_requireValue (S := S) (fz := fz) (m := m) (p := p) (d := d) (by omega) (x) (by omega) (by omega)
  refine rw_end (q_invSx hV9 (by decide) rfl rfl (okar_cons rfl okar_nil) (Nat.le_of_ble_eq_true rfl)) ?_
  rw [hQ]
  refine ⟨_, _, rfl, ?_⟩
  exact ⟨rfl, rfl⟩
theorem c_X9_at2 {d : Nat} {S : Env} {fz : Bool} {m : M1} {p : M2} (hd : 8 ≤ d) (s k n : Nat) (i : Int) (j : Nat) (hP : PI p) (hk : m 1 1 = nF k) (hk12 : k ≤ 12) (hsk : s < k) (hm : m (117 + 12 * s) 0 = nF n) (hn0 : 1 ≤ n) (hn : n ≤ 8) (hj : j < n) : Ct d k_X9_at S fz [.ref (1), .int (iI (((s : Nat) : Int))), .int (iI (2)), .int (iI (i)), .int (iI (((j : Nat) : Int)))] m p (fun v m' p' => v = some (.int (iI (vF (m (117 + 12 * s + 11) j)))) ∧ m = m' ∧ p = p') := by
  obtain ⟨d, rfl⟩ : ∃ e, d = e + 1 := ⟨d - 1, by omega⟩
  refine ct_go (lv := [some (.ref (1)), some (.int (iI (((s : Nat) : Int)))), some (.int (iI (2))), some (.int (iI (i))), some (.int (iI (((j : Nat) : Int)))), none]) (Nat.le_of_ble_eq_true rfl) (okar_cons rfl (okar_cons rfl (okar_cons rfl (okar_cons rfl (okar_cons rfl okar_nil))))) rfl (fun Qr hQ => ?_)
  refine rw_blk lk_X9_at_0 ?_
  refine rw_of (fun rr hrr => q_aload_n rfl (q_iload_n rfl hrr)) ?_
  obtain ⟨_, mm1, pp2, hV3, rfl, rfl, rfl⟩ := c_X9_plantOf (S := S) (fz := fz) (m := m) (p := p) (d := d) (by omega) (s) (k) hP hk (by omega) (by omega)
  refine rw_of (fun rr hrr => q_invV hV3 (show SH 1 = (17, 0) from rfl) rfl rfl (okar_cons rfl okar_nil) (Nat.le_of_ble_eq_true rfl) (q_astore (Nat.le_of_ble_eq_true rfl) rfl (q_aload rfl (q_iload_n rfl (q_iload_n rfl (q_iload rfl hrr)))))) ?_
  obtain ⟨_, mm4, pp5, hV6, rfl, rfl, rfl⟩ := c_X9_requireEntry2 (S := S) (fz := fz) (m := m) (p := p) (d := d) (by omega) (117 + 12 * s) (n) (i) (((j : Nat) : Int)) hP (Or.inr ⟨s, by omega, rfl⟩) hm (by omega) (by omega)
  refine rw_of (fun rr hrr => q_invS hV6 rfl rfl (okar_cons rfl (okar_cons rfl (okar_cons rfl (okar_cons rfl okar_nil)))) (Nat.le_of_ble_eq_true rfl) (q_aload rfl (q_iload_n rfl (q_iload_n rfl (q_iload rfl hrr))))) ?_
  obtain ⟨_, mm7, pp8, hV9, rfl, rfl, rfl⟩ := c_X4_read2 (S := S) (fz := fz) (m := m) (p := p) (d := d) (by omega) (117 + 12 * s) (i) (j) hP (Or.inr ⟨s, by omega, rfl⟩) (by omega)
  refine rw_of (fun rr hrr => q_invV hV9 (PI_pl hP (Or.inr ⟨s, by omega, rfl⟩)).1 rfl rfl (okar_cons rfl (okar_cons rfl (okar_cons rfl okar_nil))) (Nat.le_of_ble_eq_true rfl) hrr) ?_
  exact rw_ret hQ (q_ireturn (Or.inl rfl)) (by exact ⟨rfl, rfl, rfl⟩)
theorem c_X9_set2 {d : Nat} {S : Env} {fz : Bool} {m : M1} {p : M2} (hd : 8 ≤ d) (s k n : Nat) (i : Int) (j : Nat) (x : Int) (hP : PI p) (hk : m 1 1 = nF k) (hk12 : k ≤ 12) (hsk : s < k) (hm : m (117 + 12 * s) 0 = nF n) (hn0 : 1 ≤ n) (hn : n ≤ 8) (hj : j < n) (hx : -10007 < x ∧ x < 10007) : Ct d k_X9_set S fz [.ref (1), .int (iI (((s : Nat) : Int))), .int (iI (2)), .int (iI (i)), .int (iI (((j : Nat) : Int))), .int (iI (x))] m p (fun v m' p' => v = some (.int (iI (vF (m (117 + 12 * s + 11) j)))) ∧ p = p' ∧ w1 m (117 + 12 * s + 11) j (toF x) = m') := by
  obtain ⟨d, rfl⟩ : ∃ e, d = e + 1 := ⟨d - 1, by omega⟩
  refine ct_go (lv := [some (.ref (1)), some (.int (iI (((s : Nat) : Int)))), some (.int (iI (2))), some (.int (iI (i))), some (.int (iI (((j : Nat) : Int)))), some (.int (iI (x))), none, none]) (Nat.le_of_ble_eq_true rfl) (okar_cons rfl (okar_cons rfl (okar_cons rfl (okar_cons rfl (okar_cons rfl (okar_cons rfl okar_nil)))))) rfl (fun Qr hQ => ?_)
  refine rw_blk lk_X9_set_0 ?_
  refine rw_of (fun rr hrr => q_aload_n rfl (q_iload_n rfl hrr)) ?_
  obtain ⟨_, mm1, pp2, hV3, rfl, rfl, rfl⟩ := c_X9_plantOf (S := S) (fz := fz) (m := m) (p := p) (d := d) (by omega) (s) (k) hP hk (by omega) (by omega)
  refine rw_of (fun rr hrr => q_invV hV3 (show SH 1 = (17, 0) from rfl) rfl rfl (okar_cons rfl okar_nil) (Nat.le_of_ble_eq_true rfl) (q_astore (Nat.le_of_ble_eq_true rfl) rfl (q_aload rfl (q_iload_n rfl (q_iload_n rfl (q_iload rfl hrr)))))) ?_
  obtain ⟨_, mm4, pp5, hV6, rfl, rfl, rfl⟩ := c_X9_requireEntry2 (S := S) (fz := fz) (m := m) (p := p) (d := d) (by omega) (117 + 12 * s) (n) (i) (((j : Nat) : Int)) hP (Or.inr ⟨s, by omega, rfl⟩) hm (by omega) (by omega)
  refine rw_of (fun rr hrr => q_invS hV6 rfl rfl (okar_cons rfl (okar_cons rfl (okar_cons rfl (okar_cons rfl okar_nil)))) (Nat.le_of_ble_eq_true rfl) (q_iload rfl hrr)) ?_
  obtain ⟨_, mm7, pp8, hV9, rfl, rfl, rfl⟩ := c_X9_requireValue (S := S) (fz := fz) (m := m) (p := p) (d := d) (by omega) (x) (by omega)
  refine rw_of (fun rr hrr => q_invS hV9 rfl rfl (okar_cons rfl okar_nil) (Nat.le_of_ble_eq_true rfl) (q_aload rfl (q_iload_n rfl (q_iload_n rfl (q_iload rfl hrr))))) ?_
  obtain ⟨_, mm10, pp11, hV12, rfl, rfl, rfl⟩ := c_X4_read2 (S := S) (fz := fz) (m := m) (p := p) (d := d) (by omega) (117 + 12 * s) (i) (j) hP (Or.inr ⟨s, by omega, rfl⟩) (by omega)
  refine rw_of (fun rr hrr => q_invV hV12 (PI_pl hP (Or.inr ⟨s, by omega, rfl⟩)).1 rfl rfl (okar_cons rfl (okar_cons rfl (okar_cons rfl okar_nil))) (Nat.le_of_ble_eq_true rfl) (q_istore (Nat.le_of_ble_eq_true rfl) rfl (q_aload rfl (q_iload_n rfl (q_iload_n rfl (q_iload rfl (q_iload rfl hrr))))))) ?_
  obtain ⟨_, mm13, pp14, hV15, rfl, rfl, rfl⟩ := c_X2_remainder (S := S) (fz := fz) (m := m) (p := p) (d := d) (by omega) (x) (by omega)
  refine rw_of (fun rr hrr => q_invS hV15 rfl rfl (okar_cons rfl okar_nil) (Nat.le_of_ble_eq_true rfl) hrr) ?_
  obtain ⟨_, mm16, pp17, hV18, rfl, rfl, hw18⟩ := c_X4_write2 (S := S) (fz := fz) (m := m) (p := p) (d := d) (by omega) (117 + 12 * s) (i) (j) (toF x) hP (Or.inr ⟨s, by omega, rfl⟩) (by omega)
  refine rw_of (fun rr hrr => q_invV hV18 (PI_pl hP (Or.inr ⟨s, by omega, rfl⟩)).1 rfl rfl (okar_cons rfl (okar_cons rfl (okar_cons rfl (okar_cons rfl okar_nil)))) (Nat.le_of_ble_eq_true rfl) (q_iload rfl hrr)) ?_
  exact rw_ret hQ (q_ireturn (Or.inl rfl)) (by exact ⟨rfl, rfl, hw18⟩)
theorem t_X9_set2 {d : Nat} {S : Env} {fz : Bool} {m : M1} {p : M2} (hd : 8 ≤ d) (s k n : Nat) (i : Int) (j : Nat) (x : Int) (hP : PI p) (hk : m 1 1 = nF k) (hk12 : k ≤ 12) (hsk : s < k) (hm : m (117 + 12 * s) 0 = nF n) (hn0 : 1 ≤ n) (hn : n ≤ 8) (hj : j < n) (hr : (-2147483648 ≤ x ∧ x < 2147483648)) (h : x ≤ -10007 ∨ 10007 ≤ x) : Tx d k_X9_set S fz [.ref (1), .int (iI (((s : Nat) : Int))), .int (iI (2)), .int (iI (i)), .int (iI (((j : Nat) : Int))), .int (iI (x))] m p 1 (fun m' p' => m = m' ∧ p = p') := by
  obtain ⟨d, rfl⟩ : ∃ e, d = e + 1 := ⟨d - 1, by omega⟩
  refine tx_go (lv := [some (.ref (1)), some (.int (iI (((s : Nat) : Int)))), some (.int (iI (2))), some (.int (iI (i))), some (.int (iI (((j : Nat) : Int)))), some (.int (iI (x))), none, none]) (Nat.le_of_ble_eq_true rfl) (okar_cons rfl (okar_cons rfl (okar_cons rfl (okar_cons rfl (okar_cons rfl (okar_cons rfl okar_nil)))))) (by decide) (by omega) rfl (fun Qr hQ => ?_)
  refine rw_blk lk_X9_set_0 ?_
  refine rw_of (fun rr hrr => q_aload_n rfl (q_iload_n rfl hrr)) ?_
  obtain ⟨_, mm1, pp2, hV3, rfl, rfl, rfl⟩ := c_X9_plantOf (S := S) (fz := fz) (m := m) (p := p) (d := d) (by omega) (s) (k) hP hk (by omega) (by omega)
  refine rw_of (fun rr hrr => q_invV hV3 (show SH 1 = (17, 0) from rfl) rfl rfl (okar_cons rfl okar_nil) (Nat.le_of_ble_eq_true rfl) (q_astore (Nat.le_of_ble_eq_true rfl) rfl (q_aload rfl (q_iload_n rfl (q_iload_n rfl (q_iload rfl hrr)))))) ?_
  obtain ⟨_, mm4, pp5, hV6, rfl, rfl, rfl⟩ := c_X9_requireEntry2 (S := S) (fz := fz) (m := m) (p := p) (d := d) (by omega) (117 + 12 * s) (n) (i) (((j : Nat) : Int)) hP (Or.inr ⟨s, by omega, rfl⟩) hm (by omega) (by omega)
  refine rw_of (fun rr hrr => q_invS hV6 rfl rfl (okar_cons rfl (okar_cons rfl (okar_cons rfl (okar_cons rfl okar_nil)))) (Nat.le_of_ble_eq_true rfl) (q_iload rfl hrr)) ?_
  obtain ⟨mm7, pp8, hV9, rfl, rfl⟩ := t_X9_requireValue (S := S) (fz := fz) (m := m) (p := p) (d := d) (by omega) (x) (by omega) (by omega)
  refine rw_end (q_invSx hV9 (by decide) rfl rfl (okar_cons rfl okar_nil) (Nat.le_of_ble_eq_true rfl)) ?_
  rw [hQ]
  refine ⟨_, _, rfl, ?_⟩
  exact ⟨rfl, rfl⟩
theorem c_X9_at3 {d : Nat} {S : Env} {fz : Bool} {m : M1} {p : M2} (hd : 8 ≤ d) (s k n : Nat) (i : Int) (j : Int) (hP : PI p) (hk : m 1 1 = nF k) (hk12 : k ≤ 12) (hsk : s < k) (hm : m (117 + 12 * s) 0 = nF n) (hn0 : 1 ≤ n) (hn : n ≤ 8) : Ct d k_X9_at S fz [.ref (1), .int (iI (((s : Nat) : Int))), .int (iI (3)), .int (iI (i)), .int (iI (j))] m p (fun v m' p' => v = some (.int (iI (vF (m (117 + 12 * s) 4)))) ∧ m = m' ∧ p = p') := by
  obtain ⟨d, rfl⟩ : ∃ e, d = e + 1 := ⟨d - 1, by omega⟩
  refine ct_go (lv := [some (.ref (1)), some (.int (iI (((s : Nat) : Int)))), some (.int (iI (3))), some (.int (iI (i))), some (.int (iI (j))), none]) (Nat.le_of_ble_eq_true rfl) (okar_cons rfl (okar_cons rfl (okar_cons rfl (okar_cons rfl (okar_cons rfl okar_nil))))) rfl (fun Qr hQ => ?_)
  refine rw_blk lk_X9_at_0 ?_
  refine rw_of (fun rr hrr => q_aload_n rfl (q_iload_n rfl hrr)) ?_
  obtain ⟨_, mm1, pp2, hV3, rfl, rfl, rfl⟩ := c_X9_plantOf (S := S) (fz := fz) (m := m) (p := p) (d := d) (by omega) (s) (k) hP hk (by omega) (by omega)
  refine rw_of (fun rr hrr => q_invV hV3 (show SH 1 = (17, 0) from rfl) rfl rfl (okar_cons rfl okar_nil) (Nat.le_of_ble_eq_true rfl) (q_astore (Nat.le_of_ble_eq_true rfl) rfl (q_aload rfl (q_iload_n rfl (q_iload_n rfl (q_iload rfl hrr)))))) ?_
  obtain ⟨_, mm4, pp5, hV6, rfl, rfl, rfl⟩ := c_X9_requireEntry3 (S := S) (fz := fz) (m := m) (p := p) (d := d) (by omega) (117 + 12 * s) (n) (i) (j) hP (Or.inr ⟨s, by omega, rfl⟩) hm (by omega)
  refine rw_of (fun rr hrr => q_invS hV6 rfl rfl (okar_cons rfl (okar_cons rfl (okar_cons rfl (okar_cons rfl okar_nil)))) (Nat.le_of_ble_eq_true rfl) (q_aload rfl (q_iload_n rfl (q_iload_n rfl (q_iload rfl hrr))))) ?_
  obtain ⟨_, mm7, pp8, hV9, rfl, rfl, rfl⟩ := c_X4_read3 (S := S) (fz := fz) (m := m) (p := p) (d := d) (by omega) (117 + 12 * s) (i) (j) hP (Or.inr ⟨s, by omega, rfl⟩)
  refine rw_of (fun rr hrr => q_invV hV9 (PI_pl hP (Or.inr ⟨s, by omega, rfl⟩)).1 rfl rfl (okar_cons rfl (okar_cons rfl (okar_cons rfl okar_nil))) (Nat.le_of_ble_eq_true rfl) hrr) ?_
  exact rw_ret hQ (q_ireturn (Or.inl rfl)) (by exact ⟨rfl, rfl, rfl⟩)
theorem c_X9_set3 {d : Nat} {S : Env} {fz : Bool} {m : M1} {p : M2} (hd : 8 ≤ d) (s k n : Nat) (i : Int) (j : Int) (x : Int) (hP : PI p) (hk : m 1 1 = nF k) (hk12 : k ≤ 12) (hsk : s < k) (hm : m (117 + 12 * s) 0 = nF n) (hn0 : 1 ≤ n) (hn : n ≤ 8) (hx : -10007 < x ∧ x < 10007) : Ct d k_X9_set S fz [.ref (1), .int (iI (((s : Nat) : Int))), .int (iI (3)), .int (iI (i)), .int (iI (j)), .int (iI (x))] m p (fun v m' p' => v = some (.int (iI (vF (m (117 + 12 * s) 4)))) ∧ p = p' ∧ w1 m (117 + 12 * s) 4 (toF x) = m') := by
  obtain ⟨d, rfl⟩ : ∃ e, d = e + 1 := ⟨d - 1, by omega⟩
  refine ct_go (lv := [some (.ref (1)), some (.int (iI (((s : Nat) : Int)))), some (.int (iI (3))), some (.int (iI (i))), some (.int (iI (j))), some (.int (iI (x))), none, none]) (Nat.le_of_ble_eq_true rfl) (okar_cons rfl (okar_cons rfl (okar_cons rfl (okar_cons rfl (okar_cons rfl (okar_cons rfl okar_nil)))))) rfl (fun Qr hQ => ?_)
  refine rw_blk lk_X9_set_0 ?_
  refine rw_of (fun rr hrr => q_aload_n rfl (q_iload_n rfl hrr)) ?_
  obtain ⟨_, mm1, pp2, hV3, rfl, rfl, rfl⟩ := c_X9_plantOf (S := S) (fz := fz) (m := m) (p := p) (d := d) (by omega) (s) (k) hP hk (by omega) (by omega)
  refine rw_of (fun rr hrr => q_invV hV3 (show SH 1 = (17, 0) from rfl) rfl rfl (okar_cons rfl okar_nil) (Nat.le_of_ble_eq_true rfl) (q_astore (Nat.le_of_ble_eq_true rfl) rfl (q_aload rfl (q_iload_n rfl (q_iload_n rfl (q_iload rfl hrr)))))) ?_
  obtain ⟨_, mm4, pp5, hV6, rfl, rfl, rfl⟩ := c_X9_requireEntry3 (S := S) (fz := fz) (m := m) (p := p) (d := d) (by omega) (117 + 12 * s) (n) (i) (j) hP (Or.inr ⟨s, by omega, rfl⟩) hm (by omega)
  refine rw_of (fun rr hrr => q_invS hV6 rfl rfl (okar_cons rfl (okar_cons rfl (okar_cons rfl (okar_cons rfl okar_nil)))) (Nat.le_of_ble_eq_true rfl) (q_iload rfl hrr)) ?_
  obtain ⟨_, mm7, pp8, hV9, rfl, rfl, rfl⟩ := c_X9_requireValue (S := S) (fz := fz) (m := m) (p := p) (d := d) (by omega) (x) (by omega)
  refine rw_of (fun rr hrr => q_invS hV9 rfl rfl (okar_cons rfl okar_nil) (Nat.le_of_ble_eq_true rfl) (q_aload rfl (q_iload_n rfl (q_iload_n rfl (q_iload rfl hrr))))) ?_
  obtain ⟨_, mm10, pp11, hV12, rfl, rfl, rfl⟩ := c_X4_read3 (S := S) (fz := fz) (m := m) (p := p) (d := d) (by omega) (117 + 12 * s) (i) (j) hP (Or.inr ⟨s, by omega, rfl⟩)
  refine rw_of (fun rr hrr => q_invV hV12 (PI_pl hP (Or.inr ⟨s, by omega, rfl⟩)).1 rfl rfl (okar_cons rfl (okar_cons rfl (okar_cons rfl okar_nil))) (Nat.le_of_ble_eq_true rfl) (q_istore (Nat.le_of_ble_eq_true rfl) rfl (q_aload rfl (q_iload_n rfl (q_iload_n rfl (q_iload rfl (q_iload rfl hrr))))))) ?_
  obtain ⟨_, mm13, pp14, hV15, rfl, rfl, rfl⟩ := c_X2_remainder (S := S) (fz := fz) (m := m) (p := p) (d := d) (by omega) (x) (by omega)
  refine rw_of (fun rr hrr => q_invS hV15 rfl rfl (okar_cons rfl okar_nil) (Nat.le_of_ble_eq_true rfl) hrr) ?_
  obtain ⟨_, mm16, pp17, hV18, rfl, rfl, hw18⟩ := c_X4_write3 (S := S) (fz := fz) (m := m) (p := p) (d := d) (by omega) (117 + 12 * s) (i) (j) (toF x) hP (Or.inr ⟨s, by omega, rfl⟩)
  refine rw_of (fun rr hrr => q_invV hV18 (PI_pl hP (Or.inr ⟨s, by omega, rfl⟩)).1 rfl rfl (okar_cons rfl (okar_cons rfl (okar_cons rfl (okar_cons rfl okar_nil)))) (Nat.le_of_ble_eq_true rfl) (q_iload rfl hrr)) ?_
  exact rw_ret hQ (q_ireturn (Or.inl rfl)) (by exact ⟨rfl, rfl, hw18⟩)
theorem t_X9_set3 {d : Nat} {S : Env} {fz : Bool} {m : M1} {p : M2} (hd : 8 ≤ d) (s k n : Nat) (i : Int) (j : Int) (x : Int) (hP : PI p) (hk : m 1 1 = nF k) (hk12 : k ≤ 12) (hsk : s < k) (hm : m (117 + 12 * s) 0 = nF n) (hn0 : 1 ≤ n) (hn : n ≤ 8) (hr : (-2147483648 ≤ x ∧ x < 2147483648)) (h : x ≤ -10007 ∨ 10007 ≤ x) : Tx d k_X9_set S fz [.ref (1), .int (iI (((s : Nat) : Int))), .int (iI (3)), .int (iI (i)), .int (iI (j)), .int (iI (x))] m p 1 (fun m' p' => m = m' ∧ p = p') := by
  obtain ⟨d, rfl⟩ : ∃ e, d = e + 1 := ⟨d - 1, by omega⟩
  refine tx_go (lv := [some (.ref (1)), some (.int (iI (((s : Nat) : Int)))), some (.int (iI (3))), some (.int (iI (i))), some (.int (iI (j))), some (.int (iI (x))), none, none]) (Nat.le_of_ble_eq_true rfl) (okar_cons rfl (okar_cons rfl (okar_cons rfl (okar_cons rfl (okar_cons rfl (okar_cons rfl okar_nil)))))) (by decide) (by omega) rfl (fun Qr hQ => ?_)
  refine rw_blk lk_X9_set_0 ?_
  refine rw_of (fun rr hrr => q_aload_n rfl (q_iload_n rfl hrr)) ?_
  obtain ⟨_, mm1, pp2, hV3, rfl, rfl, rfl⟩ := c_X9_plantOf (S := S) (fz := fz) (m := m) (p := p) (d := d) (by omega) (s) (k) hP hk (by omega) (by omega)
  refine rw_of (fun rr hrr => q_invV hV3 (show SH 1 = (17, 0) from rfl) rfl rfl (okar_cons rfl okar_nil) (Nat.le_of_ble_eq_true rfl) (q_astore (Nat.le_of_ble_eq_true rfl) rfl (q_aload rfl (q_iload_n rfl (q_iload_n rfl (q_iload rfl hrr)))))) ?_
  obtain ⟨_, mm4, pp5, hV6, rfl, rfl, rfl⟩ := c_X9_requireEntry3 (S := S) (fz := fz) (m := m) (p := p) (d := d) (by omega) (117 + 12 * s) (n) (i) (j) hP (Or.inr ⟨s, by omega, rfl⟩) hm (by omega)
  refine rw_of (fun rr hrr => q_invS hV6 rfl rfl (okar_cons rfl (okar_cons rfl (okar_cons rfl (okar_cons rfl okar_nil)))) (Nat.le_of_ble_eq_true rfl) (q_iload rfl hrr)) ?_
  obtain ⟨mm7, pp8, hV9, rfl, rfl⟩ := t_X9_requireValue (S := S) (fz := fz) (m := m) (p := p) (d := d) (by omega) (x) (by omega) (by omega)
  refine rw_end (q_invSx hV9 (by decide) rfl rfl (okar_cons rfl okar_nil) (Nat.le_of_ble_eq_true rfl)) ?_
  rw [hQ]
  refine ⟨_, _, rfl, ?_⟩
  exact ⟨rfl, rfl⟩
theorem t_X9_atW {d : Nat} {S : Env} {fz : Bool} {m : M1} {p : M2} (hd : 8 ≤ d) (s k n : Nat) (w x y : Int) (hP : PI p) (hk : m 1 1 = nF k) (hk12 : k ≤ 12) (hsk : s < k) (hm : m (117 + 12 * s) 0 = nF n) (hn0 : 1 ≤ n) (hn : n ≤ 8) (hr : (-2147483648 ≤ w ∧ w < 2147483648)) (h : w < 0 ∨ 3 < w) : Tx d k_X9_at S fz [.ref (1), .int (iI (((s : Nat) : Int))), .int (iI (w)), .int (iI (x)), .int (iI (y))] m p 0 (fun m' p' => m = m' ∧ p = p') := by
  obtain ⟨d, rfl⟩ : ∃ e, d = e + 1 := ⟨d - 1, by omega⟩
  refine tx_go (lv := [some (.ref (1)), some (.int (iI (((s : Nat) : Int)))), some (.int (iI (w))), some (.int (iI (x))), some (.int (iI (y))), none]) (Nat.le_of_ble_eq_true rfl) (okar_cons rfl (okar_cons rfl (okar_cons rfl (okar_cons rfl (okar_cons rfl okar_nil))))) (by decide) (by omega) rfl (fun Qr hQ => ?_)
  refine rw_blk lk_X9_at_0 ?_
  refine rw_of (fun rr hrr => q_aload_n rfl (q_iload_n rfl hrr)) ?_
  obtain ⟨_, mm1, pp2, hV3, rfl, rfl, rfl⟩ := c_X9_plantOf (S := S) (fz := fz) (m := m) (p := p) (d := d) (by omega) (s) (k) hP hk (by omega) (by omega)
  refine rw_of (fun rr hrr => q_invV hV3 (show SH 1 = (17, 0) from rfl) rfl rfl (okar_cons rfl okar_nil) (Nat.le_of_ble_eq_true rfl) (q_astore (Nat.le_of_ble_eq_true rfl) rfl (q_aload rfl (q_iload_n rfl (q_iload_n rfl (q_iload rfl hrr)))))) ?_
  obtain ⟨mm4, pp5, hV6, rfl, rfl⟩ := t_X9_requireEntry (S := S) (fz := fz) (m := m) (p := p) (d := d) (by omega) (117 + 12 * s) (n) (w) (x) (y) hP (Or.inr ⟨s, by omega, rfl⟩) hm (by omega) (by omega) (by omega)
  refine rw_end (q_invSx hV6 (by decide) rfl rfl (okar_cons rfl (okar_cons rfl (okar_cons rfl (okar_cons rfl okar_nil)))) (Nat.le_of_ble_eq_true rfl)) ?_
  rw [hQ]
  refine ⟨_, _, rfl, ?_⟩
  exact ⟨rfl, rfl⟩
theorem t_X9_atE0 {d : Nat} {S : Env} {fz : Bool} {m : M1} {p : M2} (hd : 8 ≤ d) (s k n : Nat) (x y : Int) (hP : PI p) (hk : m 1 1 = nF k) (hk12 : k ≤ 12) (hsk : s < k) (hm : m (117 + 12 * s) 0 = nF n) (hn0 : 1 ≤ n) (hn : n ≤ 8) (hr : (-2147483648 ≤ x ∧ x < 2147483648)) (h : x < 0 ∨ n ≤ x) : Tx d k_X9_at S fz [.ref (1), .int (iI (((s : Nat) : Int))), .int (iI (0)), .int (iI (x)), .int (iI (y))] m p 0 (fun m' p' => m = m' ∧ p = p') := by
  obtain ⟨d, rfl⟩ : ∃ e, d = e + 1 := ⟨d - 1, by omega⟩
  refine tx_go (lv := [some (.ref (1)), some (.int (iI (((s : Nat) : Int)))), some (.int (iI (0))), some (.int (iI (x))), some (.int (iI (y))), none]) (Nat.le_of_ble_eq_true rfl) (okar_cons rfl (okar_cons rfl (okar_cons rfl (okar_cons rfl (okar_cons rfl okar_nil))))) (by decide) (by omega) rfl (fun Qr hQ => ?_)
  refine rw_blk lk_X9_at_0 ?_
  refine rw_of (fun rr hrr => q_aload_n rfl (q_iload_n rfl hrr)) ?_
  obtain ⟨_, mm1, pp2, hV3, rfl, rfl, rfl⟩ := c_X9_plantOf (S := S) (fz := fz) (m := m) (p := p) (d := d) (by omega) (s) (k) hP hk (by omega) (by omega)
  refine rw_of (fun rr hrr => q_invV hV3 (show SH 1 = (17, 0) from rfl) rfl rfl (okar_cons rfl okar_nil) (Nat.le_of_ble_eq_true rfl) (q_astore (Nat.le_of_ble_eq_true rfl) rfl (q_aload rfl (q_iload_n rfl (q_iload_n rfl (q_iload rfl hrr)))))) ?_
  obtain ⟨mm4, pp5, hV6, rfl, rfl⟩ := t_X9_requireEntry0 (S := S) (fz := fz) (m := m) (p := p) (d := d) (by omega) (117 + 12 * s) (n) (x) (y) hP (Or.inr ⟨s, by omega, rfl⟩) hm (by omega) (by omega) (by omega)
  refine rw_end (q_invSx hV6 (by decide) rfl rfl (okar_cons rfl (okar_cons rfl (okar_cons rfl (okar_cons rfl okar_nil)))) (Nat.le_of_ble_eq_true rfl)) ?_
  rw [hQ]
  refine ⟨_, _, rfl, ?_⟩
  exact ⟨rfl, rfl⟩
theorem t_X9_atE1 {d : Nat} {S : Env} {fz : Bool} {m : M1} {p : M2} (hd : 8 ≤ d) (s k n : Nat) (x y : Int) (hP : PI p) (hk : m 1 1 = nF k) (hk12 : k ≤ 12) (hsk : s < k) (hm : m (117 + 12 * s) 0 = nF n) (hn0 : 1 ≤ n) (hn : n ≤ 8) (hr : (-2147483648 ≤ x ∧ x < 2147483648)) (h : x < 0 ∨ n ≤ x) : Tx d k_X9_at S fz [.ref (1), .int (iI (((s : Nat) : Int))), .int (iI (1)), .int (iI (x)), .int (iI (y))] m p 0 (fun m' p' => m = m' ∧ p = p') := by
  obtain ⟨d, rfl⟩ : ∃ e, d = e + 1 := ⟨d - 1, by omega⟩
  refine tx_go (lv := [some (.ref (1)), some (.int (iI (((s : Nat) : Int)))), some (.int (iI (1))), some (.int (iI (x))), some (.int (iI (y))), none]) (Nat.le_of_ble_eq_true rfl) (okar_cons rfl (okar_cons rfl (okar_cons rfl (okar_cons rfl (okar_cons rfl okar_nil))))) (by decide) (by omega) rfl (fun Qr hQ => ?_)
  refine rw_blk lk_X9_at_0 ?_
  refine rw_of (fun rr hrr => q_aload_n rfl (q_iload_n rfl hrr)) ?_
  obtain ⟨_, mm1, pp2, hV3, rfl, rfl, rfl⟩ := c_X9_plantOf (S := S) (fz := fz) (m := m) (p := p) (d := d) (by omega) (s) (k) hP hk (by omega) (by omega)
  refine rw_of (fun rr hrr => q_invV hV3 (show SH 1 = (17, 0) from rfl) rfl rfl (okar_cons rfl okar_nil) (Nat.le_of_ble_eq_true rfl) (q_astore (Nat.le_of_ble_eq_true rfl) rfl (q_aload rfl (q_iload_n rfl (q_iload_n rfl (q_iload rfl hrr)))))) ?_
  obtain ⟨mm4, pp5, hV6, rfl, rfl⟩ := t_X9_requireEntry1 (S := S) (fz := fz) (m := m) (p := p) (d := d) (by omega) (117 + 12 * s) (n) (x) (y) hP (Or.inr ⟨s, by omega, rfl⟩) hm (by omega) (by omega) (by omega)
  refine rw_end (q_invSx hV6 (by decide) rfl rfl (okar_cons rfl (okar_cons rfl (okar_cons rfl (okar_cons rfl okar_nil)))) (Nat.le_of_ble_eq_true rfl)) ?_
  rw [hQ]
  refine ⟨_, _, rfl, ?_⟩
  exact ⟨rfl, rfl⟩
theorem t_X9_atE2 {d : Nat} {S : Env} {fz : Bool} {m : M1} {p : M2} (hd : 8 ≤ d) (s k n : Nat) (x y : Int) (hP : PI p) (hk : m 1 1 = nF k) (hk12 : k ≤ 12) (hsk : s < k) (hm : m (117 + 12 * s) 0 = nF n) (hn0 : 1 ≤ n) (hn : n ≤ 8) (hr : (-2147483648 ≤ y ∧ y < 2147483648)) (h : y < 0 ∨ n ≤ y) : Tx d k_X9_at S fz [.ref (1), .int (iI (((s : Nat) : Int))), .int (iI (2)), .int (iI (x)), .int (iI (y))] m p 0 (fun m' p' => m = m' ∧ p = p') := by
  obtain ⟨d, rfl⟩ : ∃ e, d = e + 1 := ⟨d - 1, by omega⟩
  refine tx_go (lv := [some (.ref (1)), some (.int (iI (((s : Nat) : Int)))), some (.int (iI (2))), some (.int (iI (x))), some (.int (iI (y))), none]) (Nat.le_of_ble_eq_true rfl) (okar_cons rfl (okar_cons rfl (okar_cons rfl (okar_cons rfl (okar_cons rfl okar_nil))))) (by decide) (by omega) rfl (fun Qr hQ => ?_)
  refine rw_blk lk_X9_at_0 ?_
  refine rw_of (fun rr hrr => q_aload_n rfl (q_iload_n rfl hrr)) ?_
  obtain ⟨_, mm1, pp2, hV3, rfl, rfl, rfl⟩ := c_X9_plantOf (S := S) (fz := fz) (m := m) (p := p) (d := d) (by omega) (s) (k) hP hk (by omega) (by omega)
  refine rw_of (fun rr hrr => q_invV hV3 (show SH 1 = (17, 0) from rfl) rfl rfl (okar_cons rfl okar_nil) (Nat.le_of_ble_eq_true rfl) (q_astore (Nat.le_of_ble_eq_true rfl) rfl (q_aload rfl (q_iload_n rfl (q_iload_n rfl (q_iload rfl hrr)))))) ?_
  obtain ⟨mm4, pp5, hV6, rfl, rfl⟩ := t_X9_requireEntry2 (S := S) (fz := fz) (m := m) (p := p) (d := d) (by omega) (117 + 12 * s) (n) (x) (y) hP (Or.inr ⟨s, by omega, rfl⟩) hm (by omega) (by omega) (by omega)
  refine rw_end (q_invSx hV6 (by decide) rfl rfl (okar_cons rfl (okar_cons rfl (okar_cons rfl (okar_cons rfl okar_nil)))) (Nat.le_of_ble_eq_true rfl)) ?_
  rw [hQ]
  refine ⟨_, _, rfl, ?_⟩
  exact ⟨rfl, rfl⟩
theorem t_X9_atE4 {d : Nat} {S : Env} {fz : Bool} {m : M1} {p : M2} (hd : 8 ≤ d) (s k n : Nat) (x y : Int) (hP : PI p) (hk : m 1 1 = nF k) (hk12 : k ≤ 12) (hsk : s < k) (hm : m (117 + 12 * s) 0 = nF n) (hn0 : 1 ≤ n) (hn : n ≤ 8) (hi : 0 ≤ x ∧ x < n) (hr : (-2147483648 ≤ y ∧ y < 2147483648)) (h : y < 0 ∨ n ≤ y) : Tx d k_X9_at S fz [.ref (1), .int (iI (((s : Nat) : Int))), .int (iI (0)), .int (iI (x)), .int (iI (y))] m p 0 (fun m' p' => m = m' ∧ p = p') := by
  obtain ⟨d, rfl⟩ : ∃ e, d = e + 1 := ⟨d - 1, by omega⟩
  refine tx_go (lv := [some (.ref (1)), some (.int (iI (((s : Nat) : Int)))), some (.int (iI (0))), some (.int (iI (x))), some (.int (iI (y))), none]) (Nat.le_of_ble_eq_true rfl) (okar_cons rfl (okar_cons rfl (okar_cons rfl (okar_cons rfl (okar_cons rfl okar_nil))))) (by decide) (by omega) rfl (fun Qr hQ => ?_)
  refine rw_blk lk_X9_at_0 ?_
  refine rw_of (fun rr hrr => q_aload_n rfl (q_iload_n rfl hrr)) ?_
  obtain ⟨_, mm1, pp2, hV3, rfl, rfl, rfl⟩ := c_X9_plantOf (S := S) (fz := fz) (m := m) (p := p) (d := d) (by omega) (s) (k) hP hk (by omega) (by omega)
  refine rw_of (fun rr hrr => q_invV hV3 (show SH 1 = (17, 0) from rfl) rfl rfl (okar_cons rfl okar_nil) (Nat.le_of_ble_eq_true rfl) (q_astore (Nat.le_of_ble_eq_true rfl) rfl (q_aload rfl (q_iload_n rfl (q_iload_n rfl (q_iload rfl hrr)))))) ?_
  obtain ⟨mm4, pp5, hV6, rfl, rfl⟩ := t_X9_requireEntry4 (S := S) (fz := fz) (m := m) (p := p) (d := d) (by omega) (117 + 12 * s) (n) (x) (y) hP (Or.inr ⟨s, by omega, rfl⟩) hm (by omega) (by omega) (by omega) (by omega)
  refine rw_end (q_invSx hV6 (by decide) rfl rfl (okar_cons rfl (okar_cons rfl (okar_cons rfl (okar_cons rfl okar_nil)))) (Nat.le_of_ble_eq_true rfl)) ?_
  rw [hQ]
  refine ⟨_, _, rfl, ?_⟩
  exact ⟨rfl, rfl⟩
theorem t_X9_setW {d : Nat} {S : Env} {fz : Bool} {m : M1} {p : M2} (hd : 8 ≤ d) (s k n : Nat) (w x y z : Int) (hP : PI p) (hk : m 1 1 = nF k) (hk12 : k ≤ 12) (hsk : s < k) (hm : m (117 + 12 * s) 0 = nF n) (hn0 : 1 ≤ n) (hn : n ≤ 8) (hr : (-2147483648 ≤ w ∧ w < 2147483648)) (h : w < 0 ∨ 3 < w) : Tx d k_X9_set S fz [.ref (1), .int (iI (((s : Nat) : Int))), .int (iI (w)), .int (iI (x)), .int (iI (y)), .int (iI (z))] m p 0 (fun m' p' => m = m' ∧ p = p') := by
  obtain ⟨d, rfl⟩ : ∃ e, d = e + 1 := ⟨d - 1, by omega⟩
  refine tx_go (lv := [some (.ref (1)), some (.int (iI (((s : Nat) : Int)))), some (.int (iI (w))), some (.int (iI (x))), some (.int (iI (y))), some (.int (iI (z))), none, none]) (Nat.le_of_ble_eq_true rfl) (okar_cons rfl (okar_cons rfl (okar_cons rfl (okar_cons rfl (okar_cons rfl (okar_cons rfl okar_nil)))))) (by decide) (by omega) rfl (fun Qr hQ => ?_)
  refine rw_blk lk_X9_set_0 ?_
  refine rw_of (fun rr hrr => q_aload_n rfl (q_iload_n rfl hrr)) ?_
  obtain ⟨_, mm1, pp2, hV3, rfl, rfl, rfl⟩ := c_X9_plantOf (S := S) (fz := fz) (m := m) (p := p) (d := d) (by omega) (s) (k) hP hk (by omega) (by omega)
  refine rw_of (fun rr hrr => q_invV hV3 (show SH 1 = (17, 0) from rfl) rfl rfl (okar_cons rfl okar_nil) (Nat.le_of_ble_eq_true rfl) (q_astore (Nat.le_of_ble_eq_true rfl) rfl (q_aload rfl (q_iload_n rfl (q_iload_n rfl (q_iload rfl hrr)))))) ?_
  obtain ⟨mm4, pp5, hV6, rfl, rfl⟩ := t_X9_requireEntry (S := S) (fz := fz) (m := m) (p := p) (d := d) (by omega) (117 + 12 * s) (n) (w) (x) (y) hP (Or.inr ⟨s, by omega, rfl⟩) hm (by omega) (by omega) (by omega)
  refine rw_end (q_invSx hV6 (by decide) rfl rfl (okar_cons rfl (okar_cons rfl (okar_cons rfl (okar_cons rfl okar_nil)))) (Nat.le_of_ble_eq_true rfl)) ?_
  rw [hQ]
  refine ⟨_, _, rfl, ?_⟩
  exact ⟨rfl, rfl⟩
theorem t_X9_setE0 {d : Nat} {S : Env} {fz : Bool} {m : M1} {p : M2} (hd : 8 ≤ d) (s k n : Nat) (x y z : Int) (hP : PI p) (hk : m 1 1 = nF k) (hk12 : k ≤ 12) (hsk : s < k) (hm : m (117 + 12 * s) 0 = nF n) (hn0 : 1 ≤ n) (hn : n ≤ 8) (hr : (-2147483648 ≤ x ∧ x < 2147483648)) (h : x < 0 ∨ n ≤ x) : Tx d k_X9_set S fz [.ref (1), .int (iI (((s : Nat) : Int))), .int (iI (0)), .int (iI (x)), .int (iI (y)), .int (iI (z))] m p 0 (fun m' p' => m = m' ∧ p = p') := by
  obtain ⟨d, rfl⟩ : ∃ e, d = e + 1 := ⟨d - 1, by omega⟩
  refine tx_go (lv := [some (.ref (1)), some (.int (iI (((s : Nat) : Int)))), some (.int (iI (0))), some (.int (iI (x))), some (.int (iI (y))), some (.int (iI (z))), none, none]) (Nat.le_of_ble_eq_true rfl) (okar_cons rfl (okar_cons rfl (okar_cons rfl (okar_cons rfl (okar_cons rfl (okar_cons rfl okar_nil)))))) (by decide) (by omega) rfl (fun Qr hQ => ?_)
  refine rw_blk lk_X9_set_0 ?_
  refine rw_of (fun rr hrr => q_aload_n rfl (q_iload_n rfl hrr)) ?_
  obtain ⟨_, mm1, pp2, hV3, rfl, rfl, rfl⟩ := c_X9_plantOf (S := S) (fz := fz) (m := m) (p := p) (d := d) (by omega) (s) (k) hP hk (by omega) (by omega)
  refine rw_of (fun rr hrr => q_invV hV3 (show SH 1 = (17, 0) from rfl) rfl rfl (okar_cons rfl okar_nil) (Nat.le_of_ble_eq_true rfl) (q_astore (Nat.le_of_ble_eq_true rfl) rfl (q_aload rfl (q_iload_n rfl (q_iload_n rfl (q_iload rfl hrr)))))) ?_
  obtain ⟨mm4, pp5, hV6, rfl, rfl⟩ := t_X9_requireEntry0 (S := S) (fz := fz) (m := m) (p := p) (d := d) (by omega) (117 + 12 * s) (n) (x) (y) hP (Or.inr ⟨s, by omega, rfl⟩) hm (by omega) (by omega) (by omega)
  refine rw_end (q_invSx hV6 (by decide) rfl rfl (okar_cons rfl (okar_cons rfl (okar_cons rfl (okar_cons rfl okar_nil)))) (Nat.le_of_ble_eq_true rfl)) ?_
  rw [hQ]
  refine ⟨_, _, rfl, ?_⟩
  exact ⟨rfl, rfl⟩
theorem t_X9_setE1 {d : Nat} {S : Env} {fz : Bool} {m : M1} {p : M2} (hd : 8 ≤ d) (s k n : Nat) (x y z : Int) (hP : PI p) (hk : m 1 1 = nF k) (hk12 : k ≤ 12) (hsk : s < k) (hm : m (117 + 12 * s) 0 = nF n) (hn0 : 1 ≤ n) (hn : n ≤ 8) (hr : (-2147483648 ≤ x ∧ x < 2147483648)) (h : x < 0 ∨ n ≤ x) : Tx d k_X9_set S fz [.ref (1), .int (iI (((s : Nat) : Int))), .int (iI (1)), .int (iI (x)), .int (iI (y)), .int (iI (z))] m p 0 (fun m' p' => m = m' ∧ p = p') := by
  obtain ⟨d, rfl⟩ : ∃ e, d = e + 1 := ⟨d - 1, by omega⟩
  refine tx_go (lv := [some (.ref (1)), some (.int (iI (((s : Nat) : Int)))), some (.int (iI (1))), some (.int (iI (x))), some (.int (iI (y))), some (.int (iI (z))), none, none]) (Nat.le_of_ble_eq_true rfl) (okar_cons rfl (okar_cons rfl (okar_cons rfl (okar_cons rfl (okar_cons rfl (okar_cons rfl okar_nil)))))) (by decide) (by omega) rfl (fun Qr hQ => ?_)
  refine rw_blk lk_X9_set_0 ?_
  refine rw_of (fun rr hrr => q_aload_n rfl (q_iload_n rfl hrr)) ?_
  obtain ⟨_, mm1, pp2, hV3, rfl, rfl, rfl⟩ := c_X9_plantOf (S := S) (fz := fz) (m := m) (p := p) (d := d) (by omega) (s) (k) hP hk (by omega) (by omega)
  refine rw_of (fun rr hrr => q_invV hV3 (show SH 1 = (17, 0) from rfl) rfl rfl (okar_cons rfl okar_nil) (Nat.le_of_ble_eq_true rfl) (q_astore (Nat.le_of_ble_eq_true rfl) rfl (q_aload rfl (q_iload_n rfl (q_iload_n rfl (q_iload rfl hrr)))))) ?_
  obtain ⟨mm4, pp5, hV6, rfl, rfl⟩ := t_X9_requireEntry1 (S := S) (fz := fz) (m := m) (p := p) (d := d) (by omega) (117 + 12 * s) (n) (x) (y) hP (Or.inr ⟨s, by omega, rfl⟩) hm (by omega) (by omega) (by omega)
  refine rw_end (q_invSx hV6 (by decide) rfl rfl (okar_cons rfl (okar_cons rfl (okar_cons rfl (okar_cons rfl okar_nil)))) (Nat.le_of_ble_eq_true rfl)) ?_
  rw [hQ]
  refine ⟨_, _, rfl, ?_⟩
  exact ⟨rfl, rfl⟩
theorem t_X9_setE2 {d : Nat} {S : Env} {fz : Bool} {m : M1} {p : M2} (hd : 8 ≤ d) (s k n : Nat) (x y z : Int) (hP : PI p) (hk : m 1 1 = nF k) (hk12 : k ≤ 12) (hsk : s < k) (hm : m (117 + 12 * s) 0 = nF n) (hn0 : 1 ≤ n) (hn : n ≤ 8) (hr : (-2147483648 ≤ y ∧ y < 2147483648)) (h : y < 0 ∨ n ≤ y) : Tx d k_X9_set S fz [.ref (1), .int (iI (((s : Nat) : Int))), .int (iI (2)), .int (iI (x)), .int (iI (y)), .int (iI (z))] m p 0 (fun m' p' => m = m' ∧ p = p') := by
  obtain ⟨d, rfl⟩ : ∃ e, d = e + 1 := ⟨d - 1, by omega⟩
  refine tx_go (lv := [some (.ref (1)), some (.int (iI (((s : Nat) : Int)))), some (.int (iI (2))), some (.int (iI (x))), some (.int (iI (y))), some (.int (iI (z))), none, none]) (Nat.le_of_ble_eq_true rfl) (okar_cons rfl (okar_cons rfl (okar_cons rfl (okar_cons rfl (okar_cons rfl (okar_cons rfl okar_nil)))))) (by decide) (by omega) rfl (fun Qr hQ => ?_)
  refine rw_blk lk_X9_set_0 ?_
  refine rw_of (fun rr hrr => q_aload_n rfl (q_iload_n rfl hrr)) ?_
  obtain ⟨_, mm1, pp2, hV3, rfl, rfl, rfl⟩ := c_X9_plantOf (S := S) (fz := fz) (m := m) (p := p) (d := d) (by omega) (s) (k) hP hk (by omega) (by omega)
  refine rw_of (fun rr hrr => q_invV hV3 (show SH 1 = (17, 0) from rfl) rfl rfl (okar_cons rfl okar_nil) (Nat.le_of_ble_eq_true rfl) (q_astore (Nat.le_of_ble_eq_true rfl) rfl (q_aload rfl (q_iload_n rfl (q_iload_n rfl (q_iload rfl hrr)))))) ?_
  obtain ⟨mm4, pp5, hV6, rfl, rfl⟩ := t_X9_requireEntry2 (S := S) (fz := fz) (m := m) (p := p) (d := d) (by omega) (117 + 12 * s) (n) (x) (y) hP (Or.inr ⟨s, by omega, rfl⟩) hm (by omega) (by omega) (by omega)
  refine rw_end (q_invSx hV6 (by decide) rfl rfl (okar_cons rfl (okar_cons rfl (okar_cons rfl (okar_cons rfl okar_nil)))) (Nat.le_of_ble_eq_true rfl)) ?_
  rw [hQ]
  refine ⟨_, _, rfl, ?_⟩
  exact ⟨rfl, rfl⟩
theorem t_X9_setE4 {d : Nat} {S : Env} {fz : Bool} {m : M1} {p : M2} (hd : 8 ≤ d) (s k n : Nat) (x y z : Int) (hP : PI p) (hk : m 1 1 = nF k) (hk12 : k ≤ 12) (hsk : s < k) (hm : m (117 + 12 * s) 0 = nF n) (hn0 : 1 ≤ n) (hn : n ≤ 8) (hi : 0 ≤ x ∧ x < n) (hr : (-2147483648 ≤ y ∧ y < 2147483648)) (h : y < 0 ∨ n ≤ y) : Tx d k_X9_set S fz [.ref (1), .int (iI (((s : Nat) : Int))), .int (iI (0)), .int (iI (x)), .int (iI (y)), .int (iI (z))] m p 0 (fun m' p' => m = m' ∧ p = p') := by
  obtain ⟨d, rfl⟩ : ∃ e, d = e + 1 := ⟨d - 1, by omega⟩
  refine tx_go (lv := [some (.ref (1)), some (.int (iI (((s : Nat) : Int)))), some (.int (iI (0))), some (.int (iI (x))), some (.int (iI (y))), some (.int (iI (z))), none, none]) (Nat.le_of_ble_eq_true rfl) (okar_cons rfl (okar_cons rfl (okar_cons rfl (okar_cons rfl (okar_cons rfl (okar_cons rfl okar_nil)))))) (by decide) (by omega) rfl (fun Qr hQ => ?_)
  refine rw_blk lk_X9_set_0 ?_
  refine rw_of (fun rr hrr => q_aload_n rfl (q_iload_n rfl hrr)) ?_
  obtain ⟨_, mm1, pp2, hV3, rfl, rfl, rfl⟩ := c_X9_plantOf (S := S) (fz := fz) (m := m) (p := p) (d := d) (by omega) (s) (k) hP hk (by omega) (by omega)
  refine rw_of (fun rr hrr => q_invV hV3 (show SH 1 = (17, 0) from rfl) rfl rfl (okar_cons rfl okar_nil) (Nat.le_of_ble_eq_true rfl) (q_astore (Nat.le_of_ble_eq_true rfl) rfl (q_aload rfl (q_iload_n rfl (q_iload_n rfl (q_iload rfl hrr)))))) ?_
  obtain ⟨mm4, pp5, hV6, rfl, rfl⟩ := t_X9_requireEntry4 (S := S) (fz := fz) (m := m) (p := p) (d := d) (by omega) (117 + 12 * s) (n) (x) (y) hP (Or.inr ⟨s, by omega, rfl⟩) hm (by omega) (by omega) (by omega) (by omega)
  refine rw_end (q_invSx hV6 (by decide) rfl rfl (okar_cons rfl (okar_cons rfl (okar_cons rfl (okar_cons rfl okar_nil)))) (Nat.le_of_ble_eq_true rfl)) ?_
  rw [hQ]
  refine ⟨_, _, rfl, ?_⟩
  exact ⟨rfl, rfl⟩
theorem c_X9_system {d : Nat} {S : Env} {fz : Bool} {m : M1} {p : M2} (hd : 7 ≤ d) (n k : Nat) (hP : PI p) (hk : m 1 1 = nF k) (hk12 : k ≤ 12) (hn : 1 ≤ n ∧ n ≤ 4) (hk1 : k < 12) : Ct d k_X9_system S fz [.ref (1), .int (iI (((n : Nat) : Int)))] m p (fun v m' p' => v = some (.int (iI ((k : Nat) : Int))) ∧ p = p' ∧ w1 (w1 m (117 + 12 * k) 0 (nF n)) 1 1 (nF (k + 1)) = m') := by
  obtain ⟨d, rfl⟩ : ∃ e, d = e + 1 := ⟨d - 1, by omega⟩
  refine ct_go (lv := [some (.ref (1)), some (.int (iI (((n : Nat) : Int))))]) (Nat.le_of_ble_eq_true rfl) (okar_cons rfl (okar_cons rfl okar_nil)) rfl (fun Qr hQ => ?_)
  refine rw_blk lk_X9_system_0 ?_
  refine rw_of (fun rr hrr => q_iload_n rfl (q_iconst hrr)) ?_
  refine rw_icmp_lt ⟨by omega, by omega⟩ ⟨by omega, by omega⟩ (t := 10) rfl (fun hc1 => ?_) (fun hc1 => ?_)
  · skip
    refine rw_blk lk_X9_system_10 ?_
    exfalso; omega
  · skip
    refine rw_of (fun rr hrr => q_iload_n rfl (q_iconst hrr)) ?_
    refine rw_icmp_le ⟨by omega, by omega⟩ ⟨by omega, by omega⟩ (t := 20) rfl (fun hc2 => ?_) (fun hc2 => ?_)
    · skip
      refine rw_blk lk_X9_system_20 ?_
      refine rw_of (fun rr hrr => q_aload_n rfl (q_iload_n rfl hrr)) ?_
      obtain ⟨_, mm3, pp4, hV5, rfl, rfl, hw5, hF5⟩ := c_X9_newPlant (S := S) (fz := fz) (m := m) (p := p) (d := d) (by omega) (n) (k) hP hk (by omega) (by omega) (by omega)
      refine rw_of (fun rr hrr => q_invV hV5 (show SH 1 = (17, 0) from rfl) rfl rfl (okar_cons rfl okar_nil) (Nat.le_of_ble_eq_true rfl) (q_pop rfl (q_aload_n rfl (q_getI (show SH 1 = (17, 0) from rfl) rfl (ki rfl (by rw [← hw5, w1_at]) (by omega)) (q_iconst (q_isub hrr)))))) ?_
      exact rw_ret hQ (q_ireturn (Or.inl rfl)) (by exact ⟨lvI (by omega), rfl, hw5⟩)
    · skip
      refine rw_blk lk_X9_system_10 ?_
      exfalso; omega
theorem t_X9_system {d : Nat} {S : Env} {fz : Bool} {m : M1} {p : M2} (hd : 7 ≤ d) (x : Int) (k : Nat) (hP : PI p) (hk : m 1 1 = nF k) (hk12 : k ≤ 12) (hr : (-2147483648 ≤ x ∧ x < 2147483648)) (h : x < 1 ∨ 4 < x) : Tx d k_X9_system S fz [.ref (1), .int (iI (x))] m p 1 (fun m' p' => m = m' ∧ p = p') := by
  obtain ⟨d, rfl⟩ : ∃ e, d = e + 1 := ⟨d - 1, by omega⟩
  refine tx_go (lv := [some (.ref (1)), some (.int (iI (x)))]) (Nat.le_of_ble_eq_true rfl) (okar_cons rfl (okar_cons rfl okar_nil)) (by decide) (by omega) rfl (fun Qr hQ => ?_)
  refine rw_blk lk_X9_system_0 ?_
  refine rw_of (fun rr hrr => q_iload_n rfl (q_iconst hrr)) ?_
  refine rw_icmp_lt ⟨by omega, by omega⟩ ⟨by omega, by omega⟩ (t := 10) rfl (fun hc1 => ?_) (fun hc1 => ?_)
  · skip
    refine rw_blk lk_X9_system_10 ?_
    refine rw_end (q_throw (by decide) (by decide +kernel) rfl) ?_
    rw [hQ]
    refine ⟨_, _, rfl, ?_⟩
    exact ⟨rfl, rfl⟩
  · skip
    refine rw_of (fun rr hrr => q_iload_n rfl (q_iconst hrr)) ?_
    refine rw_icmp_le ⟨by omega, by omega⟩ ⟨by omega, by omega⟩ (t := 20) rfl (fun hc2 => ?_) (fun hc2 => ?_)
    · skip
      refine rw_blk lk_X9_system_20 ?_
      exfalso; omega
    · skip
      refine rw_blk lk_X9_system_10 ?_
      refine rw_end (q_throw (by decide) (by decide +kernel) rfl) ?_
      rw [hQ]
      refine ⟨_, _, rfl, ?_⟩
      exact ⟨rfl, rfl⟩
theorem t_X9_systemF {d : Nat} {S : Env} {fz : Bool} {m : M1} {p : M2} (hd : 7 ≤ d) (n k : Nat) (hP : PI p) (hk : m 1 1 = nF k) (hk12 : k ≤ 12) (hn : 1 ≤ n ∧ n ≤ 4) (hk1 : 12 ≤ k) : Tx d k_X9_system S fz [.ref (1), .int (iI (((n : Nat) : Int)))] m p 2 (fun m' p' => m = m' ∧ p = p') := by
  obtain ⟨d, rfl⟩ : ∃ e, d = e + 1 := ⟨d - 1, by omega⟩
  refine tx_go (lv := [some (.ref (1)), some (.int (iI (((n : Nat) : Int))))]) (Nat.le_of_ble_eq_true rfl) (okar_cons rfl (okar_cons rfl okar_nil)) (by decide) (by omega) rfl (fun Qr hQ => ?_)
  refine rw_blk lk_X9_system_0 ?_
  refine rw_of (fun rr hrr => q_iload_n rfl (q_iconst hrr)) ?_
  refine rw_icmp_lt ⟨by omega, by omega⟩ ⟨by omega, by omega⟩ (t := 10) rfl (fun hc1 => ?_) (fun hc1 => ?_)
  · skip
    refine rw_blk lk_X9_system_10 ?_
    exfalso; omega
  · skip
    refine rw_of (fun rr hrr => q_iload_n rfl (q_iconst hrr)) ?_
    refine rw_icmp_le ⟨by omega, by omega⟩ ⟨by omega, by omega⟩ (t := 20) rfl (fun hc2 => ?_) (fun hc2 => ?_)
    · skip
      refine rw_blk lk_X9_system_20 ?_
      refine rw_of (fun rr hrr => q_aload_n rfl (q_iload_n rfl hrr)) ?_
      obtain ⟨mm3, pp4, hV5, rfl, rfl⟩ := t_X9_newPlant (S := S) (fz := fz) (m := m) (p := p) (d := d) (by omega) (n) (k) hP hk (by omega) (by omega)
      refine rw_end (q_invVx hV5 (by decide) (show SH 1 = (17, 0) from rfl) rfl rfl (okar_cons rfl okar_nil) (Nat.le_of_ble_eq_true rfl)) ?_
      rw [hQ]
      refine ⟨_, _, rfl, ?_⟩
      exact ⟨rfl, rfl⟩
    · skip
      refine rw_blk lk_X9_system_10 ?_
      exfalso; omega
theorem c_X9_pole {d : Nat} {S : Env} {fz : Bool} {m : M1} {p : M2} (hd : 8 ≤ d) (c : Nat) (x : Int) (hP : PI p) (h1 : m 3 1 = nF c) (h2 : m 3 2 = nF 16) (hc : c < 16) (h : -10007 < x ∧ x < 10007) : Ct d k_X9_pole S fz [.ref (1), .int (iI (x))] m p (fun v m' p' => v = some (.int (iI ((c + 1 : Nat) : Int))) ∧ p = p' ∧ w1 (w1 m 4 c (toF x)) 3 1 (nF (c + 1)) = m') := by
  obtain ⟨d, rfl⟩ : ∃ e, d = e + 1 := ⟨d - 1, by omega⟩
  refine ct_go (lv := [some (.ref (1)), some (.int (iI (x)))]) (Nat.le_of_ble_eq_true rfl) (okar_cons rfl (okar_cons rfl okar_nil)) rfl (fun Qr hQ => ?_)
  refine rw_blk lk_X9_pole_0 ?_
  refine rw_of (fun rr hrr => q_aload_n rfl (q_getR (show SH 1 = (17, 0) from rfl) rfl (pt_1_2 hP) (q_iload_n rfl hrr))) ?_
  obtain ⟨_, mm1, pp2, hV3, rfl, rfl, hw3⟩ := c_X9_type (S := S) (fz := fz) (m := m) (p := p) (d := d) (by omega) (3) (4) (c) (16) (x) ((show SH 3 = (16, 0) from rfl)) (pt_3_0 hP) ((show SH 4 = (1, 20) from rfl)) (by omega) h1 h2 (by omega) (by omega)
  refine rw_of (fun rr hrr => q_invS hV3 rfl rfl (okar_cons rfl (okar_cons rfl okar_nil)) (Nat.le_of_ble_eq_true rfl) hrr) ?_
  exact rw_ret hQ (q_ireturn (Or.inl rfl)) (by exact ⟨rfl, rfl, hw3⟩)
theorem t_X9_pole {d : Nat} {S : Env} {fz : Bool} {m : M1} {p : M2} (hd : 8 ≤ d) (c : Nat) (x : Int) (hP : PI p) (h1 : m 3 1 = nF c) (h2 : m 3 2 = nF 16) (hr : (-2147483648 ≤ x ∧ x < 2147483648)) (h : x ≤ -10007 ∨ 10007 ≤ x) : Tx d k_X9_pole S fz [.ref (1), .int (iI (x))] m p 1 (fun m' p' => m = m' ∧ p = p') := by
  obtain ⟨d, rfl⟩ : ∃ e, d = e + 1 := ⟨d - 1, by omega⟩
  refine tx_go (lv := [some (.ref (1)), some (.int (iI (x)))]) (Nat.le_of_ble_eq_true rfl) (okar_cons rfl (okar_cons rfl okar_nil)) (by decide) (by omega) rfl (fun Qr hQ => ?_)
  refine rw_blk lk_X9_pole_0 ?_
  refine rw_of (fun rr hrr => q_aload_n rfl (q_getR (show SH 1 = (17, 0) from rfl) rfl (pt_1_2 hP) (q_iload_n rfl hrr))) ?_
  obtain ⟨mm1, pp2, hV3, rfl, rfl⟩ := t_X9_type (S := S) (fz := fz) (m := m) (p := p) (d := d) (by omega) (3) (4) (c) (16) (x) ((show SH 3 = (16, 0) from rfl)) (pt_3_0 hP) ((show SH 4 = (1, 20) from rfl)) (by omega) h1 h2 (by omega) (by omega)
  refine rw_end (q_invSx hV3 (by decide) rfl rfl (okar_cons rfl (okar_cons rfl okar_nil)) (Nat.le_of_ble_eq_true rfl)) ?_
  rw [hQ]
  refine ⟨_, _, rfl, ?_⟩
  exact ⟨rfl, rfl⟩
theorem t_X9_poleF {d : Nat} {S : Env} {fz : Bool} {m : M1} {p : M2} (hd : 8 ≤ d) (c : Nat) (x : Int) (hP : PI p) (h1 : m 3 1 = nF c) (h2 : m 3 2 = nF 16) (hc : 16 ≤ c ∧ c ≤ 20) (h : -10007 < x ∧ x < 10007) : Tx d k_X9_pole S fz [.ref (1), .int (iI (x))] m p 2 (fun m' p' => m = m' ∧ p = p') := by
  obtain ⟨d, rfl⟩ : ∃ e, d = e + 1 := ⟨d - 1, by omega⟩
  refine tx_go (lv := [some (.ref (1)), some (.int (iI (x)))]) (Nat.le_of_ble_eq_true rfl) (okar_cons rfl (okar_cons rfl okar_nil)) (by decide) (by omega) rfl (fun Qr hQ => ?_)
  refine rw_blk lk_X9_pole_0 ?_
  refine rw_of (fun rr hrr => q_aload_n rfl (q_getR (show SH 1 = (17, 0) from rfl) rfl (pt_1_2 hP) (q_iload_n rfl hrr))) ?_
  obtain ⟨mm1, pp2, hV3, rfl, rfl⟩ := t_X9_typeF (S := S) (fz := fz) (m := m) (p := p) (d := d) (by omega) (3) (4) (c) (16) (x) ((show SH 3 = (16, 0) from rfl)) (pt_3_0 hP) ((show SH 4 = (1, 20) from rfl)) (by omega) h1 h2 (by omega) (by omega)
  refine rw_end (q_invSx hV3 (by decide) rfl rfl (okar_cons rfl (okar_cons rfl okar_nil)) (Nat.le_of_ble_eq_true rfl)) ?_
  rw [hQ]
  refine ⟨_, _, rfl, ?_⟩
  exact ⟨rfl, rfl⟩
theorem c_X9_input {d : Nat} {S : Env} {fz : Bool} {m : M1} {p : M2} (hd : 8 ≤ d) (c : Nat) (x : Int) (hP : PI p) (h1 : m 5 1 = nF c) (h2 : m 5 2 = nF 20) (hc : c < 20) (h : -10007 < x ∧ x < 10007) : Ct d k_X9_input S fz [.ref (1), .int (iI (x))] m p (fun v m' p' => v = some (.int (iI ((c + 1 : Nat) : Int))) ∧ p = p' ∧ w1 (w1 m 6 c (toF x)) 5 1 (nF (c + 1)) = m') := by
  obtain ⟨d, rfl⟩ : ∃ e, d = e + 1 := ⟨d - 1, by omega⟩
  refine ct_go (lv := [some (.ref (1)), some (.int (iI (x)))]) (Nat.le_of_ble_eq_true rfl) (okar_cons rfl (okar_cons rfl okar_nil)) rfl (fun Qr hQ => ?_)
  refine rw_blk lk_X9_input_0 ?_
  refine rw_of (fun rr hrr => q_aload_n rfl (q_getR (show SH 1 = (17, 0) from rfl) rfl (pt_1_3 hP) (q_iload_n rfl hrr))) ?_
  obtain ⟨_, mm1, pp2, hV3, rfl, rfl, hw3⟩ := c_X9_type (S := S) (fz := fz) (m := m) (p := p) (d := d) (by omega) (5) (6) (c) (20) (x) ((show SH 5 = (16, 0) from rfl)) (pt_5_0 hP) ((show SH 6 = (1, 20) from rfl)) (by omega) h1 h2 (by omega) (by omega)
  refine rw_of (fun rr hrr => q_invS hV3 rfl rfl (okar_cons rfl (okar_cons rfl okar_nil)) (Nat.le_of_ble_eq_true rfl) hrr) ?_
  exact rw_ret hQ (q_ireturn (Or.inl rfl)) (by exact ⟨rfl, rfl, hw3⟩)
theorem t_X9_input {d : Nat} {S : Env} {fz : Bool} {m : M1} {p : M2} (hd : 8 ≤ d) (c : Nat) (x : Int) (hP : PI p) (h1 : m 5 1 = nF c) (h2 : m 5 2 = nF 20) (hr : (-2147483648 ≤ x ∧ x < 2147483648)) (h : x ≤ -10007 ∨ 10007 ≤ x) : Tx d k_X9_input S fz [.ref (1), .int (iI (x))] m p 1 (fun m' p' => m = m' ∧ p = p') := by
  obtain ⟨d, rfl⟩ : ∃ e, d = e + 1 := ⟨d - 1, by omega⟩
  refine tx_go (lv := [some (.ref (1)), some (.int (iI (x)))]) (Nat.le_of_ble_eq_true rfl) (okar_cons rfl (okar_cons rfl okar_nil)) (by decide) (by omega) rfl (fun Qr hQ => ?_)
  refine rw_blk lk_X9_input_0 ?_
  refine rw_of (fun rr hrr => q_aload_n rfl (q_getR (show SH 1 = (17, 0) from rfl) rfl (pt_1_3 hP) (q_iload_n rfl hrr))) ?_
  obtain ⟨mm1, pp2, hV3, rfl, rfl⟩ := t_X9_type (S := S) (fz := fz) (m := m) (p := p) (d := d) (by omega) (5) (6) (c) (20) (x) ((show SH 5 = (16, 0) from rfl)) (pt_5_0 hP) ((show SH 6 = (1, 20) from rfl)) (by omega) h1 h2 (by omega) (by omega)
  refine rw_end (q_invSx hV3 (by decide) rfl rfl (okar_cons rfl (okar_cons rfl okar_nil)) (Nat.le_of_ble_eq_true rfl)) ?_
  rw [hQ]
  refine ⟨_, _, rfl, ?_⟩
  exact ⟨rfl, rfl⟩
theorem t_X9_inputF {d : Nat} {S : Env} {fz : Bool} {m : M1} {p : M2} (hd : 8 ≤ d) (c : Nat) (x : Int) (hP : PI p) (h1 : m 5 1 = nF c) (h2 : m 5 2 = nF 20) (hc : 20 ≤ c ∧ c ≤ 20) (h : -10007 < x ∧ x < 10007) : Tx d k_X9_input S fz [.ref (1), .int (iI (x))] m p 2 (fun m' p' => m = m' ∧ p = p') := by
  obtain ⟨d, rfl⟩ : ∃ e, d = e + 1 := ⟨d - 1, by omega⟩
  refine tx_go (lv := [some (.ref (1)), some (.int (iI (x)))]) (Nat.le_of_ble_eq_true rfl) (okar_cons rfl (okar_cons rfl okar_nil)) (by decide) (by omega) rfl (fun Qr hQ => ?_)
  refine rw_blk lk_X9_input_0 ?_
  refine rw_of (fun rr hrr => q_aload_n rfl (q_getR (show SH 1 = (17, 0) from rfl) rfl (pt_1_3 hP) (q_iload_n rfl hrr))) ?_
  obtain ⟨mm1, pp2, hV3, rfl, rfl⟩ := t_X9_typeF (S := S) (fz := fz) (m := m) (p := p) (d := d) (by omega) (5) (6) (c) (20) (x) ((show SH 5 = (16, 0) from rfl)) (pt_5_0 hP) ((show SH 6 = (1, 20) from rfl)) (by omega) h1 h2 (by omega) (by omega)
  refine rw_end (q_invSx hV3 (by decide) rfl rfl (okar_cons rfl (okar_cons rfl okar_nil)) (Nat.le_of_ble_eq_true rfl)) ?_
  rw [hQ]
  refine ⟨_, _, rfl, ?_⟩
  exact ⟨rfl, rfl⟩
theorem c_X9_clear {d : Nat} {S : Env} {fz : Bool} {m : M1} {p : M2} (hd : 1 ≤ d) (cp ci : Nat) (hP : PI p) (hcp : m 3 1 = nF cp) (hcpl : cp ≤ 16) (hci : m 5 1 = nF ci) (hcil : ci ≤ 20) : Ct d k_X9_clear S fz [.ref (1)] m p (fun v m' p' => v = some (.int (iI ((cp + ci : Nat) : Int))) ∧ p = p' ∧ w1 (w1 m 3 1 0) 5 1 0 = m') := by
  obtain ⟨d, rfl⟩ : ∃ e, d = e + 1 := ⟨d - 1, by omega⟩
  refine ct_go (lv := [some (.ref (1)), none]) (Nat.le_of_ble_eq_true rfl) (okar_cons rfl okar_nil) rfl (fun Qr hQ => ?_)
  refine rw_blk lk_X9_clear_0 ?_
  refine rw_of (fun rr hrr => q_aload_n rfl (q_getR (show SH 1 = (17, 0) from rfl) rfl (pt_1_2 hP) (q_getI (show SH 3 = (16, 0) from rfl) rfl (ki rfl hcp (by omega)) (q_aload_n rfl (q_getR (show SH 1 = (17, 0) from rfl) rfl (pt_1_3 hP) (q_getI (show SH 5 = (16, 0) from rfl) rfl (ki rfl hci (by omega)) (q_iadd (q_istore_n (Nat.le_of_ble_eq_true rfl) rfl (q_aload_n rfl (q_getR (show SH 1 = (17, 0) from rfl) rfl (pt_1_2 hP) (q_iconst (q_putI (xx := 0) (show SH 3 = (16, 0) from rfl) rfl rfl rfl hrr)))))))))))) ?_
  generalize hm2 : w1 m 3 1 0 = mm1
  refine rw_of (fun rr hrr => q_aload_n rfl (q_getR (show SH 1 = (17, 0) from rfl) rfl (pt_1_3 hP) (q_iconst (q_putI (xx := 0) (show SH 5 = (16, 0) from rfl) rfl rfl rfl hrr)))) ?_
  generalize hm4 : w1 mm1 5 1 0 = mm3
  refine rw_of (fun rr hrr => q_iload_n rfl hrr) ?_
  exact rw_ret hQ (q_ireturn (Or.inl rfl)) (by exact ⟨rfl, rfl, by rw [hm2, hm4]⟩)
theorem c_X9_least {d : Nat} {S : Env} {fz : Bool} {m : M1} {p : M2} (hd : 7 ≤ d) (s k n : Nat) (hP : PI p) (hk : m 1 1 = nF k) (hk12 : k ≤ 12) (hsk : s < k) (hm : m (117 + 12 * s) 0 = nF n) (hn0 : 1 ≤ n) (hn : n ≤ 8) : Ct d k_X9_least S fz [.ref (1), .int (iI (((s : Nat) : Int)))] m p (fun v m' p' => v = some (.int (iI ((n : Nat) - ((ecd 8 (pbl n (fun z => m (117 + 12 * s + 2 + z))) (pab n (fun z => m (117 + 12 * s + 2 + z)) (m (117 + 12 * s + 10)) (m (117 + 12 * s + 11))) n (dg (pab n (fun z => m (117 + 12 * s + 2 + z)) (m (117 + 12 * s + 10)) (m (117 + 12 * s + 11))) n) : Nat) : Int)))) ∧ PI p' ∧ Fr (fun a_ => 7 ≤ a_ ∧ a_ < 117) m m') := by
  obtain ⟨d, rfl⟩ : ∃ e, d = e + 1 := ⟨d - 1, by omega⟩
  refine ct_go (lv := [some (.ref (1)), some (.int (iI (((s : Nat) : Int)))), none]) (Nat.le_of_ble_eq_true rfl) (okar_cons rfl (okar_cons rfl okar_nil)) rfl (fun Qr hQ => ?_)
  refine rw_blk lk_X9_least_0 ?_
  refine rw_of (fun rr hrr => q_aload_n rfl (q_iload_n rfl hrr)) ?_
  obtain ⟨_, mm1, pp2, hV3, rfl, rfl, rfl⟩ := c_X9_plantOf (S := S) (fz := fz) (m := m) (p := p) (d := d) (by omega) (s) (k) hP hk (by omega) (by omega)
  refine rw_of (fun rr hrr => q_invV hV3 (show SH 1 = (17, 0) from rfl) rfl rfl (okar_cons rfl okar_nil) (Nat.le_of_ble_eq_true rfl) (q_astore_n (Nat.le_of_ble_eq_true rfl) rfl (q_aload_n rfl (q_getR (show SH 1 = (17, 0) from rfl) rfl (pt_1_8 hP) (q_aload_n rfl hrr))))) ?_
  obtain ⟨_, mm4, pp5, hV6, rfl, hP6, hF6, hB6, hA6⟩ := c_X5_find (S := S) (fz := fz) (m := m) (p := p) (d := d) (by omega) (n) (117 + 12 * s) hP (Or.inr ⟨s, by omega, rfl⟩) (by omega) (by omega) hm
  refine rw_of (fun rr hrr => q_invV hV6 (show SH 35 = (14, 0) from rfl) rfl rfl (okar_cons rfl okar_nil) (Nat.le_of_ble_eq_true rfl) (q_aload_n rfl (q_getI (PI_pl hP6 (Or.inr ⟨s, by omega, rfl⟩)).1 rfl (ki (hF6 (117 + 12 * s) (by show ¬ (36 ≤ (117 + 12 * s) ∧ (117 + 12 * s) < 57); omega)) hm (by omega)) (q_aload_n rfl (q_getR (show SH 1 = (17, 0) from rfl) rfl (pt_1_8 hP6) (q_aload_n rfl (q_getI (PI_pl hP6 (Or.inr ⟨s, by omega, rfl⟩)).1 rfl (ki (hF6 (117 + 12 * s) (by show ¬ (36 ≤ (117 + 12 * s) ∧ (117 + 12 * s) < 57); omega)) hm (by omega)) hrr))))))) ?_
  obtain ⟨_, mm7, pp8, hV9, rfl, hP9, hF9⟩ := c_X5_commonDegree (S := S) (fz := fz) (m := mm4) (p := pp5) (d := d) (by omega) (n) hP6 (by omega) (by omega)
  refine rw_of (fun rr hrr => q_invV hV9 (show SH 35 = (14, 0) from rfl) rfl rfl (okar_cons rfl okar_nil) (Nat.le_of_ble_eq_true rfl) (q_isub hrr)) ?_
  refine rw_ret hQ (q_ireturn (Or.inl rfl)) ?_
  
  refine ⟨lvI ?_, hP9, Fr_trans (Fr_mono hF6 (fun a ha => by omega)) (Fr_mono hF9 (fun a ha => by omega))⟩
  rw [ecd_congr 8 (mm4 36) (pbl n (fun z => m (117 + 12 * s + 2 + z))) (mm4 37) (pab n (fun z => m (117 + 12 * s + 2 + z)) (m (117 + 12 * s + 10)) (m (117 + 12 * s + 11))) n (dg (mm4 37) n) (dg_le n) (fun k hk => hB6 k hk) (fun k hk => hA6 k (by have := dg_le (f := mm4 37) n; omega)), dg_congr (fun i hi => hA6 i (by omega))]
  
theorem c_X9_leastAnew {d : Nat} {S : Env} {fz : Bool} {m : M1} {p : M2} (hd : 7 ≤ d) (s k n : Nat) (hP : PI p) (hk : m 1 1 = nF k) (hk12 : k ≤ 12) (hsk : s < k) (hm : m (117 + 12 * s) 0 = nF n) (hn0 : 1 ≤ n) (hn : n ≤ 8) : Ct d k_X9_leastAnew S fz [.ref (1), .int (iI (((s : Nat) : Int)))] m p (fun v m' p' => v = some (.int (iI ((rk n (fun i j => (hs n (fun z => m (117 + 12 * s + 2 + z)) (m (117 + 12 * s + 10)) (m (117 + 12 * s + 11)) (m (117 + 12 * s) 4)) (i + j + 1)) : Nat) : Int))) ∧ PI p' ∧ Fr (fun a_ => 7 ≤ a_ ∧ a_ < 117) m m') := by
  obtain ⟨d, rfl⟩ : ∃ e, d = e + 1 := ⟨d - 1, by omega⟩
  refine ct_go (lv := [some (.ref (1)), some (.int (iI (((s : Nat) : Int))))]) (Nat.le_of_ble_eq_true rfl) (okar_cons rfl (okar_cons rfl okar_nil)) rfl (fun Qr hQ => ?_)
  refine rw_blk lk_X9_leastAnew_0 ?_
  refine rw_of (fun rr hrr => q_aload_n rfl (q_getR (show SH 1 = (17, 0) from rfl) rfl (pt_1_9 hP) (q_aload_n rfl (q_iload_n rfl hrr)))) ?_
  obtain ⟨_, mm1, pp2, hV3, rfl, rfl, rfl⟩ := c_X9_plantOf (S := S) (fz := fz) (m := m) (p := p) (d := d) (by omega) (s) (k) hP hk (by omega) (by omega)
  refine rw_of (fun rr hrr => q_invV hV3 (show SH 1 = (17, 0) from rfl) rfl rfl (okar_cons rfl okar_nil) (Nat.le_of_ble_eq_true rfl) hrr) ?_
  obtain ⟨_, mm4, pp5, hV6, RR6, rfl, hP6, hE6, hF6⟩ := c_X0_rankOfNumbers (S := S) (fz := fz) (m := m) (p := p) (d := d) (by omega) (n) (117 + 12 * s) hP (Or.inr ⟨s, by omega, rfl⟩) (by omega) (by omega) hm
  refine rw_of (fun rr hrr => q_invV hV6 (show SH 59 = (10, 0) from rfl) rfl rfl (okar_cons rfl okar_nil) (Nat.le_of_ble_eq_true rfl) hrr) ?_
  exact rw_ret hQ (q_ireturn (Or.inl rfl)) (by exact ⟨rfl, hP6, Fr_mono hF6 (fun a ha => by omega)⟩)
theorem c_X9_gainAnew {d : Nat} {S : Env} {fz : Bool} {m : M1} {p : M2} (hd : 7 ≤ d) (s k n g cp : Nat) (hP : PI p) (hk : m 1 1 = nF k) (hk12 : k ≤ 12) (hsk : s < k) (hm : m (117 + 12 * s) 0 = nF n) (hn0 : 1 ≤ n) (hn : n ≤ 8) (hcp : m 3 1 = nF cp) (hcpl : cp ≤ 16) (hg : g < n) (h : n ≤ cp) (hr : rk n (fun i => cf n (fun z => m (117 + 12 * s + 2 + z)) (m (117 + 12 * s + 10)) (pbl n (fun z => m (117 + 12 * s + 2 + z))) (n - 1 - i)) = n) : Ct d k_X9_gainAnew S fz [.ref (1), .int (iI (((s : Nat) : Int))), .int (iI (((g : Nat) : Int)))] m p (fun v m' p' => ∃ x : Nat → F, v = some (.int (iI (vF (x g)))) ∧ (∀ i, i < n → dot n ((fun i => cf n (fun z => m (117 + 12 * s + 2 + z)) (m (117 + 12 * s + 10)) (pbl n (fun z => m (117 + 12 * s + 2 + z))) (n - 1 - i)) i) x = ask (m 4) n i - (pbl n (fun z => m (117 + 12 * s + 2 + z))) i) ∧ PI p' ∧ Fr (fun a_ => 7 ≤ a_ ∧ a_ < 117) m m') := by
  obtain ⟨d, rfl⟩ : ∃ e, d = e + 1 := ⟨d - 1, by omega⟩
  refine ct_go (lv := [some (.ref (1)), some (.int (iI (((s : Nat) : Int)))), some (.int (iI (((g : Nat) : Int)))), none]) (Nat.le_of_ble_eq_true rfl) (okar_cons rfl (okar_cons rfl (okar_cons rfl okar_nil))) rfl (fun Qr hQ => ?_)
  refine rw_blk lk_X9_gainAnew_0 ?_
  refine rw_of (fun rr hrr => q_aload_n rfl (q_iload_n rfl hrr)) ?_
  obtain ⟨_, mm1, pp2, hV3, rfl, rfl, rfl⟩ := c_X9_plantOf (S := S) (fz := fz) (m := m) (p := p) (d := d) (by omega) (s) (k) hP hk (by omega) (by omega)
  refine rw_of (fun rr hrr => q_invV hV3 (show SH 1 = (17, 0) from rfl) rfl rfl (okar_cons rfl okar_nil) (Nat.le_of_ble_eq_true rfl) (q_astore_n (Nat.le_of_ble_eq_true rfl) rfl (q_aload_n rfl (q_iload_n rfl hrr)))) ?_
  obtain ⟨_, mm4, pp5, hV6, rfl, rfl, rfl⟩ := c_X9_requirePlace (S := S) (fz := fz) (m := m) (p := p) (d := d) (by omega) (117 + 12 * s) (n) (((g : Nat) : Int)) hP (Or.inr ⟨s, by omega, rfl⟩) hm (by omega) (by omega)
  refine rw_of (fun rr hrr => q_invS hV6 rfl rfl (okar_cons rfl (okar_cons rfl okar_nil)) (Nat.le_of_ble_eq_true rfl) (q_aload_n rfl (q_aload_n rfl (q_getI (PI_pl hP (Or.inr ⟨s, by omega, rfl⟩)).1 rfl (ki rfl hm (by omega)) hrr)))) ?_
  obtain ⟨_, mm7, pp8, hV9, rfl, rfl, rfl⟩ := c_X9_requirePoles (S := S) (fz := fz) (m := m) (p := p) (d := d) (by omega) (n) (cp) hP hcp (by omega) (by omega)
  refine rw_of (fun rr hrr => q_invV hV9 (show SH 1 = (17, 0) from rfl) rfl rfl (okar_cons rfl okar_nil) (Nat.le_of_ble_eq_true rfl) (q_aload_n rfl (q_getR (show SH 1 = (17, 0) from rfl) rfl (pt_1_8 hP) (q_aload_n rfl hrr)))) ?_
  obtain ⟨_, mm10, pp11, hV12, rfl, hP12, hF12, hB12, hA12⟩ := c_X5_find (S := S) (fz := fz) (m := m) (p := p) (d := d) (by omega) (n) (117 + 12 * s) hP (Or.inr ⟨s, by omega, rfl⟩) (by omega) (by omega) hm
  refine rw_of (fun rr hrr => q_invV hV12 (show SH 35 = (14, 0) from rfl) rfl rfl (okar_cons rfl okar_nil) (Nat.le_of_ble_eq_true rfl) hrr) ?_
  have ef : ∀ z, ∀ i, i < n → cf n (fun z => mm10 (117 + 12 * s + 2 + z)) (mm10 (117 + 12 * s + 10)) (mm10 36) z i = cf n (fun z => m (117 + 12 * s + 2 + z)) (m (117 + 12 * s + 10)) (pbl n (fun z => m (117 + 12 * s + 2 + z))) z i := cf_congr (by omega) (fun i hi c hc => by rw [hF12 _ (by omega)]) (fun i hi => by rw [hF12 _ (by omega)]) (fun i hi => hB12 i (by omega))
  have er : rk n (fun i => cf n (fun z => mm10 (117 + 12 * s + 2 + z)) (mm10 (117 + 12 * s + 10)) (mm10 36) (n - 1 - i)) = rk n (fun i => cf n (fun z => m (117 + 12 * s + 2 + z)) (m (117 + 12 * s + 10)) (pbl n (fun z => m (117 + 12 * s + 2 + z))) (n - 1 - i)) := rk_congr (fun i hi c hc => ef _ c hc)
  refine rw_of (fun rr hrr => q_aload_n rfl (q_getR (show SH 1 = (17, 0) from rfl) rfl (pt_1_5 hP12) (q_aload_n rfl (q_aload_n rfl (q_getR (show SH 1 = (17, 0) from rfl) rfl (pt_1_8 hP12) (q_getR (show SH 35 = (14, 0) from rfl) rfl (pt_35_0 hP12) (q_aload_n rfl (q_getR (show SH 1 = (17, 0) from rfl) rfl (pt_1_2 hP12) (q_aload_n rfl (q_getR (show SH 1 = (17, 0) from rfl) rfl (pt_1_6 hP12) hrr)))))))))) ?_
  obtain ⟨_, mm13, pp14, hV15, x15, hP15, hF15, rfl, hv15⟩ := c_X3_byCoefficients1 (S := S) (fz := fz) (m := mm10) (p := pp11) (d := d) (by omega) (n) (117 + 12 * s) (33) hP12 (Or.inr ⟨s, by omega, rfl⟩) (by omega) (by omega) ((congrFun (hF12 (117 + 12 * s) (by show ¬ (36 ≤ (117 + 12 * s) ∧ (117 + 12 * s) < 57); omega)) 0).trans hm) (by omega) (er.trans hr)
  refine rw_of (fun rr hrr => q_invV hV15 (show SH 19 = (12, 0) from rfl) rfl rfl (okar_cons rfl (okar_cons rfl (okar_cons rfl (okar_cons rfl okar_nil)))) (Nat.le_of_ble_eq_true rfl) hrr) ?_
  refine rw_if_ne ⟨by omega, by omega⟩ (t := 63) rfl (fun hc16 => ?_) (fun hc16 => ?_)
  · skip
    refine rw_blk lk_X9_gainAnew_63 ?_
    refine rw_of (fun rr hrr => q_aload_n rfl (q_getR (show SH 1 = (17, 0) from rfl) rfl (pt_1_6 hP15) (q_iload_n rfl (q_iald (j := g) (show SH 33 = (1, 8) from rfl) rfl (by omega) rfl hrr)))) ?_
    refine rw_ret hQ (q_ireturn (Or.inl rfl)) ?_
    
    refine ⟨mm13 33, rfl, fun i hi => ?_, hP15, Fr_trans (Fr_mono hF12 (fun a ha => by omega)) (Fr_mono hF15 (fun a ha => by omega))⟩
    have h9 := (hv15 (mm13 33)).mpr (fun _ _ => rfl) i hi
    rw [hF12 4 (by omega), hB12 i (by omega)] at h9
    rw [← h9]
    exact dot_congr (fun c hc => (ef _ c hc).symm) (fun _ _ => rfl)
    
  · skip
    exfalso; omega
theorem t_X9_gainAnewR {d : Nat} {S : Env} {fz : Bool} {m : M1} {p : M2} (hd : 7 ≤ d) (s k n g cp : Nat) (hP : PI p) (hk : m 1 1 = nF k) (hk12 : k ≤ 12) (hsk : s < k) (hm : m (117 + 12 * s) 0 = nF n) (hn0 : 1 ≤ n) (hn : n ≤ 8) (hcp : m 3 1 = nF cp) (hcpl : cp ≤ 16) (hg : g < n) (h : n ≤ cp) (hr : rk n (fun i => cf n (fun z => m (117 + 12 * s + 2 + z)) (m (117 + 12 * s + 10)) (pbl n (fun z => m (117 + 12 * s + 2 + z))) (n - 1 - i)) ≠ n) : Tx d k_X9_gainAnew S fz [.ref (1), .int (iI (((s : Nat) : Int))), .int (iI (((g : Nat) : Int)))] m p 2 (fun m' p' => PI p' ∧ Fr (fun a_ => 7 ≤ a_ ∧ a_ < 117) m m') := by
  obtain ⟨d, rfl⟩ : ∃ e, d = e + 1 := ⟨d - 1, by omega⟩
  refine tx_go (lv := [some (.ref (1)), some (.int (iI (((s : Nat) : Int)))), some (.int (iI (((g : Nat) : Int)))), none]) (Nat.le_of_ble_eq_true rfl) (okar_cons rfl (okar_cons rfl (okar_cons rfl okar_nil))) (by decide) (by omega) rfl (fun Qr hQ => ?_)
  refine rw_blk lk_X9_gainAnew_0 ?_
  refine rw_of (fun rr hrr => q_aload_n rfl (q_iload_n rfl hrr)) ?_
  obtain ⟨_, mm1, pp2, hV3, rfl, rfl, rfl⟩ := c_X9_plantOf (S := S) (fz := fz) (m := m) (p := p) (d := d) (by omega) (s) (k) hP hk (by omega) (by omega)
  refine rw_of (fun rr hrr => q_invV hV3 (show SH 1 = (17, 0) from rfl) rfl rfl (okar_cons rfl okar_nil) (Nat.le_of_ble_eq_true rfl) (q_astore_n (Nat.le_of_ble_eq_true rfl) rfl (q_aload_n rfl (q_iload_n rfl hrr)))) ?_
  obtain ⟨_, mm4, pp5, hV6, rfl, rfl, rfl⟩ := c_X9_requirePlace (S := S) (fz := fz) (m := m) (p := p) (d := d) (by omega) (117 + 12 * s) (n) (((g : Nat) : Int)) hP (Or.inr ⟨s, by omega, rfl⟩) hm (by omega) (by omega)
  refine rw_of (fun rr hrr => q_invS hV6 rfl rfl (okar_cons rfl (okar_cons rfl okar_nil)) (Nat.le_of_ble_eq_true rfl) (q_aload_n rfl (q_aload_n rfl (q_getI (PI_pl hP (Or.inr ⟨s, by omega, rfl⟩)).1 rfl (ki rfl hm (by omega)) hrr)))) ?_
  obtain ⟨_, mm7, pp8, hV9, rfl, rfl, rfl⟩ := c_X9_requirePoles (S := S) (fz := fz) (m := m) (p := p) (d := d) (by omega) (n) (cp) hP hcp (by omega) (by omega)
  refine rw_of (fun rr hrr => q_invV hV9 (show SH 1 = (17, 0) from rfl) rfl rfl (okar_cons rfl okar_nil) (Nat.le_of_ble_eq_true rfl) (q_aload_n rfl (q_getR (show SH 1 = (17, 0) from rfl) rfl (pt_1_8 hP) (q_aload_n rfl hrr)))) ?_
  obtain ⟨_, mm10, pp11, hV12, rfl, hP12, hF12, hB12, hA12⟩ := c_X5_find (S := S) (fz := fz) (m := m) (p := p) (d := d) (by omega) (n) (117 + 12 * s) hP (Or.inr ⟨s, by omega, rfl⟩) (by omega) (by omega) hm
  refine rw_of (fun rr hrr => q_invV hV12 (show SH 35 = (14, 0) from rfl) rfl rfl (okar_cons rfl okar_nil) (Nat.le_of_ble_eq_true rfl) hrr) ?_
  have ef : ∀ z, ∀ i, i < n → cf n (fun z => mm10 (117 + 12 * s + 2 + z)) (mm10 (117 + 12 * s + 10)) (mm10 36) z i = cf n (fun z => m (117 + 12 * s + 2 + z)) (m (117 + 12 * s + 10)) (pbl n (fun z => m (117 + 12 * s + 2 + z))) z i := cf_congr (by omega) (fun i hi c hc => by rw [hF12 _ (by omega)]) (fun i hi => by rw [hF12 _ (by omega)]) (fun i hi => hB12 i (by omega))
  have er : rk n (fun i => cf n (fun z => mm10 (117 + 12 * s + 2 + z)) (mm10 (117 + 12 * s + 10)) (mm10 36) (n - 1 - i)) = rk n (fun i => cf n (fun z => m (117 + 12 * s + 2 + z)) (m (117 + 12 * s + 10)) (pbl n (fun z => m (117 + 12 * s + 2 + z))) (n - 1 - i)) := rk_congr (fun i hi c hc => ef _ c hc)
  refine rw_of (fun rr hrr => q_aload_n rfl (q_getR (show SH 1 = (17, 0) from rfl) rfl (pt_1_5 hP12) (q_aload_n rfl (q_aload_n rfl (q_getR (show SH 1 = (17, 0) from rfl) rfl (pt_1_8 hP12) (q_getR (show SH 35 = (14, 0) from rfl) rfl (pt_35_0 hP12) (q_aload_n rfl (q_getR (show SH 1 = (17, 0) from rfl) rfl (pt_1_2 hP12) (q_aload_n rfl (q_getR (show SH 1 = (17, 0) from rfl) rfl (pt_1_6 hP12) hrr)))))))))) ?_
  obtain ⟨_, mm13, pp14, hV15, x15, hP15, hF15, rfl⟩ := c_X3_byCoefficients0 (S := S) (fz := fz) (m := mm10) (p := pp11) (d := d) (by omega) (n) (117 + 12 * s) (33) hP12 (Or.inr ⟨s, by omega, rfl⟩) (by omega) (by omega) ((congrFun (hF12 (117 + 12 * s) (by show ¬ (36 ≤ (117 + 12 * s) ∧ (117 + 12 * s) < 57); omega)) 0).trans hm) (by omega) (er_ne er hr)
  refine rw_of (fun rr hrr => q_invV hV15 (show SH 19 = (12, 0) from rfl) rfl rfl (okar_cons rfl (okar_cons rfl (okar_cons rfl (okar_cons rfl okar_nil)))) (Nat.le_of_ble_eq_true rfl) hrr) ?_
  refine rw_if_ne ⟨by omega, by omega⟩ (t := 63) rfl (fun hc16 => ?_) (fun hc16 => ?_)
  · skip
    refine rw_blk lk_X9_gainAnew_63 ?_
    exfalso; omega
  · skip
    refine rw_end (q_throw (by decide) (by decide +kernel) rfl) ?_
    rw [hQ]
    refine ⟨_, _, rfl, ?_⟩
    exact ⟨hP15, Fr_trans (Fr_mono hF12 (fun a ha => by omega)) (Fr_mono hF15 (fun a ha => by omega))⟩
theorem t_X9_gainAnewP {d : Nat} {S : Env} {fz : Bool} {m : M1} {p : M2} (hd : 7 ≤ d) (s k n cp : Nat) (x : Int) (hP : PI p) (hk : m 1 1 = nF k) (hk12 : k ≤ 12) (hsk : s < k) (hm : m (117 + 12 * s) 0 = nF n) (hn0 : 1 ≤ n) (hn : n ≤ 8) (hcp : m 3 1 = nF cp) (hcpl : cp ≤ 16) (hrx : (-2147483648 ≤ x ∧ x < 2147483648)) (h : x < 0 ∨ n ≤ x) : Tx d k_X9_gainAnew S fz [.ref (1), .int (iI (((s : Nat) : Int))), .int (iI (x))] m p 0 (fun m' p' => m = m' ∧ p = p') := by
  obtain ⟨d, rfl⟩ : ∃ e, d = e + 1 := ⟨d - 1, by omega⟩
  refine tx_go (lv := [some (.ref (1)), some (.int (iI (((s : Nat) : Int)))), some (.int (iI (x))), none]) (Nat.le_of_ble_eq_true rfl) (okar_cons rfl (okar_cons rfl (okar_cons rfl okar_nil))) (by decide) (by omega) rfl (fun Qr hQ => ?_)
  refine rw_blk lk_X9_gainAnew_0 ?_
  refine rw_of (fun rr hrr => q_aload_n rfl (q_iload_n rfl hrr)) ?_
  obtain ⟨_, mm1, pp2, hV3, rfl, rfl, rfl⟩ := c_X9_plantOf (S := S) (fz := fz) (m := m) (p := p) (d := d) (by omega) (s) (k) hP hk (by omega) (by omega)
  refine rw_of (fun rr hrr => q_invV hV3 (show SH 1 = (17, 0) from rfl) rfl rfl (okar_cons rfl okar_nil) (Nat.le_of_ble_eq_true rfl) (q_astore_n (Nat.le_of_ble_eq_true rfl) rfl (q_aload_n rfl (q_iload_n rfl hrr)))) ?_
  obtain ⟨mm4, pp5, hV6, rfl, rfl⟩ := t_X9_requirePlace (S := S) (fz := fz) (m := m) (p := p) (d := d) (by omega) (117 + 12 * s) (n) (x) hP (Or.inr ⟨s, by omega, rfl⟩) hm (by omega) (by omega) (by omega)
  refine rw_end (q_invSx hV6 (by decide) rfl rfl (okar_cons rfl (okar_cons rfl okar_nil)) (Nat.le_of_ble_eq_true rfl)) ?_
  rw [hQ]
  refine ⟨_, _, rfl, ?_⟩
  exact ⟨rfl, rfl⟩
theorem t_X9_gainAnewC {d : Nat} {S : Env} {fz : Bool} {m : M1} {p : M2} (hd : 7 ≤ d) (s k n g cp : Nat) (hP : PI p) (hk : m 1 1 = nF k) (hk12 : k ≤ 12) (hsk : s < k) (hm : m (117 + 12 * s) 0 = nF n) (hn0 : 1 ≤ n) (hn : n ≤ 8) (hcp : m 3 1 = nF cp) (hcpl : cp ≤ 16) (hg : g < n) (h : cp < n) : Tx d k_X9_gainAnew S fz [.ref (1), .int (iI (((s : Nat) : Int))), .int (iI (((g : Nat) : Int)))] m p 2 (fun m' p' => m = m' ∧ p = p') := by
  obtain ⟨d, rfl⟩ : ∃ e, d = e + 1 := ⟨d - 1, by omega⟩
  refine tx_go (lv := [some (.ref (1)), some (.int (iI (((s : Nat) : Int)))), some (.int (iI (((g : Nat) : Int)))), none]) (Nat.le_of_ble_eq_true rfl) (okar_cons rfl (okar_cons rfl (okar_cons rfl okar_nil))) (by decide) (by omega) rfl (fun Qr hQ => ?_)
  refine rw_blk lk_X9_gainAnew_0 ?_
  refine rw_of (fun rr hrr => q_aload_n rfl (q_iload_n rfl hrr)) ?_
  obtain ⟨_, mm1, pp2, hV3, rfl, rfl, rfl⟩ := c_X9_plantOf (S := S) (fz := fz) (m := m) (p := p) (d := d) (by omega) (s) (k) hP hk (by omega) (by omega)
  refine rw_of (fun rr hrr => q_invV hV3 (show SH 1 = (17, 0) from rfl) rfl rfl (okar_cons rfl okar_nil) (Nat.le_of_ble_eq_true rfl) (q_astore_n (Nat.le_of_ble_eq_true rfl) rfl (q_aload_n rfl (q_iload_n rfl hrr)))) ?_
  obtain ⟨_, mm4, pp5, hV6, rfl, rfl, rfl⟩ := c_X9_requirePlace (S := S) (fz := fz) (m := m) (p := p) (d := d) (by omega) (117 + 12 * s) (n) (((g : Nat) : Int)) hP (Or.inr ⟨s, by omega, rfl⟩) hm (by omega) (by omega)
  refine rw_of (fun rr hrr => q_invS hV6 rfl rfl (okar_cons rfl (okar_cons rfl okar_nil)) (Nat.le_of_ble_eq_true rfl) (q_aload_n rfl (q_aload_n rfl (q_getI (PI_pl hP (Or.inr ⟨s, by omega, rfl⟩)).1 rfl (ki rfl hm (by omega)) hrr)))) ?_
  obtain ⟨mm7, pp8, hV9, rfl, rfl⟩ := t_X9_requirePoles (S := S) (fz := fz) (m := m) (p := p) (d := d) (by omega) (n) (cp) hP hcp (by omega) (by omega) (by omega)
  refine rw_end (q_invVx hV9 (by decide) (show SH 1 = (17, 0) from rfl) rfl rfl (okar_cons rfl okar_nil) (Nat.le_of_ble_eq_true rfl)) ?_
  rw [hQ]
  refine ⟨_, _, rfl, ?_⟩
  exact ⟨rfl, rfl⟩
