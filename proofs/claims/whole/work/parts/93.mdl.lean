theorem c_X10_outputAnew1 {d : Nat} {S : MC} {fz : Bool} {m : M1} {p : M2} (hd : 4 ≤ d) (s k n l ci : Nat) (hP : PI p) (hk : m 261 0 = nF k) (hk12 : k ≤ 12) (hsk : s < k) (hm : m 262 s = nF n) (hn0 : 1 ≤ n) (hn : n ≤ 8) (hci : m 261 8 = nF ci) (hcil : ci ≤ 20) (hl : l ≤ 40) : Ct d k_X10_outputAnew S fz [.ref (261), .int (iI (((s : Nat) : Int))), .int (iI (((l : Nat) : Int)))] m p (fun v m' p' => v = some (.int (iI (vF (dot n (fun z => m 265 (8 * s + z)) ((xs n (fun z w => m 263 (64 * s + 8 * z + w)) (fun z => m 264 (8 * s + z)) (uu (m 268) ci)) l) + m 266 s * (uu (m 268) ci) l)))) ∧ p = p' ∧ QMx 0 m m') := by
  obtain ⟨d, rfl⟩ : ∃ e, d = e + 1 := ⟨d - 1, by omega⟩
  refine ct_go (lv := [some (.ref (261)), some (.int (iI (((s : Nat) : Int)))), some (.int (iI (((l : Nat) : Int))))]) (Nat.le_of_ble_eq_true rfl) (okar_cons rfl (okar_cons rfl (okar_cons rfl okar_nil))) rfl (fun Qr hQ => ?_)
  refine rw_blk lk_X10_outputAnew_0 ?_
  refine rw_of (fun rr hrr => q_aload_n rfl (q_iload_n rfl (q_iload_n rfl hrr))) ?_
  obtain ⟨_, mm1, pp2, hV3, rfl, rfl, hq3⟩ := c_X10_output1 (S := S) (fz := fz) (m := m) (p := p) (d := d) (by omega) (s) (k) (n) (l) (ci) hP hk (by omega) (by omega) hm (by omega) (by omega) hci (by omega) (by omega)
  refine rw_of (fun rr hrr => q_invV hV3 (show SH 261 = (18, 0) from rfl) rfl rfl (okar_cons rfl (okar_cons rfl okar_nil)) (Nat.le_of_ble_eq_true rfl) hrr) ?_
  exact rw_ret hQ (q_ireturn (Or.inl rfl)) (by exact ⟨rfl, rfl, hq3⟩)
theorem c_X10_outputAnewS {d : Nat} {S : MC} {fz : Bool} {m : M1} {p : M2} (hd : 4 ≤ d) (s x : Int) (k : Nat) (hP : PI p) (hk : m 261 0 = nF k) (hk12 : k ≤ 12) (hr : (-2147483648 ≤ s ∧ s < 2147483648)) (h : ¬ (0 ≤ s ∧ s < k)) : Ct d k_X10_outputAnew S fz [.ref (261), .int (iI (s)), .int (iI (x))] m p (fun v m' p' => v = some (.int (iI (0))) ∧ p = p' ∧ QMx 1 m m') := by
  obtain ⟨d, rfl⟩ : ∃ e, d = e + 1 := ⟨d - 1, by omega⟩
  refine ct_go (lv := [some (.ref (261)), some (.int (iI (s))), some (.int (iI (x)))]) (Nat.le_of_ble_eq_true rfl) (okar_cons rfl (okar_cons rfl (okar_cons rfl okar_nil))) rfl (fun Qr hQ => ?_)
  refine rw_blk lk_X10_outputAnew_0 ?_
  refine rw_of (fun rr hrr => q_aload_n rfl (q_iload_n rfl (q_iload_n rfl hrr))) ?_
  obtain ⟨_, mm1, pp2, hV3, rfl, rfl, hq3⟩ := c_X10_outputS (S := S) (fz := fz) (m := m) (p := p) (d := d) (by omega) (s) (x) (k) hP hk (by omega) (by omega) (h)
  refine rw_of (fun rr hrr => q_invV hV3 (show SH 261 = (18, 0) from rfl) rfl rfl (okar_cons rfl (okar_cons rfl okar_nil)) (Nat.le_of_ble_eq_true rfl) hrr) ?_
  exact rw_ret hQ (q_ireturn (Or.inl rfl)) (by exact ⟨rfl, rfl, hq3⟩)
theorem c_X10_outputAnewK {d : Nat} {S : MC} {fz : Bool} {m : M1} {p : M2} (hd : 4 ≤ d) (s k n : Nat) (x : Int) (hP : PI p) (hk : m 261 0 = nF k) (hk12 : k ≤ 12) (hsk : s < k) (hm : m 262 s = nF n) (hn0 : 1 ≤ n) (hn : n ≤ 8) (hr : (-2147483648 ≤ x ∧ x < 2147483648)) (h : x < 0 ∨ 40 < x) : Ct d k_X10_outputAnew S fz [.ref (261), .int (iI (((s : Nat) : Int))), .int (iI (x))] m p (fun v m' p' => v = some (.int (iI (0))) ∧ p = p' ∧ QMx 2 m m') := by
  obtain ⟨d, rfl⟩ : ∃ e, d = e + 1 := ⟨d - 1, by omega⟩
  refine ct_go (lv := [some (.ref (261)), some (.int (iI (((s : Nat) : Int)))), some (.int (iI (x)))]) (Nat.le_of_ble_eq_true rfl) (okar_cons rfl (okar_cons rfl (okar_cons rfl okar_nil))) rfl (fun Qr hQ => ?_)
  refine rw_blk lk_X10_outputAnew_0 ?_
  refine rw_of (fun rr hrr => q_aload_n rfl (q_iload_n rfl (q_iload_n rfl hrr))) ?_
  obtain ⟨_, mm1, pp2, hV3, rfl, rfl, hq3⟩ := c_X10_outputK (S := S) (fz := fz) (m := m) (p := p) (d := d) (by omega) (s) (k) (n) (x) hP hk (by omega) (by omega) hm (by omega) (by omega) (by omega) (by omega)
  refine rw_of (fun rr hrr => q_invV hV3 (show SH 261 = (18, 0) from rfl) rfl rfl (okar_cons rfl (okar_cons rfl okar_nil)) (Nat.le_of_ble_eq_true rfl) hrr) ?_
  exact rw_ret hQ (q_ireturn (Or.inl rfl)) (by exact ⟨rfl, rfl, hq3⟩)
theorem c_X10_gain1 {d : Nat} {S : MC} {fz : Bool} {m : M1} {p : M2} (hd : 7 ≤ d) (s k n g cp : Nat) (hP : PI p) (hk : m 261 0 = nF k) (hk12 : k ≤ 12) (hsk : s < k) (hm : m 262 s = nF n) (hn0 : 1 ≤ n) (hn : n ≤ 8) (hcp : m 261 6 = nF cp) (hcpl : cp ≤ 16) (hg : g < n) (h : n ≤ cp ∧ rk n (kr n (fun z w => m 263 (64 * s + 8 * z + w)) (fun z => m 264 (8 * s + z))) = n) : Ct d k_X10_gain S fz [.ref (261), .int (iI (((s : Nat) : Int))), .int (iI (((g : Nat) : Int)))] m p (fun v m' p' => ∃ x, v = some (.int (iI (vF (av n (fun z w => m 263 (64 * s + 8 * z + w)) (fun z => m 267 (0 + z)) x n g)))) ∧ p = p' ∧ QMx 0 m m' ∧ ∀ i, i < n → dot n ((kr n (fun z w => m 263 (64 * s + 8 * z + w)) (fun z => m 264 (8 * s + z))) i) x = if i + 1 = n then 1 else 0) := by
  obtain ⟨d, rfl⟩ : ∃ e, d = e + 1 := ⟨d - 1, by omega⟩
  refine ct_go (lv := [some (.ref (261)), some (.int (iI (((s : Nat) : Int)))), some (.int (iI (((g : Nat) : Int)))), none]) (Nat.le_of_ble_eq_true rfl) (okar_cons rfl (okar_cons rfl (okar_cons rfl okar_nil))) rfl (fun Qr hQ => ?_)
  refine rw_blk lk_X10_gain_0 ?_
  refine rw_of (fun rr hrr => q_aload_n rfl (q_iload_n rfl (q_iload_n rfl hrr))) ?_
  obtain ⟨_, mm1, pp2, hV3, rfl, rfl, rfl⟩ := c_X10_misses0 (S := S) (fz := fz) (m := m) (p := p) (d := d) (by omega) (s) (k) (n) (((g : Nat) : Int)) hP hk (by omega) (by omega) hm (by omega) (by omega) (by omega) (by omega)
  refine rw_of (fun rr hrr => q_invV hV3 (show SH 261 = (18, 0) from rfl) rfl rfl (okar_cons rfl (okar_cons rfl okar_nil)) (Nat.le_of_ble_eq_true rfl) (q_istore_n (Nat.le_of_ble_eq_true rfl) rfl (q_aload_n rfl (q_iload_n rfl hrr)))) ?_
  refine rw_if_le ⟨by omega, by omega⟩ (t := 16) rfl (fun hc4 => ?_) (fun hc4 => ?_)
  · skip
    refine rw_blk lk_X10_gain_16 ?_
    refine rw_of (fun rr hrr => q_aload_n rfl (q_iload_n rfl hrr)) ?_
    obtain ⟨_, mm5, pp6, hV7, rfl, rfl, hF7⟩ := c_X10_canPlace1 (S := S) (fz := fz) (m := m) (p := p) (d := d) (by omega) (s) (n) (cp) hP hm (by omega) (by omega) (by omega) hcp (by omega) (h)
    refine rw_of (fun rr hrr => q_invV hV7 (show SH 261 = (18, 0) from rfl) rfl rfl (okar_cons rfl okar_nil) (Nat.le_of_ble_eq_true rfl) hrr) ?_
    refine rw_if_eq ⟨by omega, by omega⟩ (t := 28) rfl (fun hc8 => ?_) (fun hc8 => ?_)
    · exfalso; omega
    · skip
      refine rw_of (fun rr hrr => q_iconst (q_goto (t := 29) rfl hrr)) ?_
      refine rw_blk lk_X10_gain_29 ?_
      obtain ⟨_, mm9, pp10, hV11, rfl, rfl, hw11, hF11⟩ := c_X10_fails0 (S := S) (fz := fz) (m := mm5) (p := p) (d := d) (by omega) hP
      refine rw_of (fun rr hrr => q_invV hV11 (show SH 261 = (18, 0) from rfl) rfl rfl (okar_cons rfl okar_nil) (Nat.le_of_ble_eq_true rfl) hrr) ?_
      refine rw_if_eq ⟨by omega, by omega⟩ (t := 37) rfl (fun hc12 => ?_) (fun hc12 => ?_)
      · skip
        refine rw_blk lk_X10_gain_37 ?_
        refine rw_of (fun rr hrr => q_aload_n rfl (q_iload_n rfl (q_iconst (q_iconst hrr)))) ?_
        obtain ⟨_, mm13, pp14, hV15, x15, rfl, rfl, hF15, hx15, hv15⟩ := c_X10_places0 (S := S) (fz := fz) (m := mm9) (p := p) (d := d) (by omega) (s) (n) (0) hP ((congrFun ((kw hw11 (by omega)).trans (hF7 262 (by show ¬ (271 ≤ 262 ∧ 262 < 274); omega))) s).trans hm) (by omega) (by omega) (by omega) (by omega) (by rw [hF11 263 (by omega), hF7 263 (by omega)]; rw [hF11 264 (by omega), hF7 264 (by omega)]; exact h.2)
        refine rw_of (fun rr hrr => q_invV hV15 (show SH 261 = (18, 0) from rfl) rfl rfl (okar_cons rfl (okar_cons rfl (okar_cons rfl okar_nil))) (Nat.le_of_ble_eq_true rfl) (q_aload_n rfl (q_getR (show SH 261 = (18, 0) from rfl) rfl (pt_261_16 hP) (q_iload_n rfl (q_iald (j := g) (show SH 275 = (1, 8) from rfl) rfl (by omega) rfl hrr))))) ?_
        refine rw_ret hQ (q_ireturn (Or.inl rfl)) ?_
        
        have e1 : mm9 263 = m 263 := (hF11 263 (by omega)).trans (hF7 263 (by omega))
        have e2 : mm9 264 = m 264 := (hF11 264 (by omega)).trans (hF7 264 (by omega))
        have e3 : mm9 267 = m 267 := (hF11 267 (by omega)).trans (hF7 267 (by omega))
        have hx9 := hx15
        have hv9 := hv15 g hg
        rw [e1, e2] at hx9
        rw [e1, e3] at hv9
        exact ⟨x15, lvI (congrArg vF hv9), rfl, QMx_pre hF7 (fun a ha => by omega) (QMx_fr (QMx_w hw11 rfl) hF15 (fun a ha => by omega)), hx9⟩
        
      · exfalso; omega
  · exfalso; omega
theorem c_X10_gainS {d : Nat} {S : MC} {fz : Bool} {m : M1} {p : M2} (hd : 7 ≤ d) (s x : Int) (k : Nat) (hP : PI p) (hk : m 261 0 = nF k) (hk12 : k ≤ 12) (hr : (-2147483648 ≤ s ∧ s < 2147483648)) (h : ¬ (0 ≤ s ∧ s < k)) : Ct d k_X10_gain S fz [.ref (261), .int (iI (s)), .int (iI (x))] m p (fun v m' p' => v = some (.int (iI (0))) ∧ p = p' ∧ QMx 1 m m') := by
  obtain ⟨d, rfl⟩ : ∃ e, d = e + 1 := ⟨d - 1, by omega⟩
  refine ct_go (lv := [some (.ref (261)), some (.int (iI (s))), some (.int (iI (x))), none]) (Nat.le_of_ble_eq_true rfl) (okar_cons rfl (okar_cons rfl (okar_cons rfl okar_nil))) rfl (fun Qr hQ => ?_)
  refine rw_blk lk_X10_gain_0 ?_
  refine rw_of (fun rr hrr => q_aload_n rfl (q_iload_n rfl (q_iload_n rfl hrr))) ?_
  obtain ⟨_, mm1, pp2, hV3, rfl, rfl, rfl⟩ := c_X10_missesS (S := S) (fz := fz) (m := m) (p := p) (d := d) (by omega) (s) (k) (x) hP hk (by omega) (by omega) (h)
  refine rw_of (fun rr hrr => q_invV hV3 (show SH 261 = (18, 0) from rfl) rfl rfl (okar_cons rfl (okar_cons rfl okar_nil)) (Nat.le_of_ble_eq_true rfl) (q_istore_n (Nat.le_of_ble_eq_true rfl) rfl (q_aload_n rfl (q_iload_n rfl hrr)))) ?_
  refine rw_if_le ⟨by omega, by omega⟩ (t := 16) rfl (fun hc4 => ?_) (fun hc4 => ?_)
  · exfalso; omega
  · skip
    refine rw_of (fun rr hrr => q_iload_n rfl (q_goto (t := 29) rfl hrr)) ?_
    refine rw_blk lk_X10_gain_29 ?_
    obtain ⟨_, mm5, pp6, hV7, rfl, rfl, hw7, hF7⟩ := c_X10_fails1 (S := S) (fz := fz) (m := m) (p := p) (d := d) (by omega) (1) hP (by omega)
    refine rw_of (fun rr hrr => q_invV hV7 (show SH 261 = (18, 0) from rfl) rfl rfl (okar_cons rfl okar_nil) (Nat.le_of_ble_eq_true rfl) hrr) ?_
    refine rw_if_eq ⟨by omega, by omega⟩ (t := 37) rfl (fun hc8 => ?_) (fun hc8 => ?_)
    · exfalso; omega
    · skip
      refine rw_of (fun rr hrr => q_iconst hrr) ?_
      refine rw_ret hQ (q_ireturn (Or.inl rfl)) ?_
      first
        | exact ⟨rfl, rfl, QMx_w hw7 rfl⟩
        | (exfalso; omega)
      
theorem c_X10_gainP {d : Nat} {S : MC} {fz : Bool} {m : M1} {p : M2} (hd : 7 ≤ d) (s k n : Nat) (x : Int) (hP : PI p) (hk : m 261 0 = nF k) (hk12 : k ≤ 12) (hsk : s < k) (hm : m 262 s = nF n) (hn0 : 1 ≤ n) (hn : n ≤ 8) (hr : (-2147483648 ≤ x ∧ x < 2147483648)) (h : x < 0 ∨ n ≤ x) : Ct d k_X10_gain S fz [.ref (261), .int (iI (((s : Nat) : Int))), .int (iI (x))] m p (fun v m' p' => v = some (.int (iI (0))) ∧ p = p' ∧ QMx 1 m m') := by
  obtain ⟨d, rfl⟩ : ∃ e, d = e + 1 := ⟨d - 1, by omega⟩
  refine ct_go (lv := [some (.ref (261)), some (.int (iI (((s : Nat) : Int)))), some (.int (iI (x))), none]) (Nat.le_of_ble_eq_true rfl) (okar_cons rfl (okar_cons rfl (okar_cons rfl okar_nil))) rfl (fun Qr hQ => ?_)
  refine rw_blk lk_X10_gain_0 ?_
  refine rw_of (fun rr hrr => q_aload_n rfl (q_iload_n rfl (q_iload_n rfl hrr))) ?_
  obtain ⟨_, mm1, pp2, hV3, rfl, rfl, rfl⟩ := c_X10_misses1 (S := S) (fz := fz) (m := m) (p := p) (d := d) (by omega) (s) (k) (n) (x) hP hk (by omega) (by omega) hm (by omega) (by omega) (by omega) (by omega)
  refine rw_of (fun rr hrr => q_invV hV3 (show SH 261 = (18, 0) from rfl) rfl rfl (okar_cons rfl (okar_cons rfl okar_nil)) (Nat.le_of_ble_eq_true rfl) (q_istore_n (Nat.le_of_ble_eq_true rfl) rfl (q_aload_n rfl (q_iload_n rfl hrr)))) ?_
  refine rw_if_le ⟨by omega, by omega⟩ (t := 16) rfl (fun hc4 => ?_) (fun hc4 => ?_)
  · exfalso; omega
  · skip
    refine rw_of (fun rr hrr => q_iload_n rfl (q_goto (t := 29) rfl hrr)) ?_
    refine rw_blk lk_X10_gain_29 ?_
    obtain ⟨_, mm5, pp6, hV7, rfl, rfl, hw7, hF7⟩ := c_X10_fails1 (S := S) (fz := fz) (m := m) (p := p) (d := d) (by omega) (1) hP (by omega)
    refine rw_of (fun rr hrr => q_invV hV7 (show SH 261 = (18, 0) from rfl) rfl rfl (okar_cons rfl okar_nil) (Nat.le_of_ble_eq_true rfl) hrr) ?_
    refine rw_if_eq ⟨by omega, by omega⟩ (t := 37) rfl (fun hc8 => ?_) (fun hc8 => ?_)
    · exfalso; omega
    · skip
      refine rw_of (fun rr hrr => q_iconst hrr) ?_
      refine rw_ret hQ (q_ireturn (Or.inl rfl)) ?_
      first
        | exact ⟨rfl, rfl, QMx_w hw7 rfl⟩
        | (exfalso; omega)
      
theorem c_X10_gainC {d : Nat} {S : MC} {fz : Bool} {m : M1} {p : M2} (hd : 7 ≤ d) (s k n g cp : Nat) (hP : PI p) (hk : m 261 0 = nF k) (hk12 : k ≤ 12) (hsk : s < k) (hm : m 262 s = nF n) (hn0 : 1 ≤ n) (hn : n ≤ 8) (hcp : m 261 6 = nF cp) (hcpl : cp ≤ 16) (hg : g < n) (h : cp < n ∨ rk n (kr n (fun z w => m 263 (64 * s + 8 * z + w)) (fun z => m 264 (8 * s + z))) ≠ n) : Ct d k_X10_gain S fz [.ref (261), .int (iI (((s : Nat) : Int))), .int (iI (((g : Nat) : Int)))] m p (fun v m' p' => v = some (.int (iI (0))) ∧ p = p' ∧ QMx 2 m m') := by
  obtain ⟨d, rfl⟩ : ∃ e, d = e + 1 := ⟨d - 1, by omega⟩
  refine ct_go (lv := [some (.ref (261)), some (.int (iI (((s : Nat) : Int)))), some (.int (iI (((g : Nat) : Int)))), none]) (Nat.le_of_ble_eq_true rfl) (okar_cons rfl (okar_cons rfl (okar_cons rfl okar_nil))) rfl (fun Qr hQ => ?_)
  refine rw_blk lk_X10_gain_0 ?_
  refine rw_of (fun rr hrr => q_aload_n rfl (q_iload_n rfl (q_iload_n rfl hrr))) ?_
  obtain ⟨_, mm1, pp2, hV3, rfl, rfl, rfl⟩ := c_X10_misses0 (S := S) (fz := fz) (m := m) (p := p) (d := d) (by omega) (s) (k) (n) (((g : Nat) : Int)) hP hk (by omega) (by omega) hm (by omega) (by omega) (by omega) (by omega)
  refine rw_of (fun rr hrr => q_invV hV3 (show SH 261 = (18, 0) from rfl) rfl rfl (okar_cons rfl (okar_cons rfl okar_nil)) (Nat.le_of_ble_eq_true rfl) (q_istore_n (Nat.le_of_ble_eq_true rfl) rfl (q_aload_n rfl (q_iload_n rfl hrr)))) ?_
  refine rw_if_le ⟨by omega, by omega⟩ (t := 16) rfl (fun hc4 => ?_) (fun hc4 => ?_)
  · skip
    refine rw_blk lk_X10_gain_16 ?_
    refine rw_of (fun rr hrr => q_aload_n rfl (q_iload_n rfl hrr)) ?_
    obtain ⟨_, mm5, pp6, hV7, rfl, rfl, hF7⟩ := c_X10_canPlace0 (S := S) (fz := fz) (m := m) (p := p) (d := d) (by omega) (s) (n) (cp) hP hm (by omega) (by omega) (by omega) hcp (by omega) (h)
    refine rw_of (fun rr hrr => q_invV hV7 (show SH 261 = (18, 0) from rfl) rfl rfl (okar_cons rfl okar_nil) (Nat.le_of_ble_eq_true rfl) hrr) ?_
    refine rw_if_eq ⟨by omega, by omega⟩ (t := 28) rfl (fun hc8 => ?_) (fun hc8 => ?_)
    · skip
      refine rw_blk lk_X10_gain_28 ?_
      refine rw_of (fun rr hrr => q_iconst hrr) ?_
      refine rw_blk lk_X10_gain_29 ?_
      obtain ⟨_, mm9, pp10, hV11, rfl, rfl, hw11, hF11⟩ := c_X10_fails1 (S := S) (fz := fz) (m := mm5) (p := p) (d := d) (by omega) (2) hP (by omega)
      refine rw_of (fun rr hrr => q_invV hV11 (show SH 261 = (18, 0) from rfl) rfl rfl (okar_cons rfl okar_nil) (Nat.le_of_ble_eq_true rfl) hrr) ?_
      refine rw_if_eq ⟨by omega, by omega⟩ (t := 37) rfl (fun hc12 => ?_) (fun hc12 => ?_)
      · exfalso; omega
      · skip
        refine rw_of (fun rr hrr => q_iconst hrr) ?_
        exact rw_ret hQ (q_ireturn (Or.inl rfl)) (by exact ⟨rfl, rfl, QMx_pre hF7 (fun a ha => by omega) (QMx_w hw11 rfl)⟩)
    · exfalso; omega
  · exfalso; omega
theorem c_X10_observer1 {d : Nat} {S : MC} {fz : Bool} {m : M1} {p : M2} (hd : 7 ≤ d) (s k n g cp : Nat) (hP : PI p) (hk : m 261 0 = nF k) (hk12 : k ≤ 12) (hsk : s < k) (hm : m 262 s = nF n) (hn0 : 1 ≤ n) (hn : n ≤ 8) (hcp : m 261 6 = nF cp) (hcpl : cp ≤ 16) (hg : g < n) (h : 2 * n ≤ cp ∧ rk n (kr n (fun z w => m 263 (64 * s + 8 * w + z)) (fun z => m 265 (8 * s + z))) = n) : Ct d k_X10_observer S fz [.ref (261), .int (iI (((s : Nat) : Int))), .int (iI (((g : Nat) : Int)))] m p (fun v m' p' => ∃ x, v = some (.int (iI (vF (av n (fun z w => m 263 (64 * s + 8 * w + z)) (fun z => m 267 (n + z)) x n g)))) ∧ p = p' ∧ QMx 0 m m' ∧ ∀ i, i < n → dot n ((kr n (fun z w => m 263 (64 * s + 8 * w + z)) (fun z => m 265 (8 * s + z))) i) x = if i + 1 = n then 1 else 0) := by
  obtain ⟨d, rfl⟩ : ∃ e, d = e + 1 := ⟨d - 1, by omega⟩
  refine ct_go (lv := [some (.ref (261)), some (.int (iI (((s : Nat) : Int)))), some (.int (iI (((g : Nat) : Int)))), none]) (Nat.le_of_ble_eq_true rfl) (okar_cons rfl (okar_cons rfl (okar_cons rfl okar_nil))) rfl (fun Qr hQ => ?_)
  refine rw_blk lk_X10_observer_0 ?_
  refine rw_of (fun rr hrr => q_aload_n rfl (q_iload_n rfl (q_iload_n rfl hrr))) ?_
  obtain ⟨_, mm1, pp2, hV3, rfl, rfl, rfl⟩ := c_X10_misses0 (S := S) (fz := fz) (m := m) (p := p) (d := d) (by omega) (s) (k) (n) (((g : Nat) : Int)) hP hk (by omega) (by omega) hm (by omega) (by omega) (by omega) (by omega)
  refine rw_of (fun rr hrr => q_invV hV3 (show SH 261 = (18, 0) from rfl) rfl rfl (okar_cons rfl (okar_cons rfl okar_nil)) (Nat.le_of_ble_eq_true rfl) (q_istore_n (Nat.le_of_ble_eq_true rfl) rfl (q_aload_n rfl (q_iload_n rfl hrr)))) ?_
  refine rw_if_le ⟨by omega, by omega⟩ (t := 16) rfl (fun hc4 => ?_) (fun hc4 => ?_)
  · skip
    refine rw_blk lk_X10_observer_16 ?_
    refine rw_of (fun rr hrr => q_aload_n rfl (q_iload_n rfl hrr)) ?_
    obtain ⟨_, mm5, pp6, hV7, rfl, rfl, hF7⟩ := c_X10_canSee1 (S := S) (fz := fz) (m := m) (p := p) (d := d) (by omega) (s) (n) (cp) hP hm (by omega) (by omega) (by omega) hcp (by omega) (h)
    refine rw_of (fun rr hrr => q_invV hV7 (show SH 261 = (18, 0) from rfl) rfl rfl (okar_cons rfl okar_nil) (Nat.le_of_ble_eq_true rfl) hrr) ?_
    refine rw_if_eq ⟨by omega, by omega⟩ (t := 28) rfl (fun hc8 => ?_) (fun hc8 => ?_)
    · exfalso; omega
    · skip
      refine rw_of (fun rr hrr => q_iconst (q_goto (t := 29) rfl hrr)) ?_
      refine rw_blk lk_X10_observer_29 ?_
      obtain ⟨_, mm9, pp10, hV11, rfl, rfl, hw11, hF11⟩ := c_X10_fails0 (S := S) (fz := fz) (m := mm5) (p := p) (d := d) (by omega) hP
      refine rw_of (fun rr hrr => q_invV hV11 (show SH 261 = (18, 0) from rfl) rfl rfl (okar_cons rfl okar_nil) (Nat.le_of_ble_eq_true rfl) hrr) ?_
      refine rw_if_eq ⟨by omega, by omega⟩ (t := 37) rfl (fun hc12 => ?_) (fun hc12 => ?_)
      · skip
        refine rw_blk lk_X10_observer_37 ?_
        refine rw_of (fun rr hrr => q_aload_n rfl (q_iload_n rfl (q_iconst (q_aload_n rfl (q_getR (show SH 261 = (18, 0) from rfl) rfl (pt_261_1 hP) (q_iload_n rfl (q_iald (j := s) (show SH 262 = (1, 13) from rfl) rfl (by omega) (ki ((kw hw11 (by omega)).trans (hF7 262 (by show ¬ (271 ≤ 262 ∧ 262 < 274); omega))) hm (by omega)) hrr))))))) ?_
        obtain ⟨_, mm13, pp14, hV15, x15, rfl, rfl, hF15, hx15, hv15⟩ := c_X10_places1 (S := S) (fz := fz) (m := mm9) (p := p) (d := d) (by omega) (s) (n) (n) hP ((congrFun ((kw hw11 (by omega)).trans (hF7 262 (by show ¬ (271 ≤ 262 ∧ 262 < 274); omega))) s).trans hm) (by omega) (by omega) (by omega) (by omega) (by rw [hF11 263 (by omega), hF7 263 (by omega)]; rw [hF11 265 (by omega), hF7 265 (by omega)]; exact h.2)
        refine rw_of (fun rr hrr => q_invV hV15 (show SH 261 = (18, 0) from rfl) rfl rfl (okar_cons rfl (okar_cons rfl (okar_cons rfl okar_nil))) (Nat.le_of_ble_eq_true rfl) (q_aload_n rfl (q_getR (show SH 261 = (18, 0) from rfl) rfl (pt_261_16 hP) (q_iload_n rfl (q_iald (j := g) (show SH 275 = (1, 8) from rfl) rfl (by omega) rfl hrr))))) ?_
        refine rw_ret hQ (q_ireturn (Or.inl rfl)) ?_
        
        have e1 : mm9 263 = m 263 := (hF11 263 (by omega)).trans (hF7 263 (by omega))
        have e2 : mm9 265 = m 265 := (hF11 265 (by omega)).trans (hF7 265 (by omega))
        have e3 : mm9 267 = m 267 := (hF11 267 (by omega)).trans (hF7 267 (by omega))
        have hx9 := hx15
        have hv9 := hv15 g hg
        rw [e1, e2] at hx9
        rw [e1, e3] at hv9
        exact ⟨x15, lvI (congrArg vF hv9), rfl, QMx_pre hF7 (fun a ha => by omega) (QMx_fr (QMx_w hw11 rfl) hF15 (fun a ha => by omega)), hx9⟩
        
      · exfalso; omega
  · exfalso; omega
theorem c_X10_observerS {d : Nat} {S : MC} {fz : Bool} {m : M1} {p : M2} (hd : 7 ≤ d) (s x : Int) (k : Nat) (hP : PI p) (hk : m 261 0 = nF k) (hk12 : k ≤ 12) (hr : (-2147483648 ≤ s ∧ s < 2147483648)) (h : ¬ (0 ≤ s ∧ s < k)) : Ct d k_X10_observer S fz [.ref (261), .int (iI (s)), .int (iI (x))] m p (fun v m' p' => v = some (.int (iI (0))) ∧ p = p' ∧ QMx 1 m m') := by
  obtain ⟨d, rfl⟩ : ∃ e, d = e + 1 := ⟨d - 1, by omega⟩
  refine ct_go (lv := [some (.ref (261)), some (.int (iI (s))), some (.int (iI (x))), none]) (Nat.le_of_ble_eq_true rfl) (okar_cons rfl (okar_cons rfl (okar_cons rfl okar_nil))) rfl (fun Qr hQ => ?_)
  refine rw_blk lk_X10_observer_0 ?_
  refine rw_of (fun rr hrr => q_aload_n rfl (q_iload_n rfl (q_iload_n rfl hrr))) ?_
  obtain ⟨_, mm1, pp2, hV3, rfl, rfl, rfl⟩ := c_X10_missesS (S := S) (fz := fz) (m := m) (p := p) (d := d) (by omega) (s) (k) (x) hP hk (by omega) (by omega) (h)
  refine rw_of (fun rr hrr => q_invV hV3 (show SH 261 = (18, 0) from rfl) rfl rfl (okar_cons rfl (okar_cons rfl okar_nil)) (Nat.le_of_ble_eq_true rfl) (q_istore_n (Nat.le_of_ble_eq_true rfl) rfl (q_aload_n rfl (q_iload_n rfl hrr)))) ?_
  refine rw_if_le ⟨by omega, by omega⟩ (t := 16) rfl (fun hc4 => ?_) (fun hc4 => ?_)
  · exfalso; omega
  · skip
    refine rw_of (fun rr hrr => q_iload_n rfl (q_goto (t := 29) rfl hrr)) ?_
    refine rw_blk lk_X10_observer_29 ?_
    obtain ⟨_, mm5, pp6, hV7, rfl, rfl, hw7, hF7⟩ := c_X10_fails1 (S := S) (fz := fz) (m := m) (p := p) (d := d) (by omega) (1) hP (by omega)
    refine rw_of (fun rr hrr => q_invV hV7 (show SH 261 = (18, 0) from rfl) rfl rfl (okar_cons rfl okar_nil) (Nat.le_of_ble_eq_true rfl) hrr) ?_
    refine rw_if_eq ⟨by omega, by omega⟩ (t := 37) rfl (fun hc8 => ?_) (fun hc8 => ?_)
    · exfalso; omega
    · skip
      refine rw_of (fun rr hrr => q_iconst hrr) ?_
      refine rw_ret hQ (q_ireturn (Or.inl rfl)) ?_
      first
        | exact ⟨rfl, rfl, QMx_w hw7 rfl⟩
        | (exfalso; omega)
      
theorem c_X10_observerP {d : Nat} {S : MC} {fz : Bool} {m : M1} {p : M2} (hd : 7 ≤ d) (s k n : Nat) (x : Int) (hP : PI p) (hk : m 261 0 = nF k) (hk12 : k ≤ 12) (hsk : s < k) (hm : m 262 s = nF n) (hn0 : 1 ≤ n) (hn : n ≤ 8) (hr : (-2147483648 ≤ x ∧ x < 2147483648)) (h : x < 0 ∨ n ≤ x) : Ct d k_X10_observer S fz [.ref (261), .int (iI (((s : Nat) : Int))), .int (iI (x))] m p (fun v m' p' => v = some (.int (iI (0))) ∧ p = p' ∧ QMx 1 m m') := by
  obtain ⟨d, rfl⟩ : ∃ e, d = e + 1 := ⟨d - 1, by omega⟩
  refine ct_go (lv := [some (.ref (261)), some (.int (iI (((s : Nat) : Int)))), some (.int (iI (x))), none]) (Nat.le_of_ble_eq_true rfl) (okar_cons rfl (okar_cons rfl (okar_cons rfl okar_nil))) rfl (fun Qr hQ => ?_)
  refine rw_blk lk_X10_observer_0 ?_
  refine rw_of (fun rr hrr => q_aload_n rfl (q_iload_n rfl (q_iload_n rfl hrr))) ?_
  obtain ⟨_, mm1, pp2, hV3, rfl, rfl, rfl⟩ := c_X10_misses1 (S := S) (fz := fz) (m := m) (p := p) (d := d) (by omega) (s) (k) (n) (x) hP hk (by omega) (by omega) hm (by omega) (by omega) (by omega) (by omega)
  refine rw_of (fun rr hrr => q_invV hV3 (show SH 261 = (18, 0) from rfl) rfl rfl (okar_cons rfl (okar_cons rfl okar_nil)) (Nat.le_of_ble_eq_true rfl) (q_istore_n (Nat.le_of_ble_eq_true rfl) rfl (q_aload_n rfl (q_iload_n rfl hrr)))) ?_
  refine rw_if_le ⟨by omega, by omega⟩ (t := 16) rfl (fun hc4 => ?_) (fun hc4 => ?_)
  · exfalso; omega
  · skip
    refine rw_of (fun rr hrr => q_iload_n rfl (q_goto (t := 29) rfl hrr)) ?_
    refine rw_blk lk_X10_observer_29 ?_
    obtain ⟨_, mm5, pp6, hV7, rfl, rfl, hw7, hF7⟩ := c_X10_fails1 (S := S) (fz := fz) (m := m) (p := p) (d := d) (by omega) (1) hP (by omega)
    refine rw_of (fun rr hrr => q_invV hV7 (show SH 261 = (18, 0) from rfl) rfl rfl (okar_cons rfl okar_nil) (Nat.le_of_ble_eq_true rfl) hrr) ?_
    refine rw_if_eq ⟨by omega, by omega⟩ (t := 37) rfl (fun hc8 => ?_) (fun hc8 => ?_)
    · exfalso; omega
    · skip
      refine rw_of (fun rr hrr => q_iconst hrr) ?_
      refine rw_ret hQ (q_ireturn (Or.inl rfl)) ?_
      first
        | exact ⟨rfl, rfl, QMx_w hw7 rfl⟩
        | (exfalso; omega)
      
theorem c_X10_observerC {d : Nat} {S : MC} {fz : Bool} {m : M1} {p : M2} (hd : 7 ≤ d) (s k n g cp : Nat) (hP : PI p) (hk : m 261 0 = nF k) (hk12 : k ≤ 12) (hsk : s < k) (hm : m 262 s = nF n) (hn0 : 1 ≤ n) (hn : n ≤ 8) (hcp : m 261 6 = nF cp) (hcpl : cp ≤ 16) (hg : g < n) (h : cp < 2 * n ∨ rk n (kr n (fun z w => m 263 (64 * s + 8 * w + z)) (fun z => m 265 (8 * s + z))) ≠ n) : Ct d k_X10_observer S fz [.ref (261), .int (iI (((s : Nat) : Int))), .int (iI (((g : Nat) : Int)))] m p (fun v m' p' => v = some (.int (iI (0))) ∧ p = p' ∧ QMx 2 m m') := by
  obtain ⟨d, rfl⟩ : ∃ e, d = e + 1 := ⟨d - 1, by omega⟩
  refine ct_go (lv := [some (.ref (261)), some (.int (iI (((s : Nat) : Int)))), some (.int (iI (((g : Nat) : Int)))), none]) (Nat.le_of_ble_eq_true rfl) (okar_cons rfl (okar_cons rfl (okar_cons rfl okar_nil))) rfl (fun Qr hQ => ?_)
  refine rw_blk lk_X10_observer_0 ?_
  refine rw_of (fun rr hrr => q_aload_n rfl (q_iload_n rfl (q_iload_n rfl hrr))) ?_
  obtain ⟨_, mm1, pp2, hV3, rfl, rfl, rfl⟩ := c_X10_misses0 (S := S) (fz := fz) (m := m) (p := p) (d := d) (by omega) (s) (k) (n) (((g : Nat) : Int)) hP hk (by omega) (by omega) hm (by omega) (by omega) (by omega) (by omega)
  refine rw_of (fun rr hrr => q_invV hV3 (show SH 261 = (18, 0) from rfl) rfl rfl (okar_cons rfl (okar_cons rfl okar_nil)) (Nat.le_of_ble_eq_true rfl) (q_istore_n (Nat.le_of_ble_eq_true rfl) rfl (q_aload_n rfl (q_iload_n rfl hrr)))) ?_
  refine rw_if_le ⟨by omega, by omega⟩ (t := 16) rfl (fun hc4 => ?_) (fun hc4 => ?_)
  · skip
    refine rw_blk lk_X10_observer_16 ?_
    refine rw_of (fun rr hrr => q_aload_n rfl (q_iload_n rfl hrr)) ?_
    obtain ⟨_, mm5, pp6, hV7, rfl, rfl, hF7⟩ := c_X10_canSee0 (S := S) (fz := fz) (m := m) (p := p) (d := d) (by omega) (s) (n) (cp) hP hm (by omega) (by omega) (by omega) hcp (by omega) (h)
    refine rw_of (fun rr hrr => q_invV hV7 (show SH 261 = (18, 0) from rfl) rfl rfl (okar_cons rfl okar_nil) (Nat.le_of_ble_eq_true rfl) hrr) ?_
    refine rw_if_eq ⟨by omega, by omega⟩ (t := 28) rfl (fun hc8 => ?_) (fun hc8 => ?_)
    · skip
      refine rw_blk lk_X10_observer_28 ?_
      refine rw_of (fun rr hrr => q_iconst hrr) ?_
      refine rw_blk lk_X10_observer_29 ?_
      obtain ⟨_, mm9, pp10, hV11, rfl, rfl, hw11, hF11⟩ := c_X10_fails1 (S := S) (fz := fz) (m := mm5) (p := p) (d := d) (by omega) (2) hP (by omega)
      refine rw_of (fun rr hrr => q_invV hV11 (show SH 261 = (18, 0) from rfl) rfl rfl (okar_cons rfl okar_nil) (Nat.le_of_ble_eq_true rfl) hrr) ?_
      refine rw_if_eq ⟨by omega, by omega⟩ (t := 37) rfl (fun hc12 => ?_) (fun hc12 => ?_)
      · exfalso; omega
      · skip
        refine rw_of (fun rr hrr => q_iconst hrr) ?_
        exact rw_ret hQ (q_ireturn (Or.inl rfl)) (by exact ⟨rfl, rfl, QMx_pre hF7 (fun a ha => by omega) (QMx_w hw11 rfl)⟩)
    · exfalso; omega
  · exfalso; omega
theorem c_X10_gainAnew1 {d : Nat} {S : MC} {fz : Bool} {m : M1} {p : M2} (hd : 8 ≤ d) (s k n g cp : Nat) (hP : PI p) (hk : m 261 0 = nF k) (hk12 : k ≤ 12) (hsk : s < k) (hm : m 262 s = nF n) (hn0 : 1 ≤ n) (hn : n ≤ 8) (hcp : m 261 6 = nF cp) (hcpl : cp ≤ 16) (hg : g < n) (h : n ≤ cp ∧ rk n (kr n (fun z w => m 263 (64 * s + 8 * z + w)) (fun z => m 264 (8 * s + z))) = n) : Ct d k_X10_gainAnew S fz [.ref (261), .int (iI (((s : Nat) : Int))), .int (iI (((g : Nat) : Int)))] m p (fun v m' p' => ∃ x, v = some (.int (iI (vF (av n (fun z w => m 263 (64 * s + 8 * z + w)) (fun z => m 267 (0 + z)) x n g)))) ∧ p = p' ∧ QMx 0 m m' ∧ ∀ i, i < n → dot n ((kr n (fun z w => m 263 (64 * s + 8 * z + w)) (fun z => m 264 (8 * s + z))) i) x = if i + 1 = n then 1 else 0) := by
  obtain ⟨d, rfl⟩ : ∃ e, d = e + 1 := ⟨d - 1, by omega⟩
  refine ct_go (lv := [some (.ref (261)), some (.int (iI (((s : Nat) : Int)))), some (.int (iI (((g : Nat) : Int))))]) (Nat.le_of_ble_eq_true rfl) (okar_cons rfl (okar_cons rfl (okar_cons rfl okar_nil))) rfl (fun Qr hQ => ?_)
  refine rw_blk lk_X10_gainAnew_0 ?_
  refine rw_of (fun rr hrr => q_aload_n rfl (q_iload_n rfl (q_iload_n rfl hrr))) ?_
  obtain ⟨_, mm1, pp2, hV3, x3, rfl, rfl, hq3, hx3⟩ := c_X10_gain1 (S := S) (fz := fz) (m := m) (p := p) (d := d) (by omega) (s) (k) (n) (g) (cp) hP hk (by omega) (by omega) hm (by omega) (by omega) hcp (by omega) (by omega) (h)
  refine rw_of (fun rr hrr => q_invV hV3 (show SH 261 = (18, 0) from rfl) rfl rfl (okar_cons rfl (okar_cons rfl okar_nil)) (Nat.le_of_ble_eq_true rfl) hrr) ?_
  exact rw_ret hQ (q_ireturn (Or.inl rfl)) (by exact ⟨x3, rfl, rfl, hq3, hx3⟩)
theorem c_X10_gainAnewS {d : Nat} {S : MC} {fz : Bool} {m : M1} {p : M2} (hd : 8 ≤ d) (s x : Int) (k : Nat) (hP : PI p) (hk : m 261 0 = nF k) (hk12 : k ≤ 12) (hr : (-2147483648 ≤ s ∧ s < 2147483648)) (h : ¬ (0 ≤ s ∧ s < k)) : Ct d k_X10_gainAnew S fz [.ref (261), .int (iI (s)), .int (iI (x))] m p (fun v m' p' => v = some (.int (iI (0))) ∧ p = p' ∧ QMx 1 m m') := by
  obtain ⟨d, rfl⟩ : ∃ e, d = e + 1 := ⟨d - 1, by omega⟩
  refine ct_go (lv := [some (.ref (261)), some (.int (iI (s))), some (.int (iI (x)))]) (Nat.le_of_ble_eq_true rfl) (okar_cons rfl (okar_cons rfl (okar_cons rfl okar_nil))) rfl (fun Qr hQ => ?_)
  refine rw_blk lk_X10_gainAnew_0 ?_
  refine rw_of (fun rr hrr => q_aload_n rfl (q_iload_n rfl (q_iload_n rfl hrr))) ?_
  obtain ⟨_, mm1, pp2, hV3, rfl, rfl, hq3⟩ := c_X10_gainS (S := S) (fz := fz) (m := m) (p := p) (d := d) (by omega) (s) (x) (k) hP hk (by omega) (by omega) (h)
  refine rw_of (fun rr hrr => q_invV hV3 (show SH 261 = (18, 0) from rfl) rfl rfl (okar_cons rfl (okar_cons rfl okar_nil)) (Nat.le_of_ble_eq_true rfl) hrr) ?_
  exact rw_ret hQ (q_ireturn (Or.inl rfl)) (by exact ⟨rfl, rfl, hq3⟩)
theorem c_X10_gainAnewP {d : Nat} {S : MC} {fz : Bool} {m : M1} {p : M2} (hd : 8 ≤ d) (s k n : Nat) (x : Int) (hP : PI p) (hk : m 261 0 = nF k) (hk12 : k ≤ 12) (hsk : s < k) (hm : m 262 s = nF n) (hn0 : 1 ≤ n) (hn : n ≤ 8) (hr : (-2147483648 ≤ x ∧ x < 2147483648)) (h : x < 0 ∨ n ≤ x) : Ct d k_X10_gainAnew S fz [.ref (261), .int (iI (((s : Nat) : Int))), .int (iI (x))] m p (fun v m' p' => v = some (.int (iI (0))) ∧ p = p' ∧ QMx 1 m m') := by
  obtain ⟨d, rfl⟩ : ∃ e, d = e + 1 := ⟨d - 1, by omega⟩
  refine ct_go (lv := [some (.ref (261)), some (.int (iI (((s : Nat) : Int)))), some (.int (iI (x)))]) (Nat.le_of_ble_eq_true rfl) (okar_cons rfl (okar_cons rfl (okar_cons rfl okar_nil))) rfl (fun Qr hQ => ?_)
  refine rw_blk lk_X10_gainAnew_0 ?_
  refine rw_of (fun rr hrr => q_aload_n rfl (q_iload_n rfl (q_iload_n rfl hrr))) ?_
  obtain ⟨_, mm1, pp2, hV3, rfl, rfl, hq3⟩ := c_X10_gainP (S := S) (fz := fz) (m := m) (p := p) (d := d) (by omega) (s) (k) (n) (x) hP hk (by omega) (by omega) hm (by omega) (by omega) (by omega) (by omega)
  refine rw_of (fun rr hrr => q_invV hV3 (show SH 261 = (18, 0) from rfl) rfl rfl (okar_cons rfl (okar_cons rfl okar_nil)) (Nat.le_of_ble_eq_true rfl) hrr) ?_
  exact rw_ret hQ (q_ireturn (Or.inl rfl)) (by exact ⟨rfl, rfl, hq3⟩)
theorem c_X10_gainAnewC {d : Nat} {S : MC} {fz : Bool} {m : M1} {p : M2} (hd : 8 ≤ d) (s k n g cp : Nat) (hP : PI p) (hk : m 261 0 = nF k) (hk12 : k ≤ 12) (hsk : s < k) (hm : m 262 s = nF n) (hn0 : 1 ≤ n) (hn : n ≤ 8) (hcp : m 261 6 = nF cp) (hcpl : cp ≤ 16) (hg : g < n) (h : cp < n ∨ rk n (kr n (fun z w => m 263 (64 * s + 8 * z + w)) (fun z => m 264 (8 * s + z))) ≠ n) : Ct d k_X10_gainAnew S fz [.ref (261), .int (iI (((s : Nat) : Int))), .int (iI (((g : Nat) : Int)))] m p (fun v m' p' => v = some (.int (iI (0))) ∧ p = p' ∧ QMx 2 m m') := by
  obtain ⟨d, rfl⟩ : ∃ e, d = e + 1 := ⟨d - 1, by omega⟩
  refine ct_go (lv := [some (.ref (261)), some (.int (iI (((s : Nat) : Int)))), some (.int (iI (((g : Nat) : Int))))]) (Nat.le_of_ble_eq_true rfl) (okar_cons rfl (okar_cons rfl (okar_cons rfl okar_nil))) rfl (fun Qr hQ => ?_)
  refine rw_blk lk_X10_gainAnew_0 ?_
  refine rw_of (fun rr hrr => q_aload_n rfl (q_iload_n rfl (q_iload_n rfl hrr))) ?_
  obtain ⟨_, mm1, pp2, hV3, rfl, rfl, hq3⟩ := c_X10_gainC (S := S) (fz := fz) (m := m) (p := p) (d := d) (by omega) (s) (k) (n) (g) (cp) hP hk (by omega) (by omega) hm (by omega) (by omega) hcp (by omega) (by omega) (h)
  refine rw_of (fun rr hrr => q_invV hV3 (show SH 261 = (18, 0) from rfl) rfl rfl (okar_cons rfl (okar_cons rfl okar_nil)) (Nat.le_of_ble_eq_true rfl) hrr) ?_
  exact rw_ret hQ (q_ireturn (Or.inl rfl)) (by exact ⟨rfl, rfl, hq3⟩)
