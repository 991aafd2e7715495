theorem av_congr {n : Nat} {A A' : Nat → Nat → F} {P P' x : Nat → F} (hA : ∀ i, i < n → ∀ c, c < n → A i c = A' i c) (hP : ∀ i, P i = P' i) (s : Nat) : ∀ j, j < n → av n A P x s j = av n A' P' x s j := by
  induction s with
  | zero => intro j hj; rfl
  | succ s ih =>
    intro j hj
    show dot n (av n A P x s) (fun i => A i j) - P s * av n A P x s j = dot n (av n A' P' x s) (fun i => A' i j) - P' s * av n A' P' x s j
    rw [ih j hj, hP s, dot_congr (fun i hi => ih i hi) (fun i hi => hA i hi j hj)]
theorem er_ne {a b c : Nat} (h : a = b) (h' : b ≠ c) : a ≠ c := by rw [h]; exact h'
/-- a contract: method k throws E and leaves what Q says -/
def Tx (d k : Nat) (S : Env) (fz : Bool) (ar : List Value) (m : M1) (p : M2) (E : Nat) (Q : M1 → M2 → Prop) : Prop := ∃ m' p', Ev d k ar (hpM S fz (m, p)) (.inr E, hpM (ths S) fz (m', p'), 1, 6) ∧ Q m' p'
def XQ (S : Env) (fz : Bool) (E : Nat) (Q : M1 → M2 → Prop) : Res → Prop := fun r => ∃ m' p', r = (.inr E, hpM (ths S) fz (m', p'), 1, 6) ∧ Q m' p'
theorem tx_go {d k E : Nat} {S : Env} {fz : Bool} {ar : List Value} {m : M1} {p : M2} {Q : M1 → M2 → Prop} {lv : List (Option Value)} (hl : ar.length ≤ m_L k) (ha : okar ar) (hk : m_kd k ≠ 2 ∧ m_hh k = []) (hd : 6 ≤ d + 1) (hlv : lv0 (m_L k) ar = lv) (hr : ∀ Qr, Qr = XQ S fz E Q → Rw (Ev d) k (0, [], lv, [], hpM S fz (m, p), 0, 0) Qr) : Tx (d + 1) k S fz ar m p E Q := by
  obtain ⟨r, hr, m', p', rfl, hq⟩ := hr _ rfl
  exact ⟨m', p', ev_thr hl ha hk hd hlv hr, hq⟩
theorem c_X9_plantOf {d : Nat} {S : Env} {fz : Bool} {m : M1} {p : M2} (hd : 6 ≤ d) (s k : Nat) (hP : PI p) (hk : m 1 1 = nF k) (hk12 : k ≤ 12) (hs : s < k) : Ct d k_X9_plantOf S fz [.ref (1), .int (iI (((s : Nat) : Int)))] m p (fun v m' p' => v = some (.ref (117 + 12 * s)) ∧ m = m' ∧ p = p') := by
  obtain ⟨d, rfl⟩ : ∃ e, d = e + 1 := ⟨d - 1, by omega⟩
  refine ct_go (lv := [some (.ref (1)), some (.int (iI (((s : Nat) : Int))))]) (Nat.le_of_ble_eq_true rfl) (okar_cons rfl (okar_cons rfl okar_nil)) rfl (fun Qr hQ => ?_)
  refine rw_blk lk_X9_plantOf_0 ?_
  refine rw_of (fun rr hrr => q_iload_n rfl hrr) ?_
  refine rw_if_lt ⟨by omega, by omega⟩ (t := 12) rfl (fun hc1 => ?_) (fun hc1 => ?_)
  · skip
    refine rw_blk lk_X9_plantOf_12 ?_
    exfalso; omega
  · skip
    refine rw_of (fun rr hrr => q_iload_n rfl (q_aload_n rfl (q_getI (show SH 1 = (17, 0) from rfl) rfl (ki rfl hk (by omega)) hrr))) ?_
    refine rw_icmp_lt ⟨by omega, by omega⟩ ⟨by omega, by omega⟩ (t := 22) rfl (fun hc2 => ?_) (fun hc2 => ?_)
    · skip
      refine rw_blk lk_X9_plantOf_22 ?_
      refine rw_of (fun rr hrr => q_aload_n rfl (q_getR (show SH 1 = (17, 0) from rfl) rfl (pt_1_0 hP) (q_iload_n rfl (q_aald (t := 1) (j := s) (show SH 2 = (4, 12) from rfl) (by omega) (by omega) (by omega) (hP.2.1 s (by omega)) hrr)))) ?_
      exact rw_ret hQ (q_areturn) (by exact ⟨rfl, rfl, rfl⟩)
    · skip
      refine rw_blk lk_X9_plantOf_12 ?_
      exfalso; omega
theorem t_X9_plantOf {d : Nat} {S : Env} {fz : Bool} {m : M1} {p : M2} (hd : 6 ≤ d) (s : Int) (k : Nat) (hP : PI p) (hk : m 1 1 = nF k) (hk12 : k ≤ 12) (hs : (-2147483648 ≤ s ∧ s < 2147483648) ∧ ¬ (0 ≤ s ∧ s < k)) : Tx d k_X9_plantOf S fz [.ref (1), .int (iI (s))] m p 0 (fun m' p' => m = m' ∧ p = p') := by
  obtain ⟨d, rfl⟩ : ∃ e, d = e + 1 := ⟨d - 1, by omega⟩
  refine tx_go (lv := [some (.ref (1)), some (.int (iI (s)))]) (Nat.le_of_ble_eq_true rfl) (okar_cons rfl (okar_cons rfl okar_nil)) (by decide) (by omega) rfl (fun Qr hQ => ?_)
  refine rw_blk lk_X9_plantOf_0 ?_
  refine rw_of (fun rr hrr => q_iload_n rfl hrr) ?_
  refine rw_if_lt ⟨by omega, by omega⟩ (t := 12) rfl (fun hc1 => ?_) (fun hc1 => ?_)
  · skip
    refine rw_blk lk_X9_plantOf_12 ?_
    refine rw_end (q_throw (by decide) (by decide +kernel) rfl) ?_
    rw [hQ]
    refine ⟨_, _, rfl, ?_⟩
    exact ⟨rfl, rfl⟩
  · skip
    refine rw_of (fun rr hrr => q_iload_n rfl (q_aload_n rfl (q_getI (show SH 1 = (17, 0) from rfl) rfl (ki rfl hk (by omega)) hrr))) ?_
    refine rw_icmp_lt ⟨by omega, by omega⟩ ⟨by omega, by omega⟩ (t := 22) rfl (fun hc2 => ?_) (fun hc2 => ?_)
    · skip
      refine rw_blk lk_X9_plantOf_22 ?_
      exfalso; omega
    · skip
      refine rw_blk lk_X9_plantOf_12 ?_
      refine rw_end (q_throw (by decide) (by decide +kernel) rfl) ?_
      rw [hQ]
      refine ⟨_, _, rfl, ?_⟩
      exact ⟨rfl, rfl⟩
theorem c_X9_newPlant {d : Nat} {S : Env} {fz : Bool} {m : M1} {p : M2} (hd : 6 ≤ d) (n k : Nat) (hP : PI p) (hk : m 1 1 = nF k) (hk12 : k ≤ 12) (hk1 : k < 12) (hn : n ≤ 8) : Ct d k_X9_newPlant S fz [.ref (1), .int (iI (((n : Nat) : Int)))] m p (fun v m' p' => v = some (.ref (117 + 12 * k)) ∧ p = p' ∧ w1 (w1 m (117 + 12 * k) 0 (nF n)) 1 1 (nF (k + 1)) = m' ∧ Fr (fun a_ => a_ = 1 ∨ a_ = 117 + 12 * k) m m') := by
  obtain ⟨d, rfl⟩ : ∃ e, d = e + 1 := ⟨d - 1, by omega⟩
  refine ct_go (lv := [some (.ref (1)), some (.int (iI (((n : Nat) : Int)))), none]) (Nat.le_of_ble_eq_true rfl) (okar_cons rfl (okar_cons rfl okar_nil)) rfl (fun Qr hQ => ?_)
  refine rw_blk lk_X9_newPlant_0 ?_
  refine rw_of (fun rr hrr => q_aload_n rfl (q_getI (show SH 1 = (17, 0) from rfl) rfl (ki rfl hk (by omega)) (q_bipush rfl hrr))) ?_
  refine rw_icmp_lt ⟨by omega, by omega⟩ ⟨by omega, by omega⟩ (t := 19) rfl (fun hc1 => ?_) (fun hc1 => ?_)
  · skip
    refine rw_blk lk_X9_newPlant_19 ?_
    refine rw_of (fun rr hrr => q_aload_n rfl (q_getR (show SH 1 = (17, 0) from rfl) rfl (pt_1_0 hP) (q_aload_n rfl (q_getI (show SH 1 = (17, 0) from rfl) rfl (ki rfl hk (by omega)) (q_aald (t := 1) (j := k) (show SH 2 = (4, 12) from rfl) (by omega) (by omega) (by omega) (hP.2.1 k (by omega)) (q_astore_n (Nat.le_of_ble_eq_true rfl) rfl (q_aload_n rfl (q_iload_n rfl (q_putI (xx := nF (n)) (PI_pl hP (Or.inr ⟨k, by omega, rfl⟩)).1 rfl rfl ((show _ = ((n : Nat) : Int) by omega).trans (vF_nF (by omega)).symm) hrr))))))))) ?_
    generalize hm3 : w1 m (117 + 12 * k) 0 (nF (n)) = mm2
    refine rw_of (fun rr hrr => q_aload_n rfl (q_dup rfl (q_getI (show SH 1 = (17, 0) from rfl) rfl (ki (kw hm3 (by omega)) hk (by omega)) (q_iconst (q_iadd (q_putI (xx := nF (k + 1)) (show SH 1 = (17, 0) from rfl) rfl rfl ((show _ = ((k + 1 : Nat) : Int) by omega).trans (vF_nF (by omega)).symm) hrr)))))) ?_
    generalize hm5 : w1 mm2 1 1 (nF (k + 1)) = mm4
    refine rw_of (fun rr hrr => q_aload_n rfl hrr) ?_
    exact rw_ret hQ (q_areturn) (by exact ⟨rfl, rfl, by rw [hm3, hm5], fr_w hm5 (fr_w hm3 Fr_rfl (by omega)) (by omega)⟩)
  · skip
    exfalso; omega
theorem t_X9_newPlant {d : Nat} {S : Env} {fz : Bool} {m : M1} {p : M2} (hd : 6 ≤ d) (n k : Nat) (hP : PI p) (hk : m 1 1 = nF k) (hk12 : k ≤ 12) (hk1 : 12 ≤ k) : Tx d k_X9_newPlant S fz [.ref (1), .int (iI (((n : Nat) : Int)))] m p 2 (fun m' p' => m = m' ∧ p = p') := by
  obtain ⟨d, rfl⟩ : ∃ e, d = e + 1 := ⟨d - 1, by omega⟩
  refine tx_go (lv := [some (.ref (1)), some (.int (iI (((n : Nat) : Int)))), none]) (Nat.le_of_ble_eq_true rfl) (okar_cons rfl (okar_cons rfl okar_nil)) (by decide) (by omega) rfl (fun Qr hQ => ?_)
  refine rw_blk lk_X9_newPlant_0 ?_
  refine rw_of (fun rr hrr => q_aload_n rfl (q_getI (show SH 1 = (17, 0) from rfl) rfl (ki rfl hk (by omega)) (q_bipush rfl hrr))) ?_
  refine rw_icmp_lt ⟨by omega, by omega⟩ ⟨by omega, by omega⟩ (t := 19) rfl (fun hc1 => ?_) (fun hc1 => ?_)
  · skip
    refine rw_blk lk_X9_newPlant_19 ?_
    exfalso; omega
  · skip
    refine rw_end (q_throw (by decide) (by decide +kernel) rfl) ?_
    rw [hQ]
    refine ⟨_, _, rfl, ?_⟩
    exact ⟨rfl, rfl⟩
theorem c_X9_requireValue {d : Nat} {S : Env} {fz : Bool} {m : M1} {p : M2} (hd : 6 ≤ d) (x : Int) (h : -10007 < x ∧ x < 10007) : Ct d k_X9_requireValue S fz [.int (iI (x))] m p (fun v m' p' => v = none ∧ m = m' ∧ p = p') := by
  obtain ⟨d, rfl⟩ : ∃ e, d = e + 1 := ⟨d - 1, by omega⟩
  refine ct_go (lv := [some (.int (iI (x)))]) (Nat.le_of_ble_eq_true rfl) (okar_cons rfl okar_nil) rfl (fun Qr hQ => ?_)
  refine rw_blk lk_X9_requireValue_0 ?_
  refine rw_of (fun rr hrr => q_iload_n rfl (q_sipush rfl hrr)) ?_
  refine rw_icmp_le ⟨by omega, by omega⟩ ⟨by omega, by omega⟩ (t := 14) rfl (fun hc1 => ?_) (fun hc1 => ?_)
  · skip
    refine rw_blk lk_X9_requireValue_14 ?_
    exfalso; omega
  · skip
    refine rw_of (fun rr hrr => q_iload_n rfl (q_sipush rfl hrr)) ?_
    refine rw_icmp_lt ⟨by omega, by omega⟩ ⟨by omega, by omega⟩ (t := 24) rfl (fun hc2 => ?_) (fun hc2 => ?_)
    · skip
      refine rw_blk lk_X9_requireValue_24 ?_
      exact rw_ret hQ (q_return) (by exact ⟨rfl, rfl, rfl⟩)
    · skip
      refine rw_blk lk_X9_requireValue_14 ?_
      exfalso; omega
theorem t_X9_requireValue {d : Nat} {S : Env} {fz : Bool} {m : M1} {p : M2} (hd : 6 ≤ d) (x : Int) (hr : (-2147483648 ≤ x ∧ x < 2147483648)) (h : x ≤ -10007 ∨ 10007 ≤ x) : Tx d k_X9_requireValue S fz [.int (iI (x))] m p 1 (fun m' p' => m = m' ∧ p = p') := by
  obtain ⟨d, rfl⟩ : ∃ e, d = e + 1 := ⟨d - 1, by omega⟩
  refine tx_go (lv := [some (.int (iI (x)))]) (Nat.le_of_ble_eq_true rfl) (okar_cons rfl okar_nil) (by decide) (by omega) rfl (fun Qr hQ => ?_)
  refine rw_blk lk_X9_requireValue_0 ?_
  refine rw_of (fun rr hrr => q_iload_n rfl (q_sipush rfl hrr)) ?_
  refine rw_icmp_le ⟨by omega, by omega⟩ ⟨by omega, by omega⟩ (t := 14) rfl (fun hc1 => ?_) (fun hc1 => ?_)
  · skip
    refine rw_blk lk_X9_requireValue_14 ?_
    refine rw_end (q_throw (by decide) (by decide +kernel) rfl) ?_
    rw [hQ]
    refine ⟨_, _, rfl, ?_⟩
    exact ⟨rfl, rfl⟩
  · skip
    refine rw_of (fun rr hrr => q_iload_n rfl (q_sipush rfl hrr)) ?_
    refine rw_icmp_lt ⟨by omega, by omega⟩ ⟨by omega, by omega⟩ (t := 24) rfl (fun hc2 => ?_) (fun hc2 => ?_)
    · skip
      refine rw_blk lk_X9_requireValue_24 ?_
      exfalso; omega
    · skip
      refine rw_blk lk_X9_requireValue_14 ?_
      refine rw_end (q_throw (by decide) (by decide +kernel) rfl) ?_
      rw [hQ]
      refine ⟨_, _, rfl, ?_⟩
      exact ⟨rfl, rfl⟩
theorem c_X9_requireRange {d : Nat} {S : Env} {fz : Bool} {m : M1} {p : M2} (hd : 6 ≤ d) (x y : Int) (hy : 0 ≤ y ∧ y ≤ 20000) (h : 0 ≤ x ∧ x ≤ y) : Ct d k_X9_requireRange S fz [.int (iI (x)), .int (iI (y))] m p (fun v m' p' => v = none ∧ m = m' ∧ p = p') := by
  obtain ⟨d, rfl⟩ : ∃ e, d = e + 1 := ⟨d - 1, by omega⟩
  refine ct_go (lv := [some (.int (iI (x))), some (.int (iI (y)))]) (Nat.le_of_ble_eq_true rfl) (okar_cons rfl (okar_cons rfl okar_nil)) rfl (fun Qr hQ => ?_)
  refine rw_blk lk_X9_requireRange_0 ?_
  refine rw_of (fun rr hrr => q_iload_n rfl hrr) ?_
  refine rw_if_lt ⟨by omega, by omega⟩ (t := 9) rfl (fun hc1 => ?_) (fun hc1 => ?_)
  · skip
    refine rw_blk lk_X9_requireRange_9 ?_
    exfalso; omega
  · skip
    refine rw_of (fun rr hrr => q_iload_n rfl (q_iload_n rfl hrr)) ?_
    refine rw_icmp_le ⟨by omega, by omega⟩ ⟨by omega, by omega⟩ (t := 19) rfl (fun hc2 => ?_) (fun hc2 => ?_)
    · skip
      refine rw_blk lk_X9_requireRange_19 ?_
      exact rw_ret hQ (q_return) (by exact ⟨rfl, rfl, rfl⟩)
    · skip
      refine rw_blk lk_X9_requireRange_9 ?_
      exfalso; omega
theorem t_X9_requireRange {d : Nat} {S : Env} {fz : Bool} {m : M1} {p : M2} (hd : 6 ≤ d) (x y : Int) (hy : 0 ≤ y ∧ y ≤ 20000) (hr : (-2147483648 ≤ x ∧ x < 2147483648)) (h : x < 0 ∨ y < x) : Tx d k_X9_requireRange S fz [.int (iI (x)), .int (iI (y))] m p 1 (fun m' p' => m = m' ∧ p = p') := by
  obtain ⟨d, rfl⟩ : ∃ e, d = e + 1 := ⟨d - 1, by omega⟩
  refine tx_go (lv := [some (.int (iI (x))), some (.int (iI (y)))]) (Nat.le_of_ble_eq_true rfl) (okar_cons rfl (okar_cons rfl okar_nil)) (by decide) (by omega) rfl (fun Qr hQ => ?_)
  refine rw_blk lk_X9_requireRange_0 ?_
  refine rw_of (fun rr hrr => q_iload_n rfl hrr) ?_
  refine rw_if_lt ⟨by omega, by omega⟩ (t := 9) rfl (fun hc1 => ?_) (fun hc1 => ?_)
  · skip
    refine rw_blk lk_X9_requireRange_9 ?_
    refine rw_end (q_throw (by decide) (by decide +kernel) rfl) ?_
    rw [hQ]
    refine ⟨_, _, rfl, ?_⟩
    exact ⟨rfl, rfl⟩
  · skip
    refine rw_of (fun rr hrr => q_iload_n rfl (q_iload_n rfl hrr)) ?_
    refine rw_icmp_le ⟨by omega, by omega⟩ ⟨by omega, by omega⟩ (t := 19) rfl (fun hc2 => ?_) (fun hc2 => ?_)
    · skip
      refine rw_blk lk_X9_requireRange_19 ?_
      exfalso; omega
    · skip
      refine rw_blk lk_X9_requireRange_9 ?_
      refine rw_end (q_throw (by decide) (by decide +kernel) rfl) ?_
      rw [hQ]
      refine ⟨_, _, rfl, ?_⟩
      exact ⟨rfl, rfl⟩
theorem c_X9_requirePlace {d : Nat} {S : Env} {fz : Bool} {m : M1} {p : M2} (hd : 6 ≤ d) (t n : Nat) (x : Int) (hP : PI p) (ht : IsPl t) (hm : m t 0 = nF n) (hn : n ≤ 8) (h : 0 ≤ x ∧ x < n) : Ct d k_X9_requirePlace S fz [.ref (t), .int (iI (x))] m p (fun v m' p' => v = none ∧ m = m' ∧ p = p') := by
  obtain ⟨d, rfl⟩ : ∃ e, d = e + 1 := ⟨d - 1, by omega⟩
  refine ct_go (lv := [some (.ref (t)), some (.int (iI (x)))]) (Nat.le_of_ble_eq_true rfl) (okar_cons rfl (okar_cons rfl okar_nil)) rfl (fun Qr hQ => ?_)
  refine rw_blk lk_X9_requirePlace_0 ?_
  refine rw_of (fun rr hrr => q_iload_n rfl hrr) ?_
  refine rw_if_lt ⟨by omega, by omega⟩ (t := 12) rfl (fun hc1 => ?_) (fun hc1 => ?_)
  · skip
    refine rw_blk lk_X9_requirePlace_12 ?_
    exfalso; omega
  · skip
    refine rw_of (fun rr hrr => q_iload_n rfl (q_aload_n rfl (q_getI (PI_pl hP ht).1 rfl (ki rfl hm (by omega)) hrr))) ?_
    refine rw_icmp_lt ⟨by omega, by omega⟩ ⟨by omega, by omega⟩ (t := 22) rfl (fun hc2 => ?_) (fun hc2 => ?_)
    · skip
      refine rw_blk lk_X9_requirePlace_22 ?_
      exact rw_ret hQ (q_return) (by exact ⟨rfl, rfl, rfl⟩)
    · skip
      refine rw_blk lk_X9_requirePlace_12 ?_
      exfalso; omega
theorem t_X9_requirePlace {d : Nat} {S : Env} {fz : Bool} {m : M1} {p : M2} (hd : 6 ≤ d) (t n : Nat) (x : Int) (hP : PI p) (ht : IsPl t) (hm : m t 0 = nF n) (hn : n ≤ 8) (hr : (-2147483648 ≤ x ∧ x < 2147483648)) (h : x < 0 ∨ n ≤ x) : Tx d k_X9_requirePlace S fz [.ref (t), .int (iI (x))] m p 0 (fun m' p' => m = m' ∧ p = p') := by
  obtain ⟨d, rfl⟩ : ∃ e, d = e + 1 := ⟨d - 1, by omega⟩
  refine tx_go (lv := [some (.ref (t)), some (.int (iI (x)))]) (Nat.le_of_ble_eq_true rfl) (okar_cons rfl (okar_cons rfl okar_nil)) (by decide) (by omega) rfl (fun Qr hQ => ?_)
  refine rw_blk lk_X9_requirePlace_0 ?_
  refine rw_of (fun rr hrr => q_iload_n rfl hrr) ?_
  refine rw_if_lt ⟨by omega, by omega⟩ (t := 12) rfl (fun hc1 => ?_) (fun hc1 => ?_)
  · skip
    refine rw_blk lk_X9_requirePlace_12 ?_
    refine rw_end (q_throw (by decide) (by decide +kernel) rfl) ?_
    rw [hQ]
    refine ⟨_, _, rfl, ?_⟩
    exact ⟨rfl, rfl⟩
  · skip
    refine rw_of (fun rr hrr => q_iload_n rfl (q_aload_n rfl (q_getI (PI_pl hP ht).1 rfl (ki rfl hm (by omega)) hrr))) ?_
    refine rw_icmp_lt ⟨by omega, by omega⟩ ⟨by omega, by omega⟩ (t := 22) rfl (fun hc2 => ?_) (fun hc2 => ?_)
    · skip
      refine rw_blk lk_X9_requirePlace_22 ?_
      exfalso; omega
    · skip
      refine rw_blk lk_X9_requirePlace_12 ?_
      refine rw_end (q_throw (by decide) (by decide +kernel) rfl) ?_
      rw [hQ]
      refine ⟨_, _, rfl, ?_⟩
      exact ⟨rfl, rfl⟩
theorem c_X9_requirePoles {d : Nat} {S : Env} {fz : Bool} {m : M1} {p : M2} (hd : 6 ≤ d) (n cp : Nat) (hP : PI p) (hcp : m 3 1 = nF cp) (hcpl : cp ≤ 16) (h : n ≤ cp) : Ct d k_X9_requirePoles S fz [.ref (1), .int (iI (((n : Nat) : Int)))] m p (fun v m' p' => v = none ∧ m = m' ∧ p = p') := by
  obtain ⟨d, rfl⟩ : ∃ e, d = e + 1 := ⟨d - 1, by omega⟩
  refine ct_go (lv := [some (.ref (1)), some (.int (iI (((n : Nat) : Int))))]) (Nat.le_of_ble_eq_true rfl) (okar_cons rfl (okar_cons rfl okar_nil)) rfl (fun Qr hQ => ?_)
  refine rw_blk lk_X9_requirePoles_0 ?_
  refine rw_of (fun rr hrr => q_aload_n rfl (q_getR (show SH 1 = (17, 0) from rfl) rfl (pt_1_2 hP) (q_getI (show SH 3 = (16, 0) from rfl) rfl (ki rfl hcp (by omega)) (q_iload_n rfl hrr)))) ?_
  refine rw_icmp_ge ⟨by omega, by omega⟩ ⟨by omega, by omega⟩ (t := 21) rfl (fun hc1 => ?_) (fun hc1 => ?_)
  · skip
    refine rw_blk lk_X9_requirePoles_21 ?_
    exact rw_ret hQ (q_return) (by exact ⟨rfl, rfl, rfl⟩)
  · skip
    exfalso; omega
theorem t_X9_requirePoles {d : Nat} {S : Env} {fz : Bool} {m : M1} {p : M2} (hd : 6 ≤ d) (n cp : Nat) (hP : PI p) (hcp : m 3 1 = nF cp) (hcpl : cp ≤ 16) (h : cp < n) (hn : n ≤ 100) : Tx d k_X9_requirePoles S fz [.ref (1), .int (iI (((n : Nat) : Int)))] m p 2 (fun m' p' => m = m' ∧ p = p') := by
  obtain ⟨d, rfl⟩ : ∃ e, d = e + 1 := ⟨d - 1, by omega⟩
  refine tx_go (lv := [some (.ref (1)), some (.int (iI (((n : Nat) : Int))))]) (Nat.le_of_ble_eq_true rfl) (okar_cons rfl (okar_cons rfl okar_nil)) (by decide) (by omega) rfl (fun Qr hQ => ?_)
  refine rw_blk lk_X9_requirePoles_0 ?_
  refine rw_of (fun rr hrr => q_aload_n rfl (q_getR (show SH 1 = (17, 0) from rfl) rfl (pt_1_2 hP) (q_getI (show SH 3 = (16, 0) from rfl) rfl (ki rfl hcp (by omega)) (q_iload_n rfl hrr)))) ?_
  refine rw_icmp_ge ⟨by omega, by omega⟩ ⟨by omega, by omega⟩ (t := 21) rfl (fun hc1 => ?_) (fun hc1 => ?_)
  · skip
    refine rw_blk lk_X9_requirePoles_21 ?_
    exfalso; omega
  · skip
    refine rw_end (q_throw (by decide) (by decide +kernel) rfl) ?_
    rw [hQ]
    refine ⟨_, _, rfl, ?_⟩
    exact ⟨rfl, rfl⟩
theorem c_X9_requireEntry0 {d : Nat} {S : Env} {fz : Bool} {m : M1} {p : M2} (hd : 7 ≤ d) (t n : Nat) (x y : Int) (hP : PI p) (ht : IsPl t) (hm : m t 0 = nF n) (hn : n ≤ 8) (hi : 0 ≤ x ∧ x < n) (hj : 0 ≤ y ∧ y < n) : Ct d k_X9_requireEntry S fz [.ref (t), .int (iI (0)), .int (iI (x)), .int (iI (y))] m p (fun v m' p' => v = none ∧ m = m' ∧ p = p') := by
  obtain ⟨d, rfl⟩ : ∃ e, d = e + 1 := ⟨d - 1, by omega⟩
  refine ct_go (lv := [some (.ref (t)), some (.int (iI (0))), some (.int (iI (x))), some (.int (iI (y)))]) (Nat.le_of_ble_eq_true rfl) (okar_cons rfl (okar_cons rfl (okar_cons rfl (okar_cons rfl okar_nil)))) rfl (fun Qr hQ => ?_)
  refine rw_blk lk_X9_requireEntry_0 ?_
  refine rw_of (fun rr hrr => q_iload_n rfl hrr) ?_
  refine rw_if_lt ⟨by omega, by omega⟩ (t := 9) rfl (fun hc1 => ?_) (fun hc1 => ?_)
  · skip
    refine rw_blk lk_X9_requireEntry_9 ?_
    exfalso; omega
  · skip
    refine rw_of (fun rr hrr => q_iload_n rfl (q_iconst hrr)) ?_
    refine rw_icmp_le ⟨by omega, by omega⟩ ⟨by omega, by omega⟩ (t := 19) rfl (fun hc2 => ?_) (fun hc2 => ?_)
    · skip
      refine rw_blk lk_X9_requireEntry_19 ?_
      refine rw_of (fun rr hrr => q_iload_n rfl hrr) ?_
      refine rw_if_eq ⟨by omega, by omega⟩ (t := 28) rfl (fun hc3 => ?_) (fun hc3 => ?_)
      · skip
        refine rw_blk lk_X9_requireEntry_28 ?_
        refine rw_of (fun rr hrr => q_aload_n rfl (q_iload_n rfl hrr)) ?_
        obtain ⟨_, mm4, pp5, hV6, rfl, rfl, rfl⟩ := c_X9_requirePlace (S := S) (fz := fz) (m := m) (p := p) (d := d) (by omega) (t) (n) (x) hP ht hm (by omega) (by omega)
        refine rw_of (fun rr hrr => q_invS hV6 rfl rfl (okar_cons rfl (okar_cons rfl okar_nil)) (Nat.le_of_ble_eq_true rfl) hrr) ?_
        refine rw_blk lk_X9_requireEntry_33 ?_
        refine rw_of (fun rr hrr => q_iload_n rfl hrr) ?_
        refine rw_if_eq ⟨by omega, by omega⟩ (t := 42) rfl (fun hc7 => ?_) (fun hc7 => ?_)
        · skip
          refine rw_blk lk_X9_requireEntry_42 ?_
          refine rw_of (fun rr hrr => q_aload_n rfl (q_iload_n rfl hrr)) ?_
          obtain ⟨_, mm8, pp9, hV10, rfl, rfl, rfl⟩ := c_X9_requirePlace (S := S) (fz := fz) (m := m) (p := p) (d := d) (by omega) (t) (n) (y) hP ht hm (by omega) (by omega)
          refine rw_of (fun rr hrr => q_invS hV10 rfl rfl (okar_cons rfl (okar_cons rfl okar_nil)) (Nat.le_of_ble_eq_true rfl) hrr) ?_
          refine rw_blk lk_X9_requireEntry_47 ?_
          exact rw_ret hQ (q_return) (by exact ⟨rfl, rfl, rfl⟩)
        · skip
          refine rw_of (fun rr hrr => q_iload_n rfl (q_iconst hrr)) ?_
          refine rw_icmp_ne ⟨by omega, by omega⟩ ⟨by omega, by omega⟩ (t := 47) rfl (fun hc11 => ?_) (fun hc11 => ?_)
          · skip
            refine rw_blk lk_X9_requireEntry_47 ?_
            exact rw_ret hQ (q_return) (by exact ⟨rfl, rfl, rfl⟩)
          · skip
            refine rw_blk lk_X9_requireEntry_42 ?_
            refine rw_of (fun rr hrr => q_aload_n rfl (q_iload_n rfl hrr)) ?_
            obtain ⟨_, mm12, pp13, hV14, rfl, rfl, rfl⟩ := c_X9_requirePlace (S := S) (fz := fz) (m := m) (p := p) (d := d) (by omega) (t) (n) (y) hP ht hm (by omega) (by omega)
            refine rw_of (fun rr hrr => q_invS hV14 rfl rfl (okar_cons rfl (okar_cons rfl okar_nil)) (Nat.le_of_ble_eq_true rfl) hrr) ?_
            refine rw_blk lk_X9_requireEntry_47 ?_
            exact rw_ret hQ (q_return) (by exact ⟨rfl, rfl, rfl⟩)
      · skip
        refine rw_of (fun rr hrr => q_iload_n rfl (q_iconst hrr)) ?_
        refine rw_icmp_ne ⟨by omega, by omega⟩ ⟨by omega, by omega⟩ (t := 33) rfl (fun hc15 => ?_) (fun hc15 => ?_)
        · skip
          refine rw_blk lk_X9_requireEntry_33 ?_
          refine rw_of (fun rr hrr => q_iload_n rfl hrr) ?_
          refine rw_if_eq ⟨by omega, by omega⟩ (t := 42) rfl (fun hc16 => ?_) (fun hc16 => ?_)
          · skip
            refine rw_blk lk_X9_requireEntry_42 ?_
            refine rw_of (fun rr hrr => q_aload_n rfl (q_iload_n rfl hrr)) ?_
            obtain ⟨_, mm17, pp18, hV19, rfl, rfl, rfl⟩ := c_X9_requirePlace (S := S) (fz := fz) (m := m) (p := p) (d := d) (by omega) (t) (n) (y) hP ht hm (by omega) (by omega)
            refine rw_of (fun rr hrr => q_invS hV19 rfl rfl (okar_cons rfl (okar_cons rfl okar_nil)) (Nat.le_of_ble_eq_true rfl) hrr) ?_
            refine rw_blk lk_X9_requireEntry_47 ?_
            exact rw_ret hQ (q_return) (by exact ⟨rfl, rfl, rfl⟩)
          · skip
            refine rw_of (fun rr hrr => q_iload_n rfl (q_iconst hrr)) ?_
            refine rw_icmp_ne ⟨by omega, by omega⟩ ⟨by omega, by omega⟩ (t := 47) rfl (fun hc20 => ?_) (fun hc20 => ?_)
            · skip
              refine rw_blk lk_X9_requireEntry_47 ?_
              exact rw_ret hQ (q_return) (by exact ⟨rfl, rfl, rfl⟩)
            · skip
              refine rw_blk lk_X9_requireEntry_42 ?_
              refine rw_of (fun rr hrr => q_aload_n rfl (q_iload_n rfl hrr)) ?_
              obtain ⟨_, mm21, pp22, hV23, rfl, rfl, rfl⟩ := c_X9_requirePlace (S := S) (fz := fz) (m := m) (p := p) (d := d) (by omega) (t) (n) (y) hP ht hm (by omega) (by omega)
              refine rw_of (fun rr hrr => q_invS hV23 rfl rfl (okar_cons rfl (okar_cons rfl okar_nil)) (Nat.le_of_ble_eq_true rfl) hrr) ?_
              refine rw_blk lk_X9_requireEntry_47 ?_
              exact rw_ret hQ (q_return) (by exact ⟨rfl, rfl, rfl⟩)
        · skip
          refine rw_blk lk_X9_requireEntry_28 ?_
          refine rw_of (fun rr hrr => q_aload_n rfl (q_iload_n rfl hrr)) ?_
          obtain ⟨_, mm24, pp25, hV26, rfl, rfl, rfl⟩ := c_X9_requirePlace (S := S) (fz := fz) (m := m) (p := p) (d := d) (by omega) (t) (n) (x) hP ht hm (by omega) (by omega)
          refine rw_of (fun rr hrr => q_invS hV26 rfl rfl (okar_cons rfl (okar_cons rfl okar_nil)) (Nat.le_of_ble_eq_true rfl) hrr) ?_
          refine rw_blk lk_X9_requireEntry_33 ?_
          refine rw_of (fun rr hrr => q_iload_n rfl hrr) ?_
          refine rw_if_eq ⟨by omega, by omega⟩ (t := 42) rfl (fun hc27 => ?_) (fun hc27 => ?_)
          · skip
            refine rw_blk lk_X9_requireEntry_42 ?_
            refine rw_of (fun rr hrr => q_aload_n rfl (q_iload_n rfl hrr)) ?_
            obtain ⟨_, mm28, pp29, hV30, rfl, rfl, rfl⟩ := c_X9_requirePlace (S := S) (fz := fz) (m := m) (p := p) (d := d) (by omega) (t) (n) (y) hP ht hm (by omega) (by omega)
            refine rw_of (fun rr hrr => q_invS hV30 rfl rfl (okar_cons rfl (okar_cons rfl okar_nil)) (Nat.le_of_ble_eq_true rfl) hrr) ?_
            refine rw_blk lk_X9_requireEntry_47 ?_
            exact rw_ret hQ (q_return) (by exact ⟨rfl, rfl, rfl⟩)
          · skip
            refine rw_of (fun rr hrr => q_iload_n rfl (q_iconst hrr)) ?_
            refine rw_icmp_ne ⟨by omega, by omega⟩ ⟨by omega, by omega⟩ (t := 47) rfl (fun hc31 => ?_) (fun hc31 => ?_)
            · skip
              refine rw_blk lk_X9_requireEntry_47 ?_
              exact rw_ret hQ (q_return) (by exact ⟨rfl, rfl, rfl⟩)
            · skip
              refine rw_blk lk_X9_requireEntry_42 ?_
              refine rw_of (fun rr hrr => q_aload_n rfl (q_iload_n rfl hrr)) ?_
              obtain ⟨_, mm32, pp33, hV34, rfl, rfl, rfl⟩ := c_X9_requirePlace (S := S) (fz := fz) (m := m) (p := p) (d := d) (by omega) (t) (n) (y) hP ht hm (by omega) (by omega)
              refine rw_of (fun rr hrr => q_invS hV34 rfl rfl (okar_cons rfl (okar_cons rfl okar_nil)) (Nat.le_of_ble_eq_true rfl) hrr) ?_
              refine rw_blk lk_X9_requireEntry_47 ?_
              exact rw_ret hQ (q_return) (by exact ⟨rfl, rfl, rfl⟩)
    · skip
      refine rw_blk lk_X9_requireEntry_9 ?_
      exfalso; omega
theorem c_X9_requireEntry1 {d : Nat} {S : Env} {fz : Bool} {m : M1} {p : M2} (hd : 7 ≤ d) (t n : Nat) (x y : Int) (hP : PI p) (ht : IsPl t) (hm : m t 0 = nF n) (hn : n ≤ 8) (hi : 0 ≤ x ∧ x < n) : Ct d k_X9_requireEntry S fz [.ref (t), .int (iI (1)), .int (iI (x)), .int (iI (y))] m p (fun v m' p' => v = none ∧ m = m' ∧ p = p') := by
  obtain ⟨d, rfl⟩ : ∃ e, d = e + 1 := ⟨d - 1, by omega⟩
  refine ct_go (lv := [some (.ref (t)), some (.int (iI (1))), some (.int (iI (x))), some (.int (iI (y)))]) (Nat.le_of_ble_eq_true rfl) (okar_cons rfl (okar_cons rfl (okar_cons rfl (okar_cons rfl okar_nil)))) rfl (fun Qr hQ => ?_)
  refine rw_blk lk_X9_requireEntry_0 ?_
  refine rw_of (fun rr hrr => q_iload_n rfl hrr) ?_
  refine rw_if_lt ⟨by omega, by omega⟩ (t := 9) rfl (fun hc1 => ?_) (fun hc1 => ?_)
  · skip
    refine rw_blk lk_X9_requireEntry_9 ?_
    exfalso; omega
  · skip
    refine rw_of (fun rr hrr => q_iload_n rfl (q_iconst hrr)) ?_
    refine rw_icmp_le ⟨by omega, by omega⟩ ⟨by omega, by omega⟩ (t := 19) rfl (fun hc2 => ?_) (fun hc2 => ?_)
    · skip
      refine rw_blk lk_X9_requireEntry_19 ?_
      refine rw_of (fun rr hrr => q_iload_n rfl hrr) ?_
      refine rw_if_eq ⟨by omega, by omega⟩ (t := 28) rfl (fun hc3 => ?_) (fun hc3 => ?_)
      · skip
        refine rw_blk lk_X9_requireEntry_28 ?_
        refine rw_of (fun rr hrr => q_aload_n rfl (q_iload_n rfl hrr)) ?_
        obtain ⟨_, mm4, pp5, hV6, rfl, rfl, rfl⟩ := c_X9_requirePlace (S := S) (fz := fz) (m := m) (p := p) (d := d) (by omega) (t) (n) (x) hP ht hm (by omega) (by omega)
        refine rw_of (fun rr hrr => q_invS hV6 rfl rfl (okar_cons rfl (okar_cons rfl okar_nil)) (Nat.le_of_ble_eq_true rfl) hrr) ?_
        refine rw_blk lk_X9_requireEntry_33 ?_
        refine rw_of (fun rr hrr => q_iload_n rfl hrr) ?_
        refine rw_if_eq ⟨by omega, by omega⟩ (t := 42) rfl (fun hc7 => ?_) (fun hc7 => ?_)
        · skip
          refine rw_blk lk_X9_requireEntry_42 ?_
          refine rw_of (fun rr hrr => q_aload_n rfl (q_iload_n rfl hrr)) ?_
          obtain ⟨_, mm8, pp9, hV10, rfl, rfl, rfl⟩ := c_X9_requirePlace (S := S) (fz := fz) (m := m) (p := p) (d := d) (by omega) (t) (n) (y) hP ht hm (by omega) (by omega)
          refine rw_of (fun rr hrr => q_invS hV10 rfl rfl (okar_cons rfl (okar_cons rfl okar_nil)) (Nat.le_of_ble_eq_true rfl) hrr) ?_
          refine rw_blk lk_X9_requireEntry_47 ?_
          exact rw_ret hQ (q_return) (by exact ⟨rfl, rfl, rfl⟩)
        · skip
          refine rw_of (fun rr hrr => q_iload_n rfl (q_iconst hrr)) ?_
          refine rw_icmp_ne ⟨by omega, by omega⟩ ⟨by omega, by omega⟩ (t := 47) rfl (fun hc11 => ?_) (fun hc11 => ?_)
          · skip
            refine rw_blk lk_X9_requireEntry_47 ?_
            exact rw_ret hQ (q_return) (by exact ⟨rfl, rfl, rfl⟩)
          · skip
            refine rw_blk lk_X9_requireEntry_42 ?_
            refine rw_of (fun rr hrr => q_aload_n rfl (q_iload_n rfl hrr)) ?_
            obtain ⟨_, mm12, pp13, hV14, rfl, rfl, rfl⟩ := c_X9_requirePlace (S := S) (fz := fz) (m := m) (p := p) (d := d) (by omega) (t) (n) (y) hP ht hm (by omega) (by omega)
            refine rw_of (fun rr hrr => q_invS hV14 rfl rfl (okar_cons rfl (okar_cons rfl okar_nil)) (Nat.le_of_ble_eq_true rfl) hrr) ?_
            refine rw_blk lk_X9_requireEntry_47 ?_
            exact rw_ret hQ (q_return) (by exact ⟨rfl, rfl, rfl⟩)
      · skip
        refine rw_of (fun rr hrr => q_iload_n rfl (q_iconst hrr)) ?_
        refine rw_icmp_ne ⟨by omega, by omega⟩ ⟨by omega, by omega⟩ (t := 33) rfl (fun hc15 => ?_) (fun hc15 => ?_)
        · skip
          refine rw_blk lk_X9_requireEntry_33 ?_
          refine rw_of (fun rr hrr => q_iload_n rfl hrr) ?_
          refine rw_if_eq ⟨by omega, by omega⟩ (t := 42) rfl (fun hc16 => ?_) (fun hc16 => ?_)
          · skip
            refine rw_blk lk_X9_requireEntry_42 ?_
            refine rw_of (fun rr hrr => q_aload_n rfl (q_iload_n rfl hrr)) ?_
            obtain ⟨_, mm17, pp18, hV19, rfl, rfl, rfl⟩ := c_X9_requirePlace (S := S) (fz := fz) (m := m) (p := p) (d := d) (by omega) (t) (n) (y) hP ht hm (by omega) (by omega)
            refine rw_of (fun rr hrr => q_invS hV19 rfl rfl (okar_cons rfl (okar_cons rfl okar_nil)) (Nat.le_of_ble_eq_true rfl) hrr) ?_
            refine rw_blk lk_X9_requireEntry_47 ?_
            exact rw_ret hQ (q_return) (by exact ⟨rfl, rfl, rfl⟩)
          · skip
            refine rw_of (fun rr hrr => q_iload_n rfl (q_iconst hrr)) ?_
            refine rw_icmp_ne ⟨by omega, by omega⟩ ⟨by omega, by omega⟩ (t := 47) rfl (fun hc20 => ?_) (fun hc20 => ?_)
            · skip
              refine rw_blk lk_X9_requireEntry_47 ?_
              exact rw_ret hQ (q_return) (by exact ⟨rfl, rfl, rfl⟩)
            · skip
              refine rw_blk lk_X9_requireEntry_42 ?_
              refine rw_of (fun rr hrr => q_aload_n rfl (q_iload_n rfl hrr)) ?_
              obtain ⟨_, mm21, pp22, hV23, rfl, rfl, rfl⟩ := c_X9_requirePlace (S := S) (fz := fz) (m := m) (p := p) (d := d) (by omega) (t) (n) (y) hP ht hm (by omega) (by omega)
              refine rw_of (fun rr hrr => q_invS hV23 rfl rfl (okar_cons rfl (okar_cons rfl okar_nil)) (Nat.le_of_ble_eq_true rfl) hrr) ?_
              refine rw_blk lk_X9_requireEntry_47 ?_
              exact rw_ret hQ (q_return) (by exact ⟨rfl, rfl, rfl⟩)
        · skip
          refine rw_blk lk_X9_requireEntry_28 ?_
          refine rw_of (fun rr hrr => q_aload_n rfl (q_iload_n rfl hrr)) ?_
          obtain ⟨_, mm24, pp25, hV26, rfl, rfl, rfl⟩ := c_X9_requirePlace (S := S) (fz := fz) (m := m) (p := p) (d := d) (by omega) (t) (n) (x) hP ht hm (by omega) (by omega)
          refine rw_of (fun rr hrr => q_invS hV26 rfl rfl (okar_cons rfl (okar_cons rfl okar_nil)) (Nat.le_of_ble_eq_true rfl) hrr) ?_
          refine rw_blk lk_X9_requireEntry_33 ?_
          refine rw_of (fun rr hrr => q_iload_n rfl hrr) ?_
          refine rw_if_eq ⟨by omega, by omega⟩ (t := 42) rfl (fun hc27 => ?_) (fun hc27 => ?_)
          · skip
            refine rw_blk lk_X9_requireEntry_42 ?_
            refine rw_of (fun rr hrr => q_aload_n rfl (q_iload_n rfl hrr)) ?_
            obtain ⟨_, mm28, pp29, hV30, rfl, rfl, rfl⟩ := c_X9_requirePlace (S := S) (fz := fz) (m := m) (p := p) (d := d) (by omega) (t) (n) (y) hP ht hm (by omega) (by omega)
            refine rw_of (fun rr hrr => q_invS hV30 rfl rfl (okar_cons rfl (okar_cons rfl okar_nil)) (Nat.le_of_ble_eq_true rfl) hrr) ?_
            refine rw_blk lk_X9_requireEntry_47 ?_
            exact rw_ret hQ (q_return) (by exact ⟨rfl, rfl, rfl⟩)
          · skip
            refine rw_of (fun rr hrr => q_iload_n rfl (q_iconst hrr)) ?_
            refine rw_icmp_ne ⟨by omega, by omega⟩ ⟨by omega, by omega⟩ (t := 47) rfl (fun hc31 => ?_) (fun hc31 => ?_)
            · skip
              refine rw_blk lk_X9_requireEntry_47 ?_
              exact rw_ret hQ (q_return) (by exact ⟨rfl, rfl, rfl⟩)
            · skip
              refine rw_blk lk_X9_requireEntry_42 ?_
              refine rw_of (fun rr hrr => q_aload_n rfl (q_iload_n rfl hrr)) ?_
              obtain ⟨_, mm32, pp33, hV34, rfl, rfl, rfl⟩ := c_X9_requirePlace (S := S) (fz := fz) (m := m) (p := p) (d := d) (by omega) (t) (n) (y) hP ht hm (by omega) (by omega)
              refine rw_of (fun rr hrr => q_invS hV34 rfl rfl (okar_cons rfl (okar_cons rfl okar_nil)) (Nat.le_of_ble_eq_true rfl) hrr) ?_
              refine rw_blk lk_X9_requireEntry_47 ?_
              exact rw_ret hQ (q_return) (by exact ⟨rfl, rfl, rfl⟩)
    · skip
      refine rw_blk lk_X9_requireEntry_9 ?_
      exfalso; omega
theorem c_X9_requireEntry2 {d : Nat} {S : Env} {fz : Bool} {m : M1} {p : M2} (hd : 7 ≤ d) (t n : Nat) (x y : Int) (hP : PI p) (ht : IsPl t) (hm : m t 0 = nF n) (hn : n ≤ 8) (hj : 0 ≤ y ∧ y < n) : Ct d k_X9_requireEntry S fz [.ref (t), .int (iI (2)), .int (iI (x)), .int (iI (y))] m p (fun v m' p' => v = none ∧ m = m' ∧ p = p') := by
  obtain ⟨d, rfl⟩ : ∃ e, d = e + 1 := ⟨d - 1, by omega⟩
  refine ct_go (lv := [some (.ref (t)), some (.int (iI (2))), some (.int (iI (x))), some (.int (iI (y)))]) (Nat.le_of_ble_eq_true rfl) (okar_cons rfl (okar_cons rfl (okar_cons rfl (okar_cons rfl okar_nil)))) rfl (fun Qr hQ => ?_)
  refine rw_blk lk_X9_requireEntry_0 ?_
  refine rw_of (fun rr hrr => q_iload_n rfl hrr) ?_
  refine rw_if_lt ⟨by omega, by omega⟩ (t := 9) rfl (fun hc1 => ?_) (fun hc1 => ?_)
  · skip
    refine rw_blk lk_X9_requireEntry_9 ?_
    exfalso; omega
  · skip
    refine rw_of (fun rr hrr => q_iload_n rfl (q_iconst hrr)) ?_
    refine rw_icmp_le ⟨by omega, by omega⟩ ⟨by omega, by omega⟩ (t := 19) rfl (fun hc2 => ?_) (fun hc2 => ?_)
    · skip
      refine rw_blk lk_X9_requireEntry_19 ?_
      refine rw_of (fun rr hrr => q_iload_n rfl hrr) ?_
      refine rw_if_eq ⟨by omega, by omega⟩ (t := 28) rfl (fun hc3 => ?_) (fun hc3 => ?_)
      · skip
        refine rw_blk lk_X9_requireEntry_28 ?_
        refine rw_of (fun rr hrr => q_aload_n rfl (q_iload_n rfl hrr)) ?_
        obtain ⟨_, mm4, pp5, hV6, rfl, rfl, rfl⟩ := c_X9_requirePlace (S := S) (fz := fz) (m := m) (p := p) (d := d) (by omega) (t) (n) (x) hP ht hm (by omega) (by omega)
        refine rw_of (fun rr hrr => q_invS hV6 rfl rfl (okar_cons rfl (okar_cons rfl okar_nil)) (Nat.le_of_ble_eq_true rfl) hrr) ?_
        refine rw_blk lk_X9_requireEntry_33 ?_
        refine rw_of (fun rr hrr => q_iload_n rfl hrr) ?_
        refine rw_if_eq ⟨by omega, by omega⟩ (t := 42) rfl (fun hc7 => ?_) (fun hc7 => ?_)
        · skip
          refine rw_blk lk_X9_requireEntry_42 ?_
          refine rw_of (fun rr hrr => q_aload_n rfl (q_iload_n rfl hrr)) ?_
          obtain ⟨_, mm8, pp9, hV10, rfl, rfl, rfl⟩ := c_X9_requirePlace (S := S) (fz := fz) (m := m) (p := p) (d := d) (by omega) (t) (n) (y) hP ht hm (by omega) (by omega)
          refine rw_of (fun rr hrr => q_invS hV10 rfl rfl (okar_cons rfl (okar_cons rfl okar_nil)) (Nat.le_of_ble_eq_true rfl) hrr) ?_
          refine rw_blk lk_X9_requireEntry_47 ?_
          exact rw_ret hQ (q_return) (by exact ⟨rfl, rfl, rfl⟩)
        · skip
          refine rw_of (fun rr hrr => q_iload_n rfl (q_iconst hrr)) ?_
          refine rw_icmp_ne ⟨by omega, by omega⟩ ⟨by omega, by omega⟩ (t := 47) rfl (fun hc11 => ?_) (fun hc11 => ?_)
          · skip
            refine rw_blk lk_X9_requireEntry_47 ?_
            exact rw_ret hQ (q_return) (by exact ⟨rfl, rfl, rfl⟩)
          · skip
            refine rw_blk lk_X9_requireEntry_42 ?_
            refine rw_of (fun rr hrr => q_aload_n rfl (q_iload_n rfl hrr)) ?_
            obtain ⟨_, mm12, pp13, hV14, rfl, rfl, rfl⟩ := c_X9_requirePlace (S := S) (fz := fz) (m := m) (p := p) (d := d) (by omega) (t) (n) (y) hP ht hm (by omega) (by omega)
            refine rw_of (fun rr hrr => q_invS hV14 rfl rfl (okar_cons rfl (okar_cons rfl okar_nil)) (Nat.le_of_ble_eq_true rfl) hrr) ?_
            refine rw_blk lk_X9_requireEntry_47 ?_
            exact rw_ret hQ (q_return) (by exact ⟨rfl, rfl, rfl⟩)
      · skip
        refine rw_of (fun rr hrr => q_iload_n rfl (q_iconst hrr)) ?_
        refine rw_icmp_ne ⟨by omega, by omega⟩ ⟨by omega, by omega⟩ (t := 33) rfl (fun hc15 => ?_) (fun hc15 => ?_)
        · skip
          refine rw_blk lk_X9_requireEntry_33 ?_
          refine rw_of (fun rr hrr => q_iload_n rfl hrr) ?_
          refine rw_if_eq ⟨by omega, by omega⟩ (t := 42) rfl (fun hc16 => ?_) (fun hc16 => ?_)
          · skip
            refine rw_blk lk_X9_requireEntry_42 ?_
            refine rw_of (fun rr hrr => q_aload_n rfl (q_iload_n rfl hrr)) ?_
            obtain ⟨_, mm17, pp18, hV19, rfl, rfl, rfl⟩ := c_X9_requirePlace (S := S) (fz := fz) (m := m) (p := p) (d := d) (by omega) (t) (n) (y) hP ht hm (by omega) (by omega)
            refine rw_of (fun rr hrr => q_invS hV19 rfl rfl (okar_cons rfl (okar_cons rfl okar_nil)) (Nat.le_of_ble_eq_true rfl) hrr) ?_
            refine rw_blk lk_X9_requireEntry_47 ?_
            exact rw_ret hQ (q_return) (by exact ⟨rfl, rfl, rfl⟩)
          · skip
            refine rw_of (fun rr hrr => q_iload_n rfl (q_iconst hrr)) ?_
            refine rw_icmp_ne ⟨by omega, by omega⟩ ⟨by omega, by omega⟩ (t := 47) rfl (fun hc20 => ?_) (fun hc20 => ?_)
            · skip
              refine rw_blk lk_X9_requireEntry_47 ?_
              exact rw_ret hQ (q_return) (by exact ⟨rfl, rfl, rfl⟩)
            · skip
              refine rw_blk lk_X9_requireEntry_42 ?_
              refine rw_of (fun rr hrr => q_aload_n rfl (q_iload_n rfl hrr)) ?_
              obtain ⟨_, mm21, pp22, hV23, rfl, rfl, rfl⟩ := c_X9_requirePlace (S := S) (fz := fz) (m := m) (p := p) (d := d) (by omega) (t) (n) (y) hP ht hm (by omega) (by omega)
              refine rw_of (fun rr hrr => q_invS hV23 rfl rfl (okar_cons rfl (okar_cons rfl okar_nil)) (Nat.le_of_ble_eq_true rfl) hrr) ?_
              refine rw_blk lk_X9_requireEntry_47 ?_
              exact rw_ret hQ (q_return) (by exact ⟨rfl, rfl, rfl⟩)
        · skip
          refine rw_blk lk_X9_requireEntry_28 ?_
          refine rw_of (fun rr hrr => q_aload_n rfl (q_iload_n rfl hrr)) ?_
          obtain ⟨_, mm24, pp25, hV26, rfl, rfl, rfl⟩ := c_X9_requirePlace (S := S) (fz := fz) (m := m) (p := p) (d := d) (by omega) (t) (n) (x) hP ht hm (by omega) (by omega)
          refine rw_of (fun rr hrr => q_invS hV26 rfl rfl (okar_cons rfl (okar_cons rfl okar_nil)) (Nat.le_of_ble_eq_true rfl) hrr) ?_
          refine rw_blk lk_X9_requireEntry_33 ?_
          refine rw_of (fun rr hrr => q_iload_n rfl hrr) ?_
          refine rw_if_eq ⟨by omega, by omega⟩ (t := 42) rfl (fun hc27 => ?_) (fun hc27 => ?_)
          · skip
            refine rw_blk lk_X9_requireEntry_42 ?_
            refine rw_of (fun rr hrr => q_aload_n rfl (q_iload_n rfl hrr)) ?_
            obtain ⟨_, mm28, pp29, hV30, rfl, rfl, rfl⟩ := c_X9_requirePlace (S := S) (fz := fz) (m := m) (p := p) (d := d) (by omega) (t) (n) (y) hP ht hm (by omega) (by omega)
            refine rw_of (fun rr hrr => q_invS hV30 rfl rfl (okar_cons rfl (okar_cons rfl okar_nil)) (Nat.le_of_ble_eq_true rfl) hrr) ?_
            refine rw_blk lk_X9_requireEntry_47 ?_
            exact rw_ret hQ (q_return) (by exact ⟨rfl, rfl, rfl⟩)
          · skip
            refine rw_of (fun rr hrr => q_iload_n rfl (q_iconst hrr)) ?_
            refine rw_icmp_ne ⟨by omega, by omega⟩ ⟨by omega, by omega⟩ (t := 47) rfl (fun hc31 => ?_) (fun hc31 => ?_)
            · skip
              refine rw_blk lk_X9_requireEntry_47 ?_
              exact rw_ret hQ (q_return) (by exact ⟨rfl, rfl, rfl⟩)
            · skip
              refine rw_blk lk_X9_requireEntry_42 ?_
              refine rw_of (fun rr hrr => q_aload_n rfl (q_iload_n rfl hrr)) ?_
              obtain ⟨_, mm32, pp33, hV34, rfl, rfl, rfl⟩ := c_X9_requirePlace (S := S) (fz := fz) (m := m) (p := p) (d := d) (by omega) (t) (n) (y) hP ht hm (by omega) (by omega)
              refine rw_of (fun rr hrr => q_invS hV34 rfl rfl (okar_cons rfl (okar_cons rfl okar_nil)) (Nat.le_of_ble_eq_true rfl) hrr) ?_
              refine rw_blk lk_X9_requireEntry_47 ?_
              exact rw_ret hQ (q_return) (by exact ⟨rfl, rfl, rfl⟩)
    · skip
      refine rw_blk lk_X9_requireEntry_9 ?_
      exfalso; omega
theorem c_X9_requireEntry3 {d : Nat} {S : Env} {fz : Bool} {m : M1} {p : M2} (hd : 7 ≤ d) (t n : Nat) (x y : Int) (hP : PI p) (ht : IsPl t) (hm : m t 0 = nF n) (hn : n ≤ 8) : Ct d k_X9_requireEntry S fz [.ref (t), .int (iI (3)), .int (iI (x)), .int (iI (y))] m p (fun v m' p' => v = none ∧ m = m' ∧ p = p') := by
  obtain ⟨d, rfl⟩ : ∃ e, d = e + 1 := ⟨d - 1, by omega⟩
  refine ct_go (lv := [some (.ref (t)), some (.int (iI (3))), some (.int (iI (x))), some (.int (iI (y)))]) (Nat.le_of_ble_eq_true rfl) (okar_cons rfl (okar_cons rfl (okar_cons rfl (okar_cons rfl okar_nil)))) rfl (fun Qr hQ => ?_)
  refine rw_blk lk_X9_requireEntry_0 ?_
  refine rw_of (fun rr hrr => q_iload_n rfl hrr) ?_
  refine rw_if_lt ⟨by omega, by omega⟩ (t := 9) rfl (fun hc1 => ?_) (fun hc1 => ?_)
  · skip
    refine rw_blk lk_X9_requireEntry_9 ?_
    exfalso; omega
  · skip
    refine rw_of (fun rr hrr => q_iload_n rfl (q_iconst hrr)) ?_
    refine rw_icmp_le ⟨by omega, by omega⟩ ⟨by omega, by omega⟩ (t := 19) rfl (fun hc2 => ?_) (fun hc2 => ?_)
    · skip
      refine rw_blk lk_X9_requireEntry_19 ?_
      refine rw_of (fun rr hrr => q_iload_n rfl hrr) ?_
      refine rw_if_eq ⟨by omega, by omega⟩ (t := 28) rfl (fun hc3 => ?_) (fun hc3 => ?_)
      · skip
        refine rw_blk lk_X9_requireEntry_28 ?_
        refine rw_of (fun rr hrr => q_aload_n rfl (q_iload_n rfl hrr)) ?_
        obtain ⟨_, mm4, pp5, hV6, rfl, rfl, rfl⟩ := c_X9_requirePlace (S := S) (fz := fz) (m := m) (p := p) (d := d) (by omega) (t) (n) (x) hP ht hm (by omega) (by omega)
        refine rw_of (fun rr hrr => q_invS hV6 rfl rfl (okar_cons rfl (okar_cons rfl okar_nil)) (Nat.le_of_ble_eq_true rfl) hrr) ?_
        refine rw_blk lk_X9_requireEntry_33 ?_
        refine rw_of (fun rr hrr => q_iload_n rfl hrr) ?_
        refine rw_if_eq ⟨by omega, by omega⟩ (t := 42) rfl (fun hc7 => ?_) (fun hc7 => ?_)
        · skip
          refine rw_blk lk_X9_requireEntry_42 ?_
          refine rw_of (fun rr hrr => q_aload_n rfl (q_iload_n rfl hrr)) ?_
          obtain ⟨_, mm8, pp9, hV10, rfl, rfl, rfl⟩ := c_X9_requirePlace (S := S) (fz := fz) (m := m) (p := p) (d := d) (by omega) (t) (n) (y) hP ht hm (by omega) (by omega)
          refine rw_of (fun rr hrr => q_invS hV10 rfl rfl (okar_cons rfl (okar_cons rfl okar_nil)) (Nat.le_of_ble_eq_true rfl) hrr) ?_
          refine rw_blk lk_X9_requireEntry_47 ?_
          exact rw_ret hQ (q_return) (by exact ⟨rfl, rfl, rfl⟩)
        · skip
          refine rw_of (fun rr hrr => q_iload_n rfl (q_iconst hrr)) ?_
          refine rw_icmp_ne ⟨by omega, by omega⟩ ⟨by omega, by omega⟩ (t := 47) rfl (fun hc11 => ?_) (fun hc11 => ?_)
          · skip
            refine rw_blk lk_X9_requireEntry_47 ?_
            exact rw_ret hQ (q_return) (by exact ⟨rfl, rfl, rfl⟩)
          · skip
            refine rw_blk lk_X9_requireEntry_42 ?_
            refine rw_of (fun rr hrr => q_aload_n rfl (q_iload_n rfl hrr)) ?_
            obtain ⟨_, mm12, pp13, hV14, rfl, rfl, rfl⟩ := c_X9_requirePlace (S := S) (fz := fz) (m := m) (p := p) (d := d) (by omega) (t) (n) (y) hP ht hm (by omega) (by omega)
            refine rw_of (fun rr hrr => q_invS hV14 rfl rfl (okar_cons rfl (okar_cons rfl okar_nil)) (Nat.le_of_ble_eq_true rfl) hrr) ?_
            refine rw_blk lk_X9_requireEntry_47 ?_
            exact rw_ret hQ (q_return) (by exact ⟨rfl, rfl, rfl⟩)
      · skip
        refine rw_of (fun rr hrr => q_iload_n rfl (q_iconst hrr)) ?_
        refine rw_icmp_ne ⟨by omega, by omega⟩ ⟨by omega, by omega⟩ (t := 33) rfl (fun hc15 => ?_) (fun hc15 => ?_)
        · skip
          refine rw_blk lk_X9_requireEntry_33 ?_
          refine rw_of (fun rr hrr => q_iload_n rfl hrr) ?_
          refine rw_if_eq ⟨by omega, by omega⟩ (t := 42) rfl (fun hc16 => ?_) (fun hc16 => ?_)
          · skip
            refine rw_blk lk_X9_requireEntry_42 ?_
            refine rw_of (fun rr hrr => q_aload_n rfl (q_iload_n rfl hrr)) ?_
            obtain ⟨_, mm17, pp18, hV19, rfl, rfl, rfl⟩ := c_X9_requirePlace (S := S) (fz := fz) (m := m) (p := p) (d := d) (by omega) (t) (n) (y) hP ht hm (by omega) (by omega)
            refine rw_of (fun rr hrr => q_invS hV19 rfl rfl (okar_cons rfl (okar_cons rfl okar_nil)) (Nat.le_of_ble_eq_true rfl) hrr) ?_
            refine rw_blk lk_X9_requireEntry_47 ?_
            exact rw_ret hQ (q_return) (by exact ⟨rfl, rfl, rfl⟩)
          · skip
            refine rw_of (fun rr hrr => q_iload_n rfl (q_iconst hrr)) ?_
            refine rw_icmp_ne ⟨by omega, by omega⟩ ⟨by omega, by omega⟩ (t := 47) rfl (fun hc20 => ?_) (fun hc20 => ?_)
            · skip
              refine rw_blk lk_X9_requireEntry_47 ?_
              exact rw_ret hQ (q_return) (by exact ⟨rfl, rfl, rfl⟩)
            · skip
              refine rw_blk lk_X9_requireEntry_42 ?_
              refine rw_of (fun rr hrr => q_aload_n rfl (q_iload_n rfl hrr)) ?_
              obtain ⟨_, mm21, pp22, hV23, rfl, rfl, rfl⟩ := c_X9_requirePlace (S := S) (fz := fz) (m := m) (p := p) (d := d) (by omega) (t) (n) (y) hP ht hm (by omega) (by omega)
              refine rw_of (fun rr hrr => q_invS hV23 rfl rfl (okar_cons rfl (okar_cons rfl okar_nil)) (Nat.le_of_ble_eq_true rfl) hrr) ?_
              refine rw_blk lk_X9_requireEntry_47 ?_
              exact rw_ret hQ (q_return) (by exact ⟨rfl, rfl, rfl⟩)
        · skip
          refine rw_blk lk_X9_requireEntry_28 ?_
          refine rw_of (fun rr hrr => q_aload_n rfl (q_iload_n rfl hrr)) ?_
          obtain ⟨_, mm24, pp25, hV26, rfl, rfl, rfl⟩ := c_X9_requirePlace (S := S) (fz := fz) (m := m) (p := p) (d := d) (by omega) (t) (n) (x) hP ht hm (by omega) (by omega)
          refine rw_of (fun rr hrr => q_invS hV26 rfl rfl (okar_cons rfl (okar_cons rfl okar_nil)) (Nat.le_of_ble_eq_true rfl) hrr) ?_
          refine rw_blk lk_X9_requireEntry_33 ?_
          refine rw_of (fun rr hrr => q_iload_n rfl hrr) ?_
          refine rw_if_eq ⟨by omega, by omega⟩ (t := 42) rfl (fun hc27 => ?_) (fun hc27 => ?_)
          · skip
            refine rw_blk lk_X9_requireEntry_42 ?_
            refine rw_of (fun rr hrr => q_aload_n rfl (q_iload_n rfl hrr)) ?_
            obtain ⟨_, mm28, pp29, hV30, rfl, rfl, rfl⟩ := c_X9_requirePlace (S := S) (fz := fz) (m := m) (p := p) (d := d) (by omega) (t) (n) (y) hP ht hm (by omega) (by omega)
            refine rw_of (fun rr hrr => q_invS hV30 rfl rfl (okar_cons rfl (okar_cons rfl okar_nil)) (Nat.le_of_ble_eq_true rfl) hrr) ?_
            refine rw_blk lk_X9_requireEntry_47 ?_
            exact rw_ret hQ (q_return) (by exact ⟨rfl, rfl, rfl⟩)
          · skip
            refine rw_of (fun rr hrr => q_iload_n rfl (q_iconst hrr)) ?_
            refine rw_icmp_ne ⟨by omega, by omega⟩ ⟨by omega, by omega⟩ (t := 47) rfl (fun hc31 => ?_) (fun hc31 => ?_)
            · skip
              refine rw_blk lk_X9_requireEntry_47 ?_
              exact rw_ret hQ (q_return) (by exact ⟨rfl, rfl, rfl⟩)
            · skip
              refine rw_blk lk_X9_requireEntry_42 ?_
              refine rw_of (fun rr hrr => q_aload_n rfl (q_iload_n rfl hrr)) ?_
              obtain ⟨_, mm32, pp33, hV34, rfl, rfl, rfl⟩ := c_X9_requirePlace (S := S) (fz := fz) (m := m) (p := p) (d := d) (by omega) (t) (n) (y) hP ht hm (by omega) (by omega)
              refine rw_of (fun rr hrr => q_invS hV34 rfl rfl (okar_cons rfl (okar_cons rfl okar_nil)) (Nat.le_of_ble_eq_true rfl) hrr) ?_
              refine rw_blk lk_X9_requireEntry_47 ?_
              exact rw_ret hQ (q_return) (by exact ⟨rfl, rfl, rfl⟩)
    · skip
      refine rw_blk lk_X9_requireEntry_9 ?_
      exfalso; omega
theorem t_X9_requireEntry {d : Nat} {S : Env} {fz : Bool} {m : M1} {p : M2} (hd : 7 ≤ d) (t n : Nat) (w x y : Int) (hP : PI p) (ht : IsPl t) (hm : m t 0 = nF n) (hn : n ≤ 8) (hr : (-2147483648 ≤ w ∧ w < 2147483648)) (h : w < 0 ∨ 3 < w) : Tx d k_X9_requireEntry S fz [.ref (t), .int (iI (w)), .int (iI (x)), .int (iI (y))] m p 0 (fun m' p' => m = m' ∧ p = p') := by
  obtain ⟨d, rfl⟩ : ∃ e, d = e + 1 := ⟨d - 1, by omega⟩
  refine tx_go (lv := [some (.ref (t)), some (.int (iI (w))), some (.int (iI (x))), some (.int (iI (y)))]) (Nat.le_of_ble_eq_true rfl) (okar_cons rfl (okar_cons rfl (okar_cons rfl (okar_cons rfl okar_nil)))) (by decide) (by omega) rfl (fun Qr hQ => ?_)
  refine rw_blk lk_X9_requireEntry_0 ?_
  refine rw_of (fun rr hrr => q_iload_n rfl hrr) ?_
  refine rw_if_lt ⟨by omega, by omega⟩ (t := 9) rfl (fun hc1 => ?_) (fun hc1 => ?_)
  · skip
    refine rw_blk lk_X9_requireEntry_9 ?_
    refine rw_end (q_throw (by decide) (by decide +kernel) rfl) ?_
    rw [hQ]
    refine ⟨_, _, rfl, ?_⟩
    exact ⟨rfl, rfl⟩
  · skip
    refine rw_of (fun rr hrr => q_iload_n rfl (q_iconst hrr)) ?_
    refine rw_icmp_le ⟨by omega, by omega⟩ ⟨by omega, by omega⟩ (t := 19) rfl (fun hc2 => ?_) (fun hc2 => ?_)
    · skip
      refine rw_blk lk_X9_requireEntry_19 ?_
      refine rw_of (fun rr hrr => q_iload_n rfl hrr) ?_
      refine rw_if_eq ⟨by omega, by omega⟩ (t := 28) rfl (fun hc3 => ?_) (fun hc3 => ?_)
      · skip
        refine rw_blk lk_X9_requireEntry_28 ?_
        refine rw_of (fun rr hrr => q_aload_n rfl (q_iload_n rfl hrr)) ?_
        obtain ⟨_, mm4, pp5, hV6, rfl, rfl, rfl⟩ := c_X9_requirePlace (S := S) (fz := fz) (m := m) (p := p) (d := d) (by omega) (t) (n) (x) hP ht hm (by omega) (by omega)
        refine rw_of (fun rr hrr => q_invS hV6 rfl rfl (okar_cons rfl (okar_cons rfl okar_nil)) (Nat.le_of_ble_eq_true rfl) hrr) ?_
        refine rw_blk lk_X9_requireEntry_33 ?_
        refine rw_of (fun rr hrr => q_iload_n rfl hrr) ?_
        refine rw_if_eq ⟨by omega, by omega⟩ (t := 42) rfl (fun hc7 => ?_) (fun hc7 => ?_)
        · skip
          refine rw_blk lk_X9_requireEntry_42 ?_
          refine rw_of (fun rr hrr => q_aload_n rfl (q_iload_n rfl hrr)) ?_
          obtain ⟨_, mm8, pp9, hV10, rfl, rfl, rfl⟩ := c_X9_requirePlace (S := S) (fz := fz) (m := m) (p := p) (d := d) (by omega) (t) (n) (y) hP ht hm (by omega) (by omega)
          refine rw_of (fun rr hrr => q_invS hV10 rfl rfl (okar_cons rfl (okar_cons rfl okar_nil)) (Nat.le_of_ble_eq_true rfl) hrr) ?_
          refine rw_blk lk_X9_requireEntry_47 ?_
          exfalso; omega
        · skip
          refine rw_of (fun rr hrr => q_iload_n rfl (q_iconst hrr)) ?_
          refine rw_icmp_ne ⟨by omega, by omega⟩ ⟨by omega, by omega⟩ (t := 47) rfl (fun hc11 => ?_) (fun hc11 => ?_)
          · skip
            refine rw_blk lk_X9_requireEntry_47 ?_
            exfalso; omega
          · skip
            refine rw_blk lk_X9_requireEntry_42 ?_
            refine rw_of (fun rr hrr => q_aload_n rfl (q_iload_n rfl hrr)) ?_
            obtain ⟨_, mm12, pp13, hV14, rfl, rfl, rfl⟩ := c_X9_requirePlace (S := S) (fz := fz) (m := m) (p := p) (d := d) (by omega) (t) (n) (y) hP ht hm (by omega) (by omega)
            refine rw_of (fun rr hrr => q_invS hV14 rfl rfl (okar_cons rfl (okar_cons rfl okar_nil)) (Nat.le_of_ble_eq_true rfl) hrr) ?_
            refine rw_blk lk_X9_requireEntry_47 ?_
            exfalso; omega
      · skip
        refine rw_of (fun rr hrr => q_iload_n rfl (q_iconst hrr)) ?_
        refine rw_icmp_ne ⟨by omega, by omega⟩ ⟨by omega, by omega⟩ (t := 33) rfl (fun hc15 => ?_) (fun hc15 => ?_)
        · skip
          refine rw_blk lk_X9_requireEntry_33 ?_
          refine rw_of (fun rr hrr => q_iload_n rfl hrr) ?_
          refine rw_if_eq ⟨by omega, by omega⟩ (t := 42) rfl (fun hc16 => ?_) (fun hc16 => ?_)
          · skip
            refine rw_blk lk_X9_requireEntry_42 ?_
            refine rw_of (fun rr hrr => q_aload_n rfl (q_iload_n rfl hrr)) ?_
            obtain ⟨_, mm17, pp18, hV19, rfl, rfl, rfl⟩ := c_X9_requirePlace (S := S) (fz := fz) (m := m) (p := p) (d := d) (by omega) (t) (n) (y) hP ht hm (by omega) (by omega)
            refine rw_of (fun rr hrr => q_invS hV19 rfl rfl (okar_cons rfl (okar_cons rfl okar_nil)) (Nat.le_of_ble_eq_true rfl) hrr) ?_
            refine rw_blk lk_X9_requireEntry_47 ?_
            exfalso; omega
          · skip
            refine rw_of (fun rr hrr => q_iload_n rfl (q_iconst hrr)) ?_
            refine rw_icmp_ne ⟨by omega, by omega⟩ ⟨by omega, by omega⟩ (t := 47) rfl (fun hc20 => ?_) (fun hc20 => ?_)
            · skip
              refine rw_blk lk_X9_requireEntry_47 ?_
              exfalso; omega
            · skip
              refine rw_blk lk_X9_requireEntry_42 ?_
              refine rw_of (fun rr hrr => q_aload_n rfl (q_iload_n rfl hrr)) ?_
              obtain ⟨_, mm21, pp22, hV23, rfl, rfl, rfl⟩ := c_X9_requirePlace (S := S) (fz := fz) (m := m) (p := p) (d := d) (by omega) (t) (n) (y) hP ht hm (by omega) (by omega)
              refine rw_of (fun rr hrr => q_invS hV23 rfl rfl (okar_cons rfl (okar_cons rfl okar_nil)) (Nat.le_of_ble_eq_true rfl) hrr) ?_
              refine rw_blk lk_X9_requireEntry_47 ?_
              exfalso; omega
        · skip
          refine rw_blk lk_X9_requireEntry_28 ?_
          refine rw_of (fun rr hrr => q_aload_n rfl (q_iload_n rfl hrr)) ?_
          obtain ⟨_, mm24, pp25, hV26, rfl, rfl, rfl⟩ := c_X9_requirePlace (S := S) (fz := fz) (m := m) (p := p) (d := d) (by omega) (t) (n) (x) hP ht hm (by omega) (by omega)
          refine rw_of (fun rr hrr => q_invS hV26 rfl rfl (okar_cons rfl (okar_cons rfl okar_nil)) (Nat.le_of_ble_eq_true rfl) hrr) ?_
          refine rw_blk lk_X9_requireEntry_33 ?_
          refine rw_of (fun rr hrr => q_iload_n rfl hrr) ?_
          refine rw_if_eq ⟨by omega, by omega⟩ (t := 42) rfl (fun hc27 => ?_) (fun hc27 => ?_)
          · skip
            refine rw_blk lk_X9_requireEntry_42 ?_
            refine rw_of (fun rr hrr => q_aload_n rfl (q_iload_n rfl hrr)) ?_
            obtain ⟨_, mm28, pp29, hV30, rfl, rfl, rfl⟩ := c_X9_requirePlace (S := S) (fz := fz) (m := m) (p := p) (d := d) (by omega) (t) (n) (y) hP ht hm (by omega) (by omega)
            refine rw_of (fun rr hrr => q_invS hV30 rfl rfl (okar_cons rfl (okar_cons rfl okar_nil)) (Nat.le_of_ble_eq_true rfl) hrr) ?_
            refine rw_blk lk_X9_requireEntry_47 ?_
            exfalso; omega
          · skip
            refine rw_of (fun rr hrr => q_iload_n rfl (q_iconst hrr)) ?_
            refine rw_icmp_ne ⟨by omega, by omega⟩ ⟨by omega, by omega⟩ (t := 47) rfl (fun hc31 => ?_) (fun hc31 => ?_)
            · skip
              refine rw_blk lk_X9_requireEntry_47 ?_
              exfalso; omega
            · skip
              refine rw_blk lk_X9_requireEntry_42 ?_
              refine rw_of (fun rr hrr => q_aload_n rfl (q_iload_n rfl hrr)) ?_
              obtain ⟨_, mm32, pp33, hV34, rfl, rfl, rfl⟩ := c_X9_requirePlace (S := S) (fz := fz) (m := m) (p := p) (d := d) (by omega) (t) (n) (y) hP ht hm (by omega) (by omega)
              refine rw_of (fun rr hrr => q_invS hV34 rfl rfl (okar_cons rfl (okar_cons rfl okar_nil)) (Nat.le_of_ble_eq_true rfl) hrr) ?_
              refine rw_blk lk_X9_requireEntry_47 ?_
              exfalso; omega
    · skip
      refine rw_blk lk_X9_requireEntry_9 ?_
      refine rw_end (q_throw (by decide) (by decide +kernel) rfl) ?_
      rw [hQ]
      refine ⟨_, _, rfl, ?_⟩
      exact ⟨rfl, rfl⟩
theorem t_X9_requireEntry0 {d : Nat} {S : Env} {fz : Bool} {m : M1} {p : M2} (hd : 7 ≤ d) (t n : Nat) (x y : Int) (hP : PI p) (ht : IsPl t) (hm : m t 0 = nF n) (hn : n ≤ 8) (hr : (-2147483648 ≤ x ∧ x < 2147483648)) (h : x < 0 ∨ n ≤ x) : Tx d k_X9_requireEntry S fz [.ref (t), .int (iI (0)), .int (iI (x)), .int (iI (y))] m p 0 (fun m' p' => m = m' ∧ p = p') := by
  obtain ⟨d, rfl⟩ : ∃ e, d = e + 1 := ⟨d - 1, by omega⟩
  refine tx_go (lv := [some (.ref (t)), some (.int (iI (0))), some (.int (iI (x))), some (.int (iI (y)))]) (Nat.le_of_ble_eq_true rfl) (okar_cons rfl (okar_cons rfl (okar_cons rfl (okar_cons rfl okar_nil)))) (by decide) (by omega) rfl (fun Qr hQ => ?_)
  refine rw_blk lk_X9_requireEntry_0 ?_
  refine rw_of (fun rr hrr => q_iload_n rfl hrr) ?_
  refine rw_if_lt ⟨by omega, by omega⟩ (t := 9) rfl (fun hc1 => ?_) (fun hc1 => ?_)
  · skip
    refine rw_blk lk_X9_requireEntry_9 ?_
    refine rw_end (q_throw (by decide) (by decide +kernel) rfl) ?_
    rw [hQ]
    refine ⟨_, _, rfl, ?_⟩
    exact ⟨rfl, rfl⟩
  · skip
    refine rw_of (fun rr hrr => q_iload_n rfl (q_iconst hrr)) ?_
    refine rw_icmp_le ⟨by omega, by omega⟩ ⟨by omega, by omega⟩ (t := 19) rfl (fun hc2 => ?_) (fun hc2 => ?_)
    · skip
      refine rw_blk lk_X9_requireEntry_19 ?_
      refine rw_of (fun rr hrr => q_iload_n rfl hrr) ?_
      refine rw_if_eq ⟨by omega, by omega⟩ (t := 28) rfl (fun hc3 => ?_) (fun hc3 => ?_)
      · skip
        refine rw_blk lk_X9_requireEntry_28 ?_
        refine rw_of (fun rr hrr => q_aload_n rfl (q_iload_n rfl hrr)) ?_
        obtain ⟨mm4, pp5, hV6, rfl, rfl⟩ := t_X9_requirePlace (S := S) (fz := fz) (m := m) (p := p) (d := d) (by omega) (t) (n) (x) hP ht hm (by omega) (by omega) (by omega)
        refine rw_end (q_invSx hV6 (by decide) rfl rfl (okar_cons rfl (okar_cons rfl okar_nil)) (Nat.le_of_ble_eq_true rfl)) ?_
        rw [hQ]
        refine ⟨_, _, rfl, ?_⟩
        exact ⟨rfl, rfl⟩
      · skip
        refine rw_of (fun rr hrr => q_iload_n rfl (q_iconst hrr)) ?_
        refine rw_icmp_ne ⟨by omega, by omega⟩ ⟨by omega, by omega⟩ (t := 33) rfl (fun hc7 => ?_) (fun hc7 => ?_)
        · skip
          refine rw_blk lk_X9_requireEntry_33 ?_
          refine rw_of (fun rr hrr => q_iload_n rfl hrr) ?_
          refine rw_if_eq ⟨by omega, by omega⟩ (t := 42) rfl (fun hc8 => ?_) (fun hc8 => ?_)
          · skip
            refine rw_blk lk_X9_requireEntry_42 ?_
            refine rw_of (fun rr hrr => q_aload_n rfl (q_iload_n rfl hrr)) ?_
            obtain ⟨_, mm9, pp10, hV11, rfl, rfl, rfl⟩ := c_X9_requirePlace (S := S) (fz := fz) (m := m) (p := p) (d := d) (by omega) (t) (n) (y) hP ht hm (by omega) (by omega)
            refine rw_of (fun rr hrr => q_invS hV11 rfl rfl (okar_cons rfl (okar_cons rfl okar_nil)) (Nat.le_of_ble_eq_true rfl) hrr) ?_
            refine rw_blk lk_X9_requireEntry_47 ?_
            exfalso; omega
          · skip
            refine rw_of (fun rr hrr => q_iload_n rfl (q_iconst hrr)) ?_
            refine rw_icmp_ne ⟨by omega, by omega⟩ ⟨by omega, by omega⟩ (t := 47) rfl (fun hc12 => ?_) (fun hc12 => ?_)
            · skip
              refine rw_blk lk_X9_requireEntry_47 ?_
              exfalso; omega
            · skip
              refine rw_blk lk_X9_requireEntry_42 ?_
              refine rw_of (fun rr hrr => q_aload_n rfl (q_iload_n rfl hrr)) ?_
              obtain ⟨_, mm13, pp14, hV15, rfl, rfl, rfl⟩ := c_X9_requirePlace (S := S) (fz := fz) (m := m) (p := p) (d := d) (by omega) (t) (n) (y) hP ht hm (by omega) (by omega)
              refine rw_of (fun rr hrr => q_invS hV15 rfl rfl (okar_cons rfl (okar_cons rfl okar_nil)) (Nat.le_of_ble_eq_true rfl) hrr) ?_
              refine rw_blk lk_X9_requireEntry_47 ?_
              exfalso; omega
        · skip
          refine rw_blk lk_X9_requireEntry_28 ?_
          refine rw_of (fun rr hrr => q_aload_n rfl (q_iload_n rfl hrr)) ?_
          obtain ⟨mm16, pp17, hV18, rfl, rfl⟩ := t_X9_requirePlace (S := S) (fz := fz) (m := m) (p := p) (d := d) (by omega) (t) (n) (x) hP ht hm (by omega) (by omega) (by omega)
          refine rw_end (q_invSx hV18 (by decide) rfl rfl (okar_cons rfl (okar_cons rfl okar_nil)) (Nat.le_of_ble_eq_true rfl)) ?_
          rw [hQ]
          refine ⟨_, _, rfl, ?_⟩
          exact ⟨rfl, rfl⟩
    · skip
      refine rw_blk lk_X9_requireEntry_9 ?_
      refine rw_end (q_throw (by decide) (by decide +kernel) rfl) ?_
      rw [hQ]
      refine ⟨_, _, rfl, ?_⟩
      exact ⟨rfl, rfl⟩
theorem t_X9_requireEntry1 {d : Nat} {S : Env} {fz : Bool} {m : M1} {p : M2} (hd : 7 ≤ d) (t n : Nat) (x y : Int) (hP : PI p) (ht : IsPl t) (hm : m t 0 = nF n) (hn : n ≤ 8) (hr : (-2147483648 ≤ x ∧ x < 2147483648)) (h : x < 0 ∨ n ≤ x) : Tx d k_X9_requireEntry S fz [.ref (t), .int (iI (1)), .int (iI (x)), .int (iI (y))] m p 0 (fun m' p' => m = m' ∧ p = p') := by
  obtain ⟨d, rfl⟩ : ∃ e, d = e + 1 := ⟨d - 1, by omega⟩
  refine tx_go (lv := [some (.ref (t)), some (.int (iI (1))), some (.int (iI (x))), some (.int (iI (y)))]) (Nat.le_of_ble_eq_true rfl) (okar_cons rfl (okar_cons rfl (okar_cons rfl (okar_cons rfl okar_nil)))) (by decide) (by omega) rfl (fun Qr hQ => ?_)
  refine rw_blk lk_X9_requireEntry_0 ?_
  refine rw_of (fun rr hrr => q_iload_n rfl hrr) ?_
  refine rw_if_lt ⟨by omega, by omega⟩ (t := 9) rfl (fun hc1 => ?_) (fun hc1 => ?_)
  · skip
    refine rw_blk lk_X9_requireEntry_9 ?_
    refine rw_end (q_throw (by decide) (by decide +kernel) rfl) ?_
    rw [hQ]
    refine ⟨_, _, rfl, ?_⟩
    exact ⟨rfl, rfl⟩
  · skip
    refine rw_of (fun rr hrr => q_iload_n rfl (q_iconst hrr)) ?_
    refine rw_icmp_le ⟨by omega, by omega⟩ ⟨by omega, by omega⟩ (t := 19) rfl (fun hc2 => ?_) (fun hc2 => ?_)
    · skip
      refine rw_blk lk_X9_requireEntry_19 ?_
      refine rw_of (fun rr hrr => q_iload_n rfl hrr) ?_
      refine rw_if_eq ⟨by omega, by omega⟩ (t := 28) rfl (fun hc3 => ?_) (fun hc3 => ?_)
      · skip
        refine rw_blk lk_X9_requireEntry_28 ?_
        refine rw_of (fun rr hrr => q_aload_n rfl (q_iload_n rfl hrr)) ?_
        obtain ⟨mm4, pp5, hV6, rfl, rfl⟩ := t_X9_requirePlace (S := S) (fz := fz) (m := m) (p := p) (d := d) (by omega) (t) (n) (x) hP ht hm (by omega) (by omega) (by omega)
        refine rw_end (q_invSx hV6 (by decide) rfl rfl (okar_cons rfl (okar_cons rfl okar_nil)) (Nat.le_of_ble_eq_true rfl)) ?_
        rw [hQ]
        refine ⟨_, _, rfl, ?_⟩
        exact ⟨rfl, rfl⟩
      · skip
        refine rw_of (fun rr hrr => q_iload_n rfl (q_iconst hrr)) ?_
        refine rw_icmp_ne ⟨by omega, by omega⟩ ⟨by omega, by omega⟩ (t := 33) rfl (fun hc7 => ?_) (fun hc7 => ?_)
        · skip
          refine rw_blk lk_X9_requireEntry_33 ?_
          refine rw_of (fun rr hrr => q_iload_n rfl hrr) ?_
          refine rw_if_eq ⟨by omega, by omega⟩ (t := 42) rfl (fun hc8 => ?_) (fun hc8 => ?_)
          · skip
            refine rw_blk lk_X9_requireEntry_42 ?_
            refine rw_of (fun rr hrr => q_aload_n rfl (q_iload_n rfl hrr)) ?_
            obtain ⟨_, mm9, pp10, hV11, rfl, rfl, rfl⟩ := c_X9_requirePlace (S := S) (fz := fz) (m := m) (p := p) (d := d) (by omega) (t) (n) (y) hP ht hm (by omega) (by omega)
            refine rw_of (fun rr hrr => q_invS hV11 rfl rfl (okar_cons rfl (okar_cons rfl okar_nil)) (Nat.le_of_ble_eq_true rfl) hrr) ?_
            refine rw_blk lk_X9_requireEntry_47 ?_
            exfalso; omega
          · skip
            refine rw_of (fun rr hrr => q_iload_n rfl (q_iconst hrr)) ?_
            refine rw_icmp_ne ⟨by omega, by omega⟩ ⟨by omega, by omega⟩ (t := 47) rfl (fun hc12 => ?_) (fun hc12 => ?_)
            · skip
              refine rw_blk lk_X9_requireEntry_47 ?_
              exfalso; omega
            · skip
              refine rw_blk lk_X9_requireEntry_42 ?_
              refine rw_of (fun rr hrr => q_aload_n rfl (q_iload_n rfl hrr)) ?_
              obtain ⟨_, mm13, pp14, hV15, rfl, rfl, rfl⟩ := c_X9_requirePlace (S := S) (fz := fz) (m := m) (p := p) (d := d) (by omega) (t) (n) (y) hP ht hm (by omega) (by omega)
              refine rw_of (fun rr hrr => q_invS hV15 rfl rfl (okar_cons rfl (okar_cons rfl okar_nil)) (Nat.le_of_ble_eq_true rfl) hrr) ?_
              refine rw_blk lk_X9_requireEntry_47 ?_
              exfalso; omega
        · skip
          refine rw_blk lk_X9_requireEntry_28 ?_
          refine rw_of (fun rr hrr => q_aload_n rfl (q_iload_n rfl hrr)) ?_
          obtain ⟨mm16, pp17, hV18, rfl, rfl⟩ := t_X9_requirePlace (S := S) (fz := fz) (m := m) (p := p) (d := d) (by omega) (t) (n) (x) hP ht hm (by omega) (by omega) (by omega)
          refine rw_end (q_invSx hV18 (by decide) rfl rfl (okar_cons rfl (okar_cons rfl okar_nil)) (Nat.le_of_ble_eq_true rfl)) ?_
          rw [hQ]
          refine ⟨_, _, rfl, ?_⟩
          exact ⟨rfl, rfl⟩
    · skip
      refine rw_blk lk_X9_requireEntry_9 ?_
      refine rw_end (q_throw (by decide) (by decide +kernel) rfl) ?_
      rw [hQ]
      refine ⟨_, _, rfl, ?_⟩
      exact ⟨rfl, rfl⟩
theorem t_X9_requireEntry2 {d : Nat} {S : Env} {fz : Bool} {m : M1} {p : M2} (hd : 7 ≤ d) (t n : Nat) (x y : Int) (hP : PI p) (ht : IsPl t) (hm : m t 0 = nF n) (hn : n ≤ 8) (hr : (-2147483648 ≤ y ∧ y < 2147483648)) (h : y < 0 ∨ n ≤ y) : Tx d k_X9_requireEntry S fz [.ref (t), .int (iI (2)), .int (iI (x)), .int (iI (y))] m p 0 (fun m' p' => m = m' ∧ p = p') := by
  obtain ⟨d, rfl⟩ : ∃ e, d = e + 1 := ⟨d - 1, by omega⟩
  refine tx_go (lv := [some (.ref (t)), some (.int (iI (2))), some (.int (iI (x))), some (.int (iI (y)))]) (Nat.le_of_ble_eq_true rfl) (okar_cons rfl (okar_cons rfl (okar_cons rfl (okar_cons rfl okar_nil)))) (by decide) (by omega) rfl (fun Qr hQ => ?_)
  refine rw_blk lk_X9_requireEntry_0 ?_
  refine rw_of (fun rr hrr => q_iload_n rfl hrr) ?_
  refine rw_if_lt ⟨by omega, by omega⟩ (t := 9) rfl (fun hc1 => ?_) (fun hc1 => ?_)
  · skip
    refine rw_blk lk_X9_requireEntry_9 ?_
    refine rw_end (q_throw (by decide) (by decide +kernel) rfl) ?_
    rw [hQ]
    refine ⟨_, _, rfl, ?_⟩
    exact ⟨rfl, rfl⟩
  · skip
    refine rw_of (fun rr hrr => q_iload_n rfl (q_iconst hrr)) ?_
    refine rw_icmp_le ⟨by omega, by omega⟩ ⟨by omega, by omega⟩ (t := 19) rfl (fun hc2 => ?_) (fun hc2 => ?_)
    · skip
      refine rw_blk lk_X9_requireEntry_19 ?_
      refine rw_of (fun rr hrr => q_iload_n rfl hrr) ?_
      refine rw_if_eq ⟨by omega, by omega⟩ (t := 28) rfl (fun hc3 => ?_) (fun hc3 => ?_)
      · skip
        refine rw_blk lk_X9_requireEntry_28 ?_
        refine rw_of (fun rr hrr => q_aload_n rfl (q_iload_n rfl hrr)) ?_
        obtain ⟨_, mm4, pp5, hV6, rfl, rfl, rfl⟩ := c_X9_requirePlace (S := S) (fz := fz) (m := m) (p := p) (d := d) (by omega) (t) (n) (x) hP ht hm (by omega) (by omega)
        refine rw_of (fun rr hrr => q_invS hV6 rfl rfl (okar_cons rfl (okar_cons rfl okar_nil)) (Nat.le_of_ble_eq_true rfl) hrr) ?_
        refine rw_blk lk_X9_requireEntry_33 ?_
        refine rw_of (fun rr hrr => q_iload_n rfl hrr) ?_
        refine rw_if_eq ⟨by omega, by omega⟩ (t := 42) rfl (fun hc7 => ?_) (fun hc7 => ?_)
        · skip
          refine rw_blk lk_X9_requireEntry_42 ?_
          refine rw_of (fun rr hrr => q_aload_n rfl (q_iload_n rfl hrr)) ?_
          obtain ⟨mm8, pp9, hV10, rfl, rfl⟩ := t_X9_requirePlace (S := S) (fz := fz) (m := m) (p := p) (d := d) (by omega) (t) (n) (y) hP ht hm (by omega) (by omega) (by omega)
          refine rw_end (q_invSx hV10 (by decide) rfl rfl (okar_cons rfl (okar_cons rfl okar_nil)) (Nat.le_of_ble_eq_true rfl)) ?_
          rw [hQ]
          refine ⟨_, _, rfl, ?_⟩
          exact ⟨rfl, rfl⟩
        · skip
          refine rw_of (fun rr hrr => q_iload_n rfl (q_iconst hrr)) ?_
          refine rw_icmp_ne ⟨by omega, by omega⟩ ⟨by omega, by omega⟩ (t := 47) rfl (fun hc11 => ?_) (fun hc11 => ?_)
          · skip
            refine rw_blk lk_X9_requireEntry_47 ?_
            exfalso; omega
          · skip
            refine rw_blk lk_X9_requireEntry_42 ?_
            refine rw_of (fun rr hrr => q_aload_n rfl (q_iload_n rfl hrr)) ?_
            obtain ⟨mm12, pp13, hV14, rfl, rfl⟩ := t_X9_requirePlace (S := S) (fz := fz) (m := m) (p := p) (d := d) (by omega) (t) (n) (y) hP ht hm (by omega) (by omega) (by omega)
            refine rw_end (q_invSx hV14 (by decide) rfl rfl (okar_cons rfl (okar_cons rfl okar_nil)) (Nat.le_of_ble_eq_true rfl)) ?_
            rw [hQ]
            refine ⟨_, _, rfl, ?_⟩
            exact ⟨rfl, rfl⟩
      · skip
        refine rw_of (fun rr hrr => q_iload_n rfl (q_iconst hrr)) ?_
        refine rw_icmp_ne ⟨by omega, by omega⟩ ⟨by omega, by omega⟩ (t := 33) rfl (fun hc15 => ?_) (fun hc15 => ?_)
        · skip
          refine rw_blk lk_X9_requireEntry_33 ?_
          refine rw_of (fun rr hrr => q_iload_n rfl hrr) ?_
          refine rw_if_eq ⟨by omega, by omega⟩ (t := 42) rfl (fun hc16 => ?_) (fun hc16 => ?_)
          · skip
            refine rw_blk lk_X9_requireEntry_42 ?_
            refine rw_of (fun rr hrr => q_aload_n rfl (q_iload_n rfl hrr)) ?_
            obtain ⟨mm17, pp18, hV19, rfl, rfl⟩ := t_X9_requirePlace (S := S) (fz := fz) (m := m) (p := p) (d := d) (by omega) (t) (n) (y) hP ht hm (by omega) (by omega) (by omega)
            refine rw_end (q_invSx hV19 (by decide) rfl rfl (okar_cons rfl (okar_cons rfl okar_nil)) (Nat.le_of_ble_eq_true rfl)) ?_
            rw [hQ]
            refine ⟨_, _, rfl, ?_⟩
            exact ⟨rfl, rfl⟩
          · skip
            refine rw_of (fun rr hrr => q_iload_n rfl (q_iconst hrr)) ?_
            refine rw_icmp_ne ⟨by omega, by omega⟩ ⟨by omega, by omega⟩ (t := 47) rfl (fun hc20 => ?_) (fun hc20 => ?_)
            · skip
              refine rw_blk lk_X9_requireEntry_47 ?_
              exfalso; omega
            · skip
              refine rw_blk lk_X9_requireEntry_42 ?_
              refine rw_of (fun rr hrr => q_aload_n rfl (q_iload_n rfl hrr)) ?_
              obtain ⟨mm21, pp22, hV23, rfl, rfl⟩ := t_X9_requirePlace (S := S) (fz := fz) (m := m) (p := p) (d := d) (by omega) (t) (n) (y) hP ht hm (by omega) (by omega) (by omega)
              refine rw_end (q_invSx hV23 (by decide) rfl rfl (okar_cons rfl (okar_cons rfl okar_nil)) (Nat.le_of_ble_eq_true rfl)) ?_
              rw [hQ]
              refine ⟨_, _, rfl, ?_⟩
              exact ⟨rfl, rfl⟩
        · skip
          refine rw_blk lk_X9_requireEntry_28 ?_
          refine rw_of (fun rr hrr => q_aload_n rfl (q_iload_n rfl hrr)) ?_
          obtain ⟨_, mm24, pp25, hV26, rfl, rfl, rfl⟩ := c_X9_requirePlace (S := S) (fz := fz) (m := m) (p := p) (d := d) (by omega) (t) (n) (x) hP ht hm (by omega) (by omega)
          refine rw_of (fun rr hrr => q_invS hV26 rfl rfl (okar_cons rfl (okar_cons rfl okar_nil)) (Nat.le_of_ble_eq_true rfl) hrr) ?_
          refine rw_blk lk_X9_requireEntry_33 ?_
          refine rw_of (fun rr hrr => q_iload_n rfl hrr) ?_
          refine rw_if_eq ⟨by omega, by omega⟩ (t := 42) rfl (fun hc27 => ?_) (fun hc27 => ?_)
          · skip
            refine rw_blk lk_X9_requireEntry_42 ?_
            refine rw_of (fun rr hrr => q_aload_n rfl (q_iload_n rfl hrr)) ?_
            obtain ⟨mm28, pp29, hV30, rfl, rfl⟩ := t_X9_requirePlace (S := S) (fz := fz) (m := m) (p := p) (d := d) (by omega) (t) (n) (y) hP ht hm (by omega) (by omega) (by omega)
            refine rw_end (q_invSx hV30 (by decide) rfl rfl (okar_cons rfl (okar_cons rfl okar_nil)) (Nat.le_of_ble_eq_true rfl)) ?_
            rw [hQ]
            refine ⟨_, _, rfl, ?_⟩
            exact ⟨rfl, rfl⟩
          · skip
            refine rw_of (fun rr hrr => q_iload_n rfl (q_iconst hrr)) ?_
            refine rw_icmp_ne ⟨by omega, by omega⟩ ⟨by omega, by omega⟩ (t := 47) rfl (fun hc31 => ?_) (fun hc31 => ?_)
            · skip
              refine rw_blk lk_X9_requireEntry_47 ?_
              exfalso; omega
            · skip
              refine rw_blk lk_X9_requireEntry_42 ?_
              refine rw_of (fun rr hrr => q_aload_n rfl (q_iload_n rfl hrr)) ?_
              obtain ⟨mm32, pp33, hV34, rfl, rfl⟩ := t_X9_requirePlace (S := S) (fz := fz) (m := m) (p := p) (d := d) (by omega) (t) (n) (y) hP ht hm (by omega) (by omega) (by omega)
              refine rw_end (q_invSx hV34 (by decide) rfl rfl (okar_cons rfl (okar_cons rfl okar_nil)) (Nat.le_of_ble_eq_true rfl)) ?_
              rw [hQ]
              refine ⟨_, _, rfl, ?_⟩
              exact ⟨rfl, rfl⟩
    · skip
      refine rw_blk lk_X9_requireEntry_9 ?_
      refine rw_end (q_throw (by decide) (by decide +kernel) rfl) ?_
      rw [hQ]
      refine ⟨_, _, rfl, ?_⟩
      exact ⟨rfl, rfl⟩
theorem t_X9_requireEntry4 {d : Nat} {S : Env} {fz : Bool} {m : M1} {p : M2} (hd : 7 ≤ d) (t n : Nat) (x y : Int) (hP : PI p) (ht : IsPl t) (hm : m t 0 = nF n) (hn : n ≤ 8) (hi : 0 ≤ x ∧ x < n) (hr : (-2147483648 ≤ y ∧ y < 2147483648)) (h : y < 0 ∨ n ≤ y) : Tx d k_X9_requireEntry S fz [.ref (t), .int (iI (0)), .int (iI (x)), .int (iI (y))] m p 0 (fun m' p' => m = m' ∧ p = p') := by
  obtain ⟨d, rfl⟩ : ∃ e, d = e + 1 := ⟨d - 1, by omega⟩
  refine tx_go (lv := [some (.ref (t)), some (.int (iI (0))), some (.int (iI (x))), some (.int (iI (y)))]) (Nat.le_of_ble_eq_true rfl) (okar_cons rfl (okar_cons rfl (okar_cons rfl (okar_cons rfl okar_nil)))) (by decide) (by omega) rfl (fun Qr hQ => ?_)
  refine rw_blk lk_X9_requireEntry_0 ?_
  refine rw_of (fun rr hrr => q_iload_n rfl hrr) ?_
  refine rw_if_lt ⟨by omega, by omega⟩ (t := 9) rfl (fun hc1 => ?_) (fun hc1 => ?_)
  · skip
    refine rw_blk lk_X9_requireEntry_9 ?_
    refine rw_end (q_throw (by decide) (by decide +kernel) rfl) ?_
    rw [hQ]
    refine ⟨_, _, rfl, ?_⟩
    exact ⟨rfl, rfl⟩
  · skip
    refine rw_of (fun rr hrr => q_iload_n rfl (q_iconst hrr)) ?_
    refine rw_icmp_le ⟨by omega, by omega⟩ ⟨by omega, by omega⟩ (t := 19) rfl (fun hc2 => ?_) (fun hc2 => ?_)
    · skip
      refine rw_blk lk_X9_requireEntry_19 ?_
      refine rw_of (fun rr hrr => q_iload_n rfl hrr) ?_
      refine rw_if_eq ⟨by omega, by omega⟩ (t := 28) rfl (fun hc3 => ?_) (fun hc3 => ?_)
      · skip
        refine rw_blk lk_X9_requireEntry_28 ?_
        refine rw_of (fun rr hrr => q_aload_n rfl (q_iload_n rfl hrr)) ?_
        obtain ⟨_, mm4, pp5, hV6, rfl, rfl, rfl⟩ := c_X9_requirePlace (S := S) (fz := fz) (m := m) (p := p) (d := d) (by omega) (t) (n) (x) hP ht hm (by omega) (by omega)
        refine rw_of (fun rr hrr => q_invS hV6 rfl rfl (okar_cons rfl (okar_cons rfl okar_nil)) (Nat.le_of_ble_eq_true rfl) hrr) ?_
        refine rw_blk lk_X9_requireEntry_33 ?_
        refine rw_of (fun rr hrr => q_iload_n rfl hrr) ?_
        refine rw_if_eq ⟨by omega, by omega⟩ (t := 42) rfl (fun hc7 => ?_) (fun hc7 => ?_)
        · skip
          refine rw_blk lk_X9_requireEntry_42 ?_
          refine rw_of (fun rr hrr => q_aload_n rfl (q_iload_n rfl hrr)) ?_
          obtain ⟨mm8, pp9, hV10, rfl, rfl⟩ := t_X9_requirePlace (S := S) (fz := fz) (m := m) (p := p) (d := d) (by omega) (t) (n) (y) hP ht hm (by omega) (by omega) (by omega)
          refine rw_end (q_invSx hV10 (by decide) rfl rfl (okar_cons rfl (okar_cons rfl okar_nil)) (Nat.le_of_ble_eq_true rfl)) ?_
          rw [hQ]
          refine ⟨_, _, rfl, ?_⟩
          exact ⟨rfl, rfl⟩
        · skip
          refine rw_of (fun rr hrr => q_iload_n rfl (q_iconst hrr)) ?_
          refine rw_icmp_ne ⟨by omega, by omega⟩ ⟨by omega, by omega⟩ (t := 47) rfl (fun hc11 => ?_) (fun hc11 => ?_)
          · skip
            refine rw_blk lk_X9_requireEntry_47 ?_
            exfalso; omega
          · skip
            refine rw_blk lk_X9_requireEntry_42 ?_
            refine rw_of (fun rr hrr => q_aload_n rfl (q_iload_n rfl hrr)) ?_
            obtain ⟨mm12, pp13, hV14, rfl, rfl⟩ := t_X9_requirePlace (S := S) (fz := fz) (m := m) (p := p) (d := d) (by omega) (t) (n) (y) hP ht hm (by omega) (by omega) (by omega)
            refine rw_end (q_invSx hV14 (by decide) rfl rfl (okar_cons rfl (okar_cons rfl okar_nil)) (Nat.le_of_ble_eq_true rfl)) ?_
            rw [hQ]
            refine ⟨_, _, rfl, ?_⟩
            exact ⟨rfl, rfl⟩
      · skip
        refine rw_of (fun rr hrr => q_iload_n rfl (q_iconst hrr)) ?_
        refine rw_icmp_ne ⟨by omega, by omega⟩ ⟨by omega, by omega⟩ (t := 33) rfl (fun hc15 => ?_) (fun hc15 => ?_)
        · skip
          refine rw_blk lk_X9_requireEntry_33 ?_
          refine rw_of (fun rr hrr => q_iload_n rfl hrr) ?_
          refine rw_if_eq ⟨by omega, by omega⟩ (t := 42) rfl (fun hc16 => ?_) (fun hc16 => ?_)
          · skip
            refine rw_blk lk_X9_requireEntry_42 ?_
            refine rw_of (fun rr hrr => q_aload_n rfl (q_iload_n rfl hrr)) ?_
            obtain ⟨mm17, pp18, hV19, rfl, rfl⟩ := t_X9_requirePlace (S := S) (fz := fz) (m := m) (p := p) (d := d) (by omega) (t) (n) (y) hP ht hm (by omega) (by omega) (by omega)
            refine rw_end (q_invSx hV19 (by decide) rfl rfl (okar_cons rfl (okar_cons rfl okar_nil)) (Nat.le_of_ble_eq_true rfl)) ?_
            rw [hQ]
            refine ⟨_, _, rfl, ?_⟩
            exact ⟨rfl, rfl⟩
          · skip
            refine rw_of (fun rr hrr => q_iload_n rfl (q_iconst hrr)) ?_
            refine rw_icmp_ne ⟨by omega, by omega⟩ ⟨by omega, by omega⟩ (t := 47) rfl (fun hc20 => ?_) (fun hc20 => ?_)
            · skip
              refine rw_blk lk_X9_requireEntry_47 ?_
              exfalso; omega
            · skip
              refine rw_blk lk_X9_requireEntry_42 ?_
              refine rw_of (fun rr hrr => q_aload_n rfl (q_iload_n rfl hrr)) ?_
              obtain ⟨mm21, pp22, hV23, rfl, rfl⟩ := t_X9_requirePlace (S := S) (fz := fz) (m := m) (p := p) (d := d) (by omega) (t) (n) (y) hP ht hm (by omega) (by omega) (by omega)
              refine rw_end (q_invSx hV23 (by decide) rfl rfl (okar_cons rfl (okar_cons rfl okar_nil)) (Nat.le_of_ble_eq_true rfl)) ?_
              rw [hQ]
              refine ⟨_, _, rfl, ?_⟩
              exact ⟨rfl, rfl⟩
        · skip
          refine rw_blk lk_X9_requireEntry_28 ?_
          refine rw_of (fun rr hrr => q_aload_n rfl (q_iload_n rfl hrr)) ?_
          obtain ⟨_, mm24, pp25, hV26, rfl, rfl, rfl⟩ := c_X9_requirePlace (S := S) (fz := fz) (m := m) (p := p) (d := d) (by omega) (t) (n) (x) hP ht hm (by omega) (by omega)
          refine rw_of (fun rr hrr => q_invS hV26 rfl rfl (okar_cons rfl (okar_cons rfl okar_nil)) (Nat.le_of_ble_eq_true rfl) hrr) ?_
          refine rw_blk lk_X9_requireEntry_33 ?_
          refine rw_of (fun rr hrr => q_iload_n rfl hrr) ?_
          refine rw_if_eq ⟨by omega, by omega⟩ (t := 42) rfl (fun hc27 => ?_) (fun hc27 => ?_)
          · skip
            refine rw_blk lk_X9_requireEntry_42 ?_
            refine rw_of (fun rr hrr => q_aload_n rfl (q_iload_n rfl hrr)) ?_
            obtain ⟨mm28, pp29, hV30, rfl, rfl⟩ := t_X9_requirePlace (S := S) (fz := fz) (m := m) (p := p) (d := d) (by omega) (t) (n) (y) hP ht hm (by omega) (by omega) (by omega)
            refine rw_end (q_invSx hV30 (by decide) rfl rfl (okar_cons rfl (okar_cons rfl okar_nil)) (Nat.le_of_ble_eq_true rfl)) ?_
            rw [hQ]
            refine ⟨_, _, rfl, ?_⟩
            exact ⟨rfl, rfl⟩
          · skip
            refine rw_of (fun rr hrr => q_iload_n rfl (q_iconst hrr)) ?_
            refine rw_icmp_ne ⟨by omega, by omega⟩ ⟨by omega, by omega⟩ (t := 47) rfl (fun hc31 => ?_) (fun hc31 => ?_)
            · skip
              refine rw_blk lk_X9_requireEntry_47 ?_
              exfalso; omega
            · skip
              refine rw_blk lk_X9_requireEntry_42 ?_
              refine rw_of (fun rr hrr => q_aload_n rfl (q_iload_n rfl hrr)) ?_
              obtain ⟨mm32, pp33, hV34, rfl, rfl⟩ := t_X9_requirePlace (S := S) (fz := fz) (m := m) (p := p) (d := d) (by omega) (t) (n) (y) hP ht hm (by omega) (by omega) (by omega)
              refine rw_end (q_invSx hV34 (by decide) rfl rfl (okar_cons rfl (okar_cons rfl okar_nil)) (Nat.le_of_ble_eq_true rfl)) ?_
              rw [hQ]
              refine ⟨_, _, rfl, ?_⟩
              exact ⟨rfl, rfl⟩
    · skip
      refine rw_blk lk_X9_requireEntry_9 ?_
      refine rw_end (q_throw (by decide) (by decide +kernel) rfl) ?_
      rw [hQ]
      refine ⟨_, _, rfl, ?_⟩
      exact ⟨rfl, rfl⟩
theorem c_X9_type {d : Nat} {S : Env} {fz : Bool} {m : M1} {p : M2} (hd : 7 ≤ d) (t b c w : Nat) (x : Int) (hs : SH t = (16, 0)) (hp : p t 0 = some b) (hb : SH b = (1, 20)) (hbt : b ≠ t) (h1 : m t 1 = nF c) (h2 : m t 2 = nF w) (hc : c < w ∧ w ≤ 20) (h : -10007 < x ∧ x < 10007) : Ct d k_X9_type S fz [.ref (t), .int (iI (x))] m p (fun v m' p' => v = some (.int (iI ((c + 1 : Nat) : Int))) ∧ p = p' ∧ w1 (w1 m b c (toF x)) t 1 (nF (c + 1)) = m') := by
  obtain ⟨d, rfl⟩ : ∃ e, d = e + 1 := ⟨d - 1, by omega⟩
  refine ct_go (lv := [some (.ref (t)), some (.int (iI (x)))]) (Nat.le_of_ble_eq_true rfl) (okar_cons rfl (okar_cons rfl okar_nil)) rfl (fun Qr hQ => ?_)
  refine rw_blk lk_X9_type_0 ?_
  refine rw_of (fun rr hrr => q_iload_n rfl hrr) ?_
  obtain ⟨_, mm1, pp2, hV3, rfl, rfl, rfl⟩ := c_X9_requireValue (S := S) (fz := fz) (m := m) (p := p) (d := d) (by omega) (x) (by omega)
  refine rw_of (fun rr hrr => q_invS hV3 rfl rfl (okar_cons rfl okar_nil) (Nat.le_of_ble_eq_true rfl) (q_aload_n rfl hrr)) ?_
  obtain ⟨_, mm4, pp5, hV6, rfl, rfl, rfl⟩ := c_X8_isFull (S := S) (fz := fz) (m := m) (p := p) (d := d) (by omega) (t) (c) (w) (hs) h1 h2 (by omega)
  refine rw_of (fun rr hrr => q_invV hV6 hs rfl rfl okar_nil (Nat.le_of_ble_eq_true rfl) hrr) ?_
  refine rw_if_eq (by rw [if_neg (by omega)]; exact ⟨by omega, by omega⟩) (t := 21) rfl (fun hc7 => ?_) (fun hc7 => ?_)
  · skip
    refine rw_blk lk_X9_type_21 ?_
    refine rw_of (fun rr hrr => q_aload_n rfl (q_iload_n rfl hrr)) ?_
    obtain ⟨_, mm8, pp9, hV10, rfl, rfl, rfl⟩ := c_X2_remainder (S := S) (fz := fz) (m := m) (p := p) (d := d) (by omega) (x) (by omega)
    refine rw_of (fun rr hrr => q_invS hV10 rfl rfl (okar_cons rfl okar_nil) (Nat.le_of_ble_eq_true rfl) hrr) ?_
    obtain ⟨_, mm11, pp12, hV13, rfl, rfl, hw13⟩ := c_X8_add (S := S) (fz := fz) (m := m) (p := p) (d := d) (by omega) (t) (b) (c) (w) (toF x) (hs) (hp) (hb) (hbt) h1 h2 (by omega)
    refine rw_of (fun rr hrr => q_invV hV13 hs rfl rfl (okar_cons rfl okar_nil) (Nat.le_of_ble_eq_true rfl) hrr) ?_
    exact rw_ret hQ (q_ireturn (Or.inl rfl)) (by exact ⟨rfl, rfl, hw13⟩)
  · skip
    have hc9 := hc7
    rw [if_neg (by omega)] at hc9
    exfalso; omega
theorem t_X9_type {d : Nat} {S : Env} {fz : Bool} {m : M1} {p : M2} (hd : 7 ≤ d) (t b c w : Nat) (x : Int) (hs : SH t = (16, 0)) (hp : p t 0 = some b) (hb : SH b = (1, 20)) (hbt : b ≠ t) (h1 : m t 1 = nF c) (h2 : m t 2 = nF w) (hr : (-2147483648 ≤ x ∧ x < 2147483648)) (h : x ≤ -10007 ∨ 10007 ≤ x) : Tx d k_X9_type S fz [.ref (t), .int (iI (x))] m p 1 (fun m' p' => m = m' ∧ p = p') := by
  obtain ⟨d, rfl⟩ : ∃ e, d = e + 1 := ⟨d - 1, by omega⟩
  refine tx_go (lv := [some (.ref (t)), some (.int (iI (x)))]) (Nat.le_of_ble_eq_true rfl) (okar_cons rfl (okar_cons rfl okar_nil)) (by decide) (by omega) rfl (fun Qr hQ => ?_)
  refine rw_blk lk_X9_type_0 ?_
  refine rw_of (fun rr hrr => q_iload_n rfl hrr) ?_
  obtain ⟨mm1, pp2, hV3, rfl, rfl⟩ := t_X9_requireValue (S := S) (fz := fz) (m := m) (p := p) (d := d) (by omega) (x) (by omega) (by omega)
  refine rw_end (q_invSx hV3 (by decide) rfl rfl (okar_cons rfl okar_nil) (Nat.le_of_ble_eq_true rfl)) ?_
  rw [hQ]
  refine ⟨_, _, rfl, ?_⟩
  exact ⟨rfl, rfl⟩
theorem t_X9_typeF {d : Nat} {S : Env} {fz : Bool} {m : M1} {p : M2} (hd : 7 ≤ d) (t b c w : Nat) (x : Int) (hs : SH t = (16, 0)) (hp : p t 0 = some b) (hb : SH b = (1, 20)) (hbt : b ≠ t) (h1 : m t 1 = nF c) (h2 : m t 2 = nF w) (hc : w ≤ c ∧ c ≤ 20) (h : -10007 < x ∧ x < 10007) : Tx d k_X9_type S fz [.ref (t), .int (iI (x))] m p 2 (fun m' p' => m = m' ∧ p = p') := by
  obtain ⟨d, rfl⟩ : ∃ e, d = e + 1 := ⟨d - 1, by omega⟩
  refine tx_go (lv := [some (.ref (t)), some (.int (iI (x)))]) (Nat.le_of_ble_eq_true rfl) (okar_cons rfl (okar_cons rfl okar_nil)) (by decide) (by omega) rfl (fun Qr hQ => ?_)
  refine rw_blk lk_X9_type_0 ?_
  refine rw_of (fun rr hrr => q_iload_n rfl hrr) ?_
  obtain ⟨_, mm1, pp2, hV3, rfl, rfl, rfl⟩ := c_X9_requireValue (S := S) (fz := fz) (m := m) (p := p) (d := d) (by omega) (x) (by omega)
  refine rw_of (fun rr hrr => q_invS hV3 rfl rfl (okar_cons rfl okar_nil) (Nat.le_of_ble_eq_true rfl) (q_aload_n rfl hrr)) ?_
  obtain ⟨_, mm4, pp5, hV6, rfl, rfl, rfl⟩ := c_X8_isFull (S := S) (fz := fz) (m := m) (p := p) (d := d) (by omega) (t) (c) (w) (hs) h1 h2 (by omega)
  refine rw_of (fun rr hrr => q_invV hV6 hs rfl rfl okar_nil (Nat.le_of_ble_eq_true rfl) hrr) ?_
  refine rw_if_eq (by rw [if_pos (by omega)]; exact ⟨by omega, by omega⟩) (t := 21) rfl (fun hc7 => ?_) (fun hc7 => ?_)
  · have hc9 := hc7
    rw [if_pos (by omega)] at hc9
    exfalso
    omega
  · skip
    refine rw_end (q_throw (by decide) (by decide +kernel) rfl) ?_
    rw [hQ]
    refine ⟨_, _, rfl, ?_⟩
    exact ⟨rfl, rfl⟩
theorem c_X9_findGains {d : Nat} {S : Env} {fz : Bool} {m : M1} {p : M2} (hd : 7 ≤ d) (t n cp : Nat) (hP : PI p) (ht : IsPl t) (hm : m t 0 = nF n) (hn0 : 1 ≤ n) (hn : n ≤ 8) (hcp : m 3 1 = nF cp) (hcpl : cp ≤ 16) (h : n ≤ cp) (hr : rk n (kr n (fun z => m (t + 2 + z)) (m (t + 10))) = n) : Ct d k_X9_findGains S fz [.ref (1), .ref (t)] m p (fun v m' p' => ∃ x, v = none ∧ PI p' ∧ Fr (fun a_ => 7 ≤ a_ ∧ a_ < 117) m m' ∧ (∀ i, i < n → dot n ((kr n (fun z => m (t + 2 + z)) (m (t + 10))) i) x = if i + 1 = n then 1 else 0) ∧ ∀ j, j < n → m' 33 j = av n (fun z => m (t + 2 + z)) (m 4) x n j) := by
  obtain ⟨d, rfl⟩ : ∃ e, d = e + 1 := ⟨d - 1, by omega⟩
  refine ct_go (lv := [some (.ref (1)), some (.ref (t))]) (Nat.le_of_ble_eq_true rfl) (okar_cons rfl (okar_cons rfl okar_nil)) rfl (fun Qr hQ => ?_)
  have ht' := IsPl_b ht
  refine rw_blk lk_X9_findGains_0 ?_
  refine rw_of (fun rr hrr => q_aload_n rfl (q_aload_n rfl (q_getI (PI_pl hP ht).1 rfl (ki rfl hm (by omega)) hrr))) ?_
  obtain ⟨_, mm1, pp2, hV3, rfl, rfl, rfl⟩ := c_X9_requirePoles (S := S) (fz := fz) (m := m) (p := p) (d := d) (by omega) (n) (cp) hP hcp (by omega) (by omega)
  refine rw_of (fun rr hrr => q_invV hV3 (show SH 1 = (17, 0) from rfl) rfl rfl (okar_cons rfl okar_nil) (Nat.le_of_ble_eq_true rfl) (q_aload_n rfl (q_getR (show SH 1 = (17, 0) from rfl) rfl (pt_1_5 hP) (q_aload_n rfl (q_aload_n rfl (q_getR (show SH 1 = (17, 0) from rfl) rfl (pt_1_2 hP) (q_iconst (q_aload_n rfl (q_getR (show SH 1 = (17, 0) from rfl) rfl (pt_1_6 hP) hrr))))))))) ?_
  obtain ⟨_, mm4, pp5, hV6, x6, hP6, hF6, rfl, hx6, hv6⟩ := c_X3_byColumns1 (S := S) (fz := fz) (m := m) (p := p) (d := d) (by omega) (n) (t) (0) (33) hP ht (by omega) (by omega) hm (by omega) (by omega) (hr)
  refine rw_of (fun rr hrr => q_invV hV6 (show SH 19 = (12, 0) from rfl) rfl rfl (okar_cons rfl (okar_cons rfl (okar_cons rfl (okar_cons rfl okar_nil)))) (Nat.le_of_ble_eq_true rfl) hrr) ?_
  refine rw_if_ne ⟨by omega, by omega⟩ (t := 38) rfl (fun hc7 => ?_) (fun hc7 => ?_)
  · skip
    refine rw_blk lk_X9_findGains_38 ?_
    refine rw_ret hQ (q_return) ?_
    
    refine ⟨x6, rfl, hP6, Fr_mono hF6 (fun a ha => by omega), hx6, fun j hj => ?_⟩
    rw [hv6 j hj, show (fun i => m 4 (0 + i)) = m 4 from funext fun i => by rw [Nat.zero_add]]
    
  · skip
    exfalso; omega
theorem t_X9_findGains {d : Nat} {S : Env} {fz : Bool} {m : M1} {p : M2} (hd : 7 ≤ d) (t n cp : Nat) (hP : PI p) (ht : IsPl t) (hm : m t 0 = nF n) (hn0 : 1 ≤ n) (hn : n ≤ 8) (hcp : m 3 1 = nF cp) (hcpl : cp ≤ 16) (h : cp < n) : Tx d k_X9_findGains S fz [.ref (1), .ref (t)] m p 2 (fun m' p' => m = m' ∧ p = p') := by
  obtain ⟨d, rfl⟩ : ∃ e, d = e + 1 := ⟨d - 1, by omega⟩
  refine tx_go (lv := [some (.ref (1)), some (.ref (t))]) (Nat.le_of_ble_eq_true rfl) (okar_cons rfl (okar_cons rfl okar_nil)) (by decide) (by omega) rfl (fun Qr hQ => ?_)
  have ht' := IsPl_b ht
  refine rw_blk lk_X9_findGains_0 ?_
  refine rw_of (fun rr hrr => q_aload_n rfl (q_aload_n rfl (q_getI (PI_pl hP ht).1 rfl (ki rfl hm (by omega)) hrr))) ?_
  obtain ⟨mm1, pp2, hV3, rfl, rfl⟩ := t_X9_requirePoles (S := S) (fz := fz) (m := m) (p := p) (d := d) (by omega) (n) (cp) hP hcp (by omega) (by omega) (by omega)
  refine rw_end (q_invVx hV3 (by decide) (show SH 1 = (17, 0) from rfl) rfl rfl (okar_cons rfl okar_nil) (Nat.le_of_ble_eq_true rfl)) ?_
  rw [hQ]
  refine ⟨_, _, rfl, ?_⟩
  exact ⟨rfl, rfl⟩
theorem t_X9_findGainsR {d : Nat} {S : Env} {fz : Bool} {m : M1} {p : M2} (hd : 7 ≤ d) (t n cp : Nat) (hP : PI p) (ht : IsPl t) (hm : m t 0 = nF n) (hn0 : 1 ≤ n) (hn : n ≤ 8) (hcp : m 3 1 = nF cp) (hcpl : cp ≤ 16) (h : n ≤ cp) (hr : rk n (kr n (fun z => m (t + 2 + z)) (m (t + 10))) ≠ n) : Tx d k_X9_findGains S fz [.ref (1), .ref (t)] m p 2 (fun m' p' => PI p' ∧ Fr (fun a_ => 7 ≤ a_ ∧ a_ < 117) m m') := by
  obtain ⟨d, rfl⟩ : ∃ e, d = e + 1 := ⟨d - 1, by omega⟩
  refine tx_go (lv := [some (.ref (1)), some (.ref (t))]) (Nat.le_of_ble_eq_true rfl) (okar_cons rfl (okar_cons rfl okar_nil)) (by decide) (by omega) rfl (fun Qr hQ => ?_)
  have ht' := IsPl_b ht
  refine rw_blk lk_X9_findGains_0 ?_
  refine rw_of (fun rr hrr => q_aload_n rfl (q_aload_n rfl (q_getI (PI_pl hP ht).1 rfl (ki rfl hm (by omega)) hrr))) ?_
  obtain ⟨_, mm1, pp2, hV3, rfl, rfl, rfl⟩ := c_X9_requirePoles (S := S) (fz := fz) (m := m) (p := p) (d := d) (by omega) (n) (cp) hP hcp (by omega) (by omega)
  refine rw_of (fun rr hrr => q_invV hV3 (show SH 1 = (17, 0) from rfl) rfl rfl (okar_cons rfl okar_nil) (Nat.le_of_ble_eq_true rfl) (q_aload_n rfl (q_getR (show SH 1 = (17, 0) from rfl) rfl (pt_1_5 hP) (q_aload_n rfl (q_aload_n rfl (q_getR (show SH 1 = (17, 0) from rfl) rfl (pt_1_2 hP) (q_iconst (q_aload_n rfl (q_getR (show SH 1 = (17, 0) from rfl) rfl (pt_1_6 hP) hrr))))))))) ?_
  obtain ⟨_, mm4, pp5, hV6, x6, hP6, hF6, rfl⟩ := c_X3_byColumns0 (S := S) (fz := fz) (m := m) (p := p) (d := d) (by omega) (n) (t) (0) (33) hP ht (by omega) (by omega) hm (by omega) (by omega) (hr)
  refine rw_of (fun rr hrr => q_invV hV6 (show SH 19 = (12, 0) from rfl) rfl rfl (okar_cons rfl (okar_cons rfl (okar_cons rfl (okar_cons rfl okar_nil)))) (Nat.le_of_ble_eq_true rfl) hrr) ?_
  refine rw_if_ne ⟨by omega, by omega⟩ (t := 38) rfl (fun hc7 => ?_) (fun hc7 => ?_)
  · skip
    refine rw_blk lk_X9_findGains_38 ?_
    exfalso; omega
  · skip
    refine rw_end (q_throw (by decide) (by decide +kernel) rfl) ?_
    rw [hQ]
    refine ⟨_, _, rfl, ?_⟩
    exact ⟨hP6, Fr_mono hF6 (fun a ha => by omega)⟩
theorem c_X9_findWatch {d : Nat} {S : Env} {fz : Bool} {m : M1} {p : M2} (hd : 7 ≤ d) (t n cp : Nat) (hP : PI p) (ht : IsPl t) (hm : m t 0 = nF n) (hn0 : 1 ≤ n) (hn : n ≤ 8) (h7 : t ≠ 7) (hcp : m 3 1 = nF cp) (hcpl : cp ≤ 16) (h : 2 * n ≤ cp) (hr : rk n (kr n (fun z c => m (t + 2 + c) z) (m (t + 11))) = n) : Ct d k_X9_findWatch S fz [.ref (1), .ref (t)] m p (fun v m' p' => ∃ x, v = none ∧ PI p' ∧ Fr (fun a_ => (7 ≤ a_ ∧ a_ < 33) ∨ a_ = 34) m m' ∧ (∀ i, i < n → dot n ((kr n (fun z c => m (t + 2 + c) z) (m (t + 11))) i) x = if i + 1 = n then 1 else 0) ∧ ∀ j, j < n → m' 34 j = av n (fun z c => m (t + 2 + c) z) (fun i => m 4 (n + i)) x n j) := by
  obtain ⟨d, rfl⟩ : ∃ e, d = e + 1 := ⟨d - 1, by omega⟩
  refine ct_go (lv := [some (.ref (1)), some (.ref (t))]) (Nat.le_of_ble_eq_true rfl) (okar_cons rfl (okar_cons rfl okar_nil)) rfl (fun Qr hQ => ?_)
  have ht' := IsPl_b ht
  refine rw_blk lk_X9_findWatch_0 ?_
  refine rw_of (fun rr hrr => q_aload_n rfl (q_iconst (q_aload_n rfl (q_getI (PI_pl hP ht).1 rfl (ki rfl hm (by omega)) (q_imul hrr))))) ?_
  obtain ⟨_, mm1, pp2, hV3, rfl, rfl, rfl⟩ := c_X9_requirePoles (S := S) (fz := fz) (m := m) (p := p) (d := d) (by omega) (2 * n) (cp) hP hcp (by omega) (by omega)
  refine rw_of (fun rr hrr => q_invV hV3 (show SH 1 = (17, 0) from rfl) rfl rfl (okar_cons rfl okar_nil) (Nat.le_of_ble_eq_true rfl) (q_aload_n rfl (q_getR (show SH 1 = (17, 0) from rfl) rfl (pt_1_4 hP) (q_aload_n rfl hrr)))) ?_
  obtain ⟨_, mm4, pp5, hV6, rfl, rfl, hF6, hv6, hb6, hn6⟩ := c_X4_beTurned (S := S) (fz := fz) (m := m) (p := p) (d := d) (by omega) (t) (n) hP ht (by omega) hm (by omega)
  refine rw_of (fun rr hrr => q_invV hV6 (PI_pl hP (Or.inl rfl)).1 rfl rfl (okar_cons rfl okar_nil) (Nat.le_of_ble_eq_true rfl) hrr) ?_
  have ek : ∀ k, ∀ i, i < n → kr n (fun z => mm4 (7 + 2 + z)) (mm4 (7 + 10)) k i = kr n (fun z c => m (t + 2 + c) z) (m (t + 11)) k i := kr_congr (fun i hi j hj => hv6 i hi j hj) (fun i hi => hb6 i hi)
  have er : rk n (kr n (fun z => mm4 (7 + 2 + z)) (mm4 (7 + 10))) = rk n (kr n (fun z c => m (t + 2 + c) z) (m (t + 11))) := rk_congr (fun i hi c hc => ek i c hc)
  refine rw_of (fun rr hrr => q_aload_n rfl (q_getR (show SH 1 = (17, 0) from rfl) rfl (pt_1_5 hP) (q_aload_n rfl (q_getR (show SH 1 = (17, 0) from rfl) rfl (pt_1_4 hP) (q_aload_n rfl (q_getR (show SH 1 = (17, 0) from rfl) rfl (pt_1_2 hP) (q_aload_n rfl (q_getI (PI_pl hP ht).1 rfl (ki (hF6 t (by show ¬ (7 ≤ t ∧ t < 18); omega)) hm (by omega)) (q_aload_n rfl (q_getR (show SH 1 = (17, 0) from rfl) rfl (pt_1_7 hP) hrr)))))))))) ?_
  obtain ⟨_, mm7, pp8, hV9, x9, hP9, hF9, rfl, hx9, hv9⟩ := c_X3_byColumns1 (S := S) (fz := fz) (m := mm4) (p := p) (d := d) (by omega) (n) (7) (n) (34) hP (Or.inl rfl) (by omega) (by omega) hn6 (by omega) (by omega) (er.trans hr)
  refine rw_of (fun rr hrr => q_invV hV9 (show SH 19 = (12, 0) from rfl) rfl rfl (okar_cons rfl (okar_cons rfl (okar_cons rfl (okar_cons rfl okar_nil)))) (Nat.le_of_ble_eq_true rfl) hrr) ?_
  refine rw_if_ne ⟨by omega, by omega⟩ (t := 54) rfl (fun hc10 => ?_) (fun hc10 => ?_)
  · skip
    refine rw_blk lk_X9_findWatch_54 ?_
    refine rw_ret hQ (q_return) ?_
    
    refine ⟨x9, rfl, hP9, Fr_trans (Fr_mono hF6 (fun a ha => by omega)) (Fr_mono hF9 (fun a ha => by omega)), fun i hi => ?_, fun j hj => ?_⟩
    · rw [← hx9 i hi]
      exact dot_congr (fun c hc => (ek i c hc).symm) (fun _ _ => rfl)
    · rw [hv9 j hj]
      exact av_congr (fun i hi c hc => hv6 i hi c hc) (fun i => by rw [hF6 4 (by omega)]) n j hj
    
  · skip
    exfalso; omega
theorem t_X9_findWatch {d : Nat} {S : Env} {fz : Bool} {m : M1} {p : M2} (hd : 7 ≤ d) (t n cp : Nat) (hP : PI p) (ht : IsPl t) (hm : m t 0 = nF n) (hn0 : 1 ≤ n) (hn : n ≤ 8) (hcp : m 3 1 = nF cp) (hcpl : cp ≤ 16) (h : cp < 2 * n) : Tx d k_X9_findWatch S fz [.ref (1), .ref (t)] m p 2 (fun m' p' => m = m' ∧ p = p') := by
  obtain ⟨d, rfl⟩ : ∃ e, d = e + 1 := ⟨d - 1, by omega⟩
  refine tx_go (lv := [some (.ref (1)), some (.ref (t))]) (Nat.le_of_ble_eq_true rfl) (okar_cons rfl (okar_cons rfl okar_nil)) (by decide) (by omega) rfl (fun Qr hQ => ?_)
  have ht' := IsPl_b ht
  refine rw_blk lk_X9_findWatch_0 ?_
  refine rw_of (fun rr hrr => q_aload_n rfl (q_iconst (q_aload_n rfl (q_getI (PI_pl hP ht).1 rfl (ki rfl hm (by omega)) (q_imul hrr))))) ?_
  obtain ⟨mm1, pp2, hV3, rfl, rfl⟩ := t_X9_requirePoles (S := S) (fz := fz) (m := m) (p := p) (d := d) (by omega) (2 * n) (cp) hP hcp (by omega) (by omega) (by omega)
  refine rw_end (q_invVx hV3 (by decide) (show SH 1 = (17, 0) from rfl) rfl rfl (okar_cons rfl okar_nil) (Nat.le_of_ble_eq_true rfl)) ?_
  rw [hQ]
  refine ⟨_, _, rfl, ?_⟩
  exact ⟨rfl, rfl⟩
theorem t_X9_findWatchR {d : Nat} {S : Env} {fz : Bool} {m : M1} {p : M2} (hd : 7 ≤ d) (t n cp : Nat) (hP : PI p) (ht : IsPl t) (hm : m t 0 = nF n) (hn0 : 1 ≤ n) (hn : n ≤ 8) (h7 : t ≠ 7) (hcp : m 3 1 = nF cp) (hcpl : cp ≤ 16) (h : 2 * n ≤ cp) (hr : rk n (kr n (fun z c => m (t + 2 + c) z) (m (t + 11))) ≠ n) : Tx d k_X9_findWatch S fz [.ref (1), .ref (t)] m p 2 (fun m' p' => PI p' ∧ Fr (fun a_ => 7 ≤ a_ ∧ a_ < 117) m m') := by
  obtain ⟨d, rfl⟩ : ∃ e, d = e + 1 := ⟨d - 1, by omega⟩
  refine tx_go (lv := [some (.ref (1)), some (.ref (t))]) (Nat.le_of_ble_eq_true rfl) (okar_cons rfl (okar_cons rfl okar_nil)) (by decide) (by omega) rfl (fun Qr hQ => ?_)
  have ht' := IsPl_b ht
  refine rw_blk lk_X9_findWatch_0 ?_
  refine rw_of (fun rr hrr => q_aload_n rfl (q_iconst (q_aload_n rfl (q_getI (PI_pl hP ht).1 rfl (ki rfl hm (by omega)) (q_imul hrr))))) ?_
  obtain ⟨_, mm1, pp2, hV3, rfl, rfl, rfl⟩ := c_X9_requirePoles (S := S) (fz := fz) (m := m) (p := p) (d := d) (by omega) (2 * n) (cp) hP hcp (by omega) (by omega)
  refine rw_of (fun rr hrr => q_invV hV3 (show SH 1 = (17, 0) from rfl) rfl rfl (okar_cons rfl okar_nil) (Nat.le_of_ble_eq_true rfl) (q_aload_n rfl (q_getR (show SH 1 = (17, 0) from rfl) rfl (pt_1_4 hP) (q_aload_n rfl hrr)))) ?_
  obtain ⟨_, mm4, pp5, hV6, rfl, rfl, hF6, hv6, hb6, hn6⟩ := c_X4_beTurned (S := S) (fz := fz) (m := m) (p := p) (d := d) (by omega) (t) (n) hP ht (by omega) hm (by omega)
  refine rw_of (fun rr hrr => q_invV hV6 (PI_pl hP (Or.inl rfl)).1 rfl rfl (okar_cons rfl okar_nil) (Nat.le_of_ble_eq_true rfl) hrr) ?_
  have ek : ∀ k, ∀ i, i < n → kr n (fun z => mm4 (7 + 2 + z)) (mm4 (7 + 10)) k i = kr n (fun z c => m (t + 2 + c) z) (m (t + 11)) k i := kr_congr (fun i hi j hj => hv6 i hi j hj) (fun i hi => hb6 i hi)
  have er : rk n (kr n (fun z => mm4 (7 + 2 + z)) (mm4 (7 + 10))) = rk n (kr n (fun z c => m (t + 2 + c) z) (m (t + 11))) := rk_congr (fun i hi c hc => ek i c hc)
  refine rw_of (fun rr hrr => q_aload_n rfl (q_getR (show SH 1 = (17, 0) from rfl) rfl (pt_1_5 hP) (q_aload_n rfl (q_getR (show SH 1 = (17, 0) from rfl) rfl (pt_1_4 hP) (q_aload_n rfl (q_getR (show SH 1 = (17, 0) from rfl) rfl (pt_1_2 hP) (q_aload_n rfl (q_getI (PI_pl hP ht).1 rfl (ki (hF6 t (by show ¬ (7 ≤ t ∧ t < 18); omega)) hm (by omega)) (q_aload_n rfl (q_getR (show SH 1 = (17, 0) from rfl) rfl (pt_1_7 hP) hrr)))))))))) ?_
  obtain ⟨_, mm7, pp8, hV9, x9, hP9, hF9, rfl⟩ := c_X3_byColumns0 (S := S) (fz := fz) (m := mm4) (p := p) (d := d) (by omega) (n) (7) (n) (34) hP (Or.inl rfl) (by omega) (by omega) hn6 (by omega) (by omega) (er_ne er hr)
  refine rw_of (fun rr hrr => q_invV hV9 (show SH 19 = (12, 0) from rfl) rfl rfl (okar_cons rfl (okar_cons rfl (okar_cons rfl (okar_cons rfl okar_nil)))) (Nat.le_of_ble_eq_true rfl) hrr) ?_
  refine rw_if_ne ⟨by omega, by omega⟩ (t := 54) rfl (fun hc10 => ?_) (fun hc10 => ?_)
  · skip
    refine rw_blk lk_X9_findWatch_54 ?_
    exfalso; omega
  · skip
    refine rw_end (q_throw (by decide) (by decide +kernel) rfl) ?_
    rw [hQ]
    refine ⟨_, _, rfl, ?_⟩
    exact ⟨hP9, Fr_trans (Fr_mono hF6 (fun a ha => by omega)) (Fr_mono hF9 (fun a ha => by omega))⟩
theorem c_X9_goBack {d : Nat} {S : Env} {fz : Bool} {m : M1} {p : M2} (hd : 7 ≤ d) (t n l : Nat) (q r : F) (hP : PI p) (ht : IsPl t) (hm : m t 0 = nF n) (hn0 : 1 ≤ n) (hn : n ≤ 8) (hl : l ≤ 20) (hr : ∀ s, s < l → rm n ((rc n (fun z => m (t + 2 + z)) (m (t + 10)) (m (t + 11)) q r) s) (m (t + 10)) r ≠ 0) : Ct d k_X9_goBack S fz [.ref (1), .ref (t), .int (iI (vF (q))), .int (iI (vF (r))), .int (iI (((l : Nat) : Int)))] m p (fun v m' p' => v = none ∧ p = p' ∧ Fr (fun a_ => 7 ≤ a_ ∧ a_ < 117) m m' ∧ (∀ k, k < n → ∀ j, j < n → m' (75 + k) j = (rc n (fun z => m (t + 2 + z)) (m (t + 10)) (m (t + 11)) q r) l k j) ∧ ∀ s, s < l → ∀ j, j < n → m' (93 + s) j = rK n ((rc n (fun z => m (t + 2 + z)) (m (t + 10)) (m (t + 11)) q r) s) (fun z => m (t + 2 + z)) (m (t + 10)) r j) := by
  obtain ⟨d, rfl⟩ : ∃ e, d = e + 1 := ⟨d - 1, by omega⟩
  refine ct_go (lv := [some (.ref (1)), some (.ref (t)), some (.int (iI (vF (q)))), some (.int (iI (vF (r)))), some (.int (iI (((l : Nat) : Int))))]) (Nat.le_of_ble_eq_true rfl) (okar_cons rfl (okar_cons rfl (okar_cons rfl (okar_cons rfl (okar_cons rfl okar_nil))))) rfl (fun Qr hQ => ?_)
  have ht' := IsPl_b ht
  refine rw_blk lk_X9_goBack_0 ?_
  refine rw_of (fun rr hrr => q_iload_n rfl (q_sipush rfl hrr)) ?_
  obtain ⟨_, mm1, pp2, hV3, rfl, rfl, rfl⟩ := c_X9_requireRange (S := S) (fz := fz) (m := m) (p := p) (d := d) (by omega) (vF (q)) (10006) (by omega) (by have := vF_ge q; have := vF_lt q; have := vF_ge r; have := vF_lt r; omega)
  refine rw_of (fun rr hrr => q_invS hV3 rfl rfl (okar_cons rfl (okar_cons rfl okar_nil)) (Nat.le_of_ble_eq_true rfl) (q_iload_n rfl (q_sipush rfl hrr))) ?_
  obtain ⟨_, mm4, pp5, hV6, rfl, rfl, rfl⟩ := c_X9_requireRange (S := S) (fz := fz) (m := m) (p := p) (d := d) (by omega) (vF (r)) (10006) (by omega) (by have := vF_ge q; have := vF_lt q; have := vF_ge r; have := vF_lt r; omega)
  refine rw_of (fun rr hrr => q_invS hV6 rfl rfl (okar_cons rfl (okar_cons rfl okar_nil)) (Nat.le_of_ble_eq_true rfl) (q_iload rfl (q_bipush rfl hrr))) ?_
  obtain ⟨_, mm7, pp8, hV9, rfl, rfl, rfl⟩ := c_X9_requireRange (S := S) (fz := fz) (m := m) (p := p) (d := d) (by omega) (((l : Nat) : Int)) (20) (by omega) (by have := vF_ge q; have := vF_lt q; have := vF_ge r; have := vF_lt r; omega)
  refine rw_of (fun rr hrr => q_invS hV9 rfl rfl (okar_cons rfl (okar_cons rfl okar_nil)) (Nat.le_of_ble_eq_true rfl) (q_aload_n rfl (q_getR (show SH 1 = (17, 0) from rfl) rfl (pt_1_10 hP) (q_aload_n rfl (q_iload_n rfl (q_iload_n rfl (q_iload rfl hrr))))))) ?_
  obtain ⟨_, mm10, pp11, hV12, rfl, hF12, rfl, hv12, hK12⟩ := c_X7_find1 (S := S) (fz := fz) (m := m) (p := p) (d := d) (by omega) (n) (t) (l) (q) (r) hP ht (by omega) (by omega) hm (by omega) (hr)
  refine rw_of (fun rr hrr => q_invV hV12 (show SH 73 = (15, 0) from rfl) rfl rfl (okar_cons rfl (okar_cons rfl (okar_cons rfl (okar_cons rfl okar_nil)))) (Nat.le_of_ble_eq_true rfl) hrr) ?_
  refine rw_if_ne ⟨by omega, by omega⟩ (t := 47) rfl (fun hc13 => ?_) (fun hc13 => ?_)
  · skip
    refine rw_blk lk_X9_goBack_47 ?_
    exact rw_ret hQ (q_return) (by exact ⟨rfl, rfl, Fr_mono hF12 (fun a ha => by omega), hv12, hK12⟩)
  · skip
    exfalso; omega
theorem t_X9_goBackM {d : Nat} {S : Env} {fz : Bool} {m : M1} {p : M2} (hd : 7 ≤ d) (t n l l0 : Nat) (q r : F) (hP : PI p) (ht : IsPl t) (hm : m t 0 = nF n) (hn0 : 1 ≤ n) (hn : n ≤ 8) (hl : l0 < l ∧ l ≤ 20) (hr : ∀ s, s < l0 → rm n ((rc n (fun z => m (t + 2 + z)) (m (t + 10)) (m (t + 11)) q r) s) (m (t + 10)) r ≠ 0) (hr0 : rm n ((rc n (fun z => m (t + 2 + z)) (m (t + 10)) (m (t + 11)) q r) l0) (m (t + 10)) r = 0) : Tx d k_X9_goBack S fz [.ref (1), .ref (t), .int (iI (vF (q))), .int (iI (vF (r))), .int (iI (((l : Nat) : Int)))] m p 2 (fun m' p' => p = p' ∧ Fr (fun a_ => 7 ≤ a_ ∧ a_ < 117) m m') := by
  obtain ⟨d, rfl⟩ : ∃ e, d = e + 1 := ⟨d - 1, by omega⟩
  refine tx_go (lv := [some (.ref (1)), some (.ref (t)), some (.int (iI (vF (q)))), some (.int (iI (vF (r)))), some (.int (iI (((l : Nat) : Int))))]) (Nat.le_of_ble_eq_true rfl) (okar_cons rfl (okar_cons rfl (okar_cons rfl (okar_cons rfl (okar_cons rfl okar_nil))))) (by decide) (by omega) rfl (fun Qr hQ => ?_)
  have ht' := IsPl_b ht
  refine rw_blk lk_X9_goBack_0 ?_
  refine rw_of (fun rr hrr => q_iload_n rfl (q_sipush rfl hrr)) ?_
  obtain ⟨_, mm1, pp2, hV3, rfl, rfl, rfl⟩ := c_X9_requireRange (S := S) (fz := fz) (m := m) (p := p) (d := d) (by omega) (vF (q)) (10006) (by omega) (by have := vF_ge q; have := vF_lt q; have := vF_ge r; have := vF_lt r; omega)
  refine rw_of (fun rr hrr => q_invS hV3 rfl rfl (okar_cons rfl (okar_cons rfl okar_nil)) (Nat.le_of_ble_eq_true rfl) (q_iload_n rfl (q_sipush rfl hrr))) ?_
  obtain ⟨_, mm4, pp5, hV6, rfl, rfl, rfl⟩ := c_X9_requireRange (S := S) (fz := fz) (m := m) (p := p) (d := d) (by omega) (vF (r)) (10006) (by omega) (by have := vF_ge q; have := vF_lt q; have := vF_ge r; have := vF_lt r; omega)
  refine rw_of (fun rr hrr => q_invS hV6 rfl rfl (okar_cons rfl (okar_cons rfl okar_nil)) (Nat.le_of_ble_eq_true rfl) (q_iload rfl (q_bipush rfl hrr))) ?_
  obtain ⟨_, mm7, pp8, hV9, rfl, rfl, rfl⟩ := c_X9_requireRange (S := S) (fz := fz) (m := m) (p := p) (d := d) (by omega) (((l : Nat) : Int)) (20) (by omega) (by have := vF_ge q; have := vF_lt q; have := vF_ge r; have := vF_lt r; omega)
  refine rw_of (fun rr hrr => q_invS hV9 rfl rfl (okar_cons rfl (okar_cons rfl okar_nil)) (Nat.le_of_ble_eq_true rfl) (q_aload_n rfl (q_getR (show SH 1 = (17, 0) from rfl) rfl (pt_1_10 hP) (q_aload_n rfl (q_iload_n rfl (q_iload_n rfl (q_iload rfl hrr))))))) ?_
  obtain ⟨_, mm10, pp11, hV12, rfl, hF12, rfl⟩ := c_X7_find0 (S := S) (fz := fz) (m := m) (p := p) (d := d) (by omega) (n) (t) (l) (l0) (q) (r) hP ht (by omega) (by omega) hm (by omega) (hr) (hr0)
  refine rw_of (fun rr hrr => q_invV hV12 (show SH 73 = (15, 0) from rfl) rfl rfl (okar_cons rfl (okar_cons rfl (okar_cons rfl (okar_cons rfl okar_nil)))) (Nat.le_of_ble_eq_true rfl) hrr) ?_
  refine rw_if_ne ⟨by omega, by omega⟩ (t := 47) rfl (fun hc13 => ?_) (fun hc13 => ?_)
  · skip
    refine rw_blk lk_X9_goBack_47 ?_
    exfalso; omega
  · skip
    refine rw_end (q_throwW (by decide) (by decide +kernel) rfl) ?_
    rw [hQ]
    refine ⟨_, _, rfl, ?_⟩
    exact ⟨rfl, Fr_mono hF12 (fun a ha => by omega)⟩
theorem t_X9_goBackQ {d : Nat} {S : Env} {fz : Bool} {m : M1} {p : M2} (hd : 7 ≤ d) (t n : Nat) (q r l : Int) (hP : PI p) (ht : IsPl t) (hm : m t 0 = nF n) (hn0 : 1 ≤ n) (hn : n ≤ 8) (hr : (-2147483648 ≤ q ∧ q < 2147483648)) (h : q < 0 ∨ 10006 < q) : Tx d k_X9_goBack S fz [.ref (1), .ref (t), .int (iI (q)), .int (iI (r)), .int (iI (l))] m p 1 (fun m' p' => m = m' ∧ p = p') := by
  obtain ⟨d, rfl⟩ : ∃ e, d = e + 1 := ⟨d - 1, by omega⟩
  refine tx_go (lv := [some (.ref (1)), some (.ref (t)), some (.int (iI (q))), some (.int (iI (r))), some (.int (iI (l)))]) (Nat.le_of_ble_eq_true rfl) (okar_cons rfl (okar_cons rfl (okar_cons rfl (okar_cons rfl (okar_cons rfl okar_nil))))) (by decide) (by omega) rfl (fun Qr hQ => ?_)
  have ht' := IsPl_b ht
  refine rw_blk lk_X9_goBack_0 ?_
  refine rw_of (fun rr hrr => q_iload_n rfl (q_sipush rfl hrr)) ?_
  obtain ⟨mm1, pp2, hV3, rfl, rfl⟩ := t_X9_requireRange (S := S) (fz := fz) (m := m) (p := p) (d := d) (by omega) (q) (10006) (by omega) (by omega) (by omega)
  refine rw_end (q_invSx hV3 (by decide) rfl rfl (okar_cons rfl (okar_cons rfl okar_nil)) (Nat.le_of_ble_eq_true rfl)) ?_
  rw [hQ]
  refine ⟨_, _, rfl, ?_⟩
  exact ⟨rfl, rfl⟩
theorem t_X9_goBackR {d : Nat} {S : Env} {fz : Bool} {m : M1} {p : M2} (hd : 7 ≤ d) (t n : Nat) (q r l : Int) (hP : PI p) (ht : IsPl t) (hm : m t 0 = nF n) (hn0 : 1 ≤ n) (hn : n ≤ 8) (h1 : 0 ≤ q ∧ q ≤ 10006) (hr : (-2147483648 ≤ r ∧ r < 2147483648)) (h : r < 0 ∨ 10006 < r) : Tx d k_X9_goBack S fz [.ref (1), .ref (t), .int (iI (q)), .int (iI (r)), .int (iI (l))] m p 1 (fun m' p' => m = m' ∧ p = p') := by
  obtain ⟨d, rfl⟩ : ∃ e, d = e + 1 := ⟨d - 1, by omega⟩
  refine tx_go (lv := [some (.ref (1)), some (.ref (t)), some (.int (iI (q))), some (.int (iI (r))), some (.int (iI (l)))]) (Nat.le_of_ble_eq_true rfl) (okar_cons rfl (okar_cons rfl (okar_cons rfl (okar_cons rfl (okar_cons rfl okar_nil))))) (by decide) (by omega) rfl (fun Qr hQ => ?_)
  have ht' := IsPl_b ht
  refine rw_blk lk_X9_goBack_0 ?_
  refine rw_of (fun rr hrr => q_iload_n rfl (q_sipush rfl hrr)) ?_
  obtain ⟨_, mm1, pp2, hV3, rfl, rfl, rfl⟩ := c_X9_requireRange (S := S) (fz := fz) (m := m) (p := p) (d := d) (by omega) (q) (10006) (by omega) (by omega)
  refine rw_of (fun rr hrr => q_invS hV3 rfl rfl (okar_cons rfl (okar_cons rfl okar_nil)) (Nat.le_of_ble_eq_true rfl) (q_iload_n rfl (q_sipush rfl hrr))) ?_
  obtain ⟨mm4, pp5, hV6, rfl, rfl⟩ := t_X9_requireRange (S := S) (fz := fz) (m := m) (p := p) (d := d) (by omega) (r) (10006) (by omega) (by omega) (by omega)
  refine rw_end (q_invSx hV6 (by decide) rfl rfl (okar_cons rfl (okar_cons rfl okar_nil)) (Nat.le_of_ble_eq_true rfl)) ?_
  rw [hQ]
  refine ⟨_, _, rfl, ?_⟩
  exact ⟨rfl, rfl⟩
theorem t_X9_goBackL {d : Nat} {S : Env} {fz : Bool} {m : M1} {p : M2} (hd : 7 ≤ d) (t n : Nat) (q r l : Int) (hP : PI p) (ht : IsPl t) (hm : m t 0 = nF n) (hn0 : 1 ≤ n) (hn : n ≤ 8) (h1 : 0 ≤ q ∧ q ≤ 10006) (h2 : 0 ≤ r ∧ r ≤ 10006) (hr : (-2147483648 ≤ l ∧ l < 2147483648)) (h : l < 0 ∨ 20 < l) : Tx d k_X9_goBack S fz [.ref (1), .ref (t), .int (iI (q)), .int (iI (r)), .int (iI (l))] m p 1 (fun m' p' => m = m' ∧ p = p') := by
  obtain ⟨d, rfl⟩ : ∃ e, d = e + 1 := ⟨d - 1, by omega⟩
  refine tx_go (lv := [some (.ref (1)), some (.ref (t)), some (.int (iI (q))), some (.int (iI (r))), some (.int (iI (l)))]) (Nat.le_of_ble_eq_true rfl) (okar_cons rfl (okar_cons rfl (okar_cons rfl (okar_cons rfl (okar_cons rfl okar_nil))))) (by decide) (by omega) rfl (fun Qr hQ => ?_)
  have ht' := IsPl_b ht
  refine rw_blk lk_X9_goBack_0 ?_
  refine rw_of (fun rr hrr => q_iload_n rfl (q_sipush rfl hrr)) ?_
  obtain ⟨_, mm1, pp2, hV3, rfl, rfl, rfl⟩ := c_X9_requireRange (S := S) (fz := fz) (m := m) (p := p) (d := d) (by omega) (q) (10006) (by omega) (by omega)
  refine rw_of (fun rr hrr => q_invS hV3 rfl rfl (okar_cons rfl (okar_cons rfl okar_nil)) (Nat.le_of_ble_eq_true rfl) (q_iload_n rfl (q_sipush rfl hrr))) ?_
  obtain ⟨_, mm4, pp5, hV6, rfl, rfl, rfl⟩ := c_X9_requireRange (S := S) (fz := fz) (m := m) (p := p) (d := d) (by omega) (r) (10006) (by omega) (by omega)
  refine rw_of (fun rr hrr => q_invS hV6 rfl rfl (okar_cons rfl (okar_cons rfl okar_nil)) (Nat.le_of_ble_eq_true rfl) (q_iload rfl (q_bipush rfl hrr))) ?_
  obtain ⟨mm7, pp8, hV9, rfl, rfl⟩ := t_X9_requireRange (S := S) (fz := fz) (m := m) (p := p) (d := d) (by omega) (l) (20) (by omega) (by omega) (by omega)
  refine rw_end (q_invSx hV9 (by decide) rfl rfl (okar_cons rfl (okar_cons rfl okar_nil)) (Nat.le_of_ble_eq_true rfl)) ?_
  rw [hQ]
  refine ⟨_, _, rfl, ?_⟩
  exact ⟨rfl, rfl⟩
