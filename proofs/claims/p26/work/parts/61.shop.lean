theorem gxc_congr {n l : Nat} {A A' K K' : Nat → Nat → F} {b c : Nat → F} {q r : F} (hA : ∀ i, i < n → ∀ j, j < n → A i j = A' i j) (hK : ∀ z, z < l → ∀ j, j < n → K z j = K' z j) (t : Nat) : t ≤ l → (∀ i, i < n → gx n A b K l t i = gx n A' b K' l t i) ∧ gc n A b c q r K l t = gc n A' b c q r K' l t := by
  induction t with
  | zero => exact fun _ => ⟨fun _ _ => rfl, rfl⟩
  | succ t ih =>
    intro ht
    obtain ⟨h1, h2⟩ := ih (by omega)
    have h3 : dot n (K (l - 1 - t)) (gx n A b K l t) = dot n (K' (l - 1 - t)) (gx n A' b K' l t) := dot_congr (fun j hj => hK _ (by omega) j hj) h1
    refine ⟨fun i hi => ?_, ?_⟩
    · show dot n (A i) (gx n A b K l t) + b i * (0 - dot n (K (l - 1 - t)) (gx n A b K l t)) = dot n (A' i) (gx n A' b K' l t) + b i * (0 - dot n (K' (l - 1 - t)) (gx n A' b K' l t))
      rw [h3, dot_congr (fun j hj => hA i hi j hj) h1]
    · show gc n A b c q r K l t + hc n c q (gx n A b K l t) + r * ((0 - dot n (K (l - 1 - t)) (gx n A b K l t)) * (0 - dot n (K (l - 1 - t)) (gx n A b K l t))) = gc n A' b c q r K' l t + hc n c q (gx n A' b K' l t) + r * ((0 - dot n (K' (l - 1 - t)) (gx n A' b K' l t)) * (0 - dot n (K' (l - 1 - t)) (gx n A' b K' l t)))
      rw [h2, h3]
      unfold hc
      rw [dot_congr (fun _ _ => rfl) h1]
theorem t_X9_set {d : Nat} {S : Env} {fz : Bool} {m : M1} {p : M2} (hd : 8 ≤ d) (s a1 a2 a3 a4 : Int) (k : Nat) (hP : PI p) (hk : m 1 1 = nF k) (hk12 : k ≤ 12) (hs : (-2147483648 ≤ s ∧ s < 2147483648) ∧ ¬ (0 ≤ s ∧ s < k)) : Tx d k_X9_set S fz [.ref (1), .int (iI (s)), .int (iI (a1)), .int (iI (a2)), .int (iI (a3)), .int (iI (a4))] m p 0 (fun m' p' => m = m' ∧ p = p') := by
  obtain ⟨d, rfl⟩ : ∃ e, d = e + 1 := ⟨d - 1, by omega⟩
  refine tx_go (lv := [some (.ref (1)), some (.int (iI (s))), some (.int (iI (a1))), some (.int (iI (a2))), some (.int (iI (a3))), some (.int (iI (a4))), none, none]) (Nat.le_of_ble_eq_true rfl) (okar_cons rfl (okar_cons rfl (okar_cons rfl (okar_cons rfl (okar_cons rfl (okar_cons rfl okar_nil)))))) (by decide) (by omega) rfl (fun Qr hQ => ?_)
  refine rw_blk lk_X9_set_0 ?_
  refine rw_of (fun rr hrr => q_aload_n rfl (q_iload_n rfl hrr)) ?_
  obtain ⟨mm1, pp2, hV3, rfl, rfl⟩ := t_X9_plantOf (S := S) (fz := fz) (m := m) (p := p) (d := d) (by omega) (s) (k) hP hk (by omega) (by omega)
  refine rw_end (q_invVx hV3 (by decide) (show SH 1 = (17, 0) from rfl) rfl rfl (okar_cons rfl okar_nil) (Nat.le_of_ble_eq_true rfl)) ?_
  rw [hQ]
  refine ⟨_, _, rfl, ?_⟩
  exact ⟨rfl, rfl⟩
theorem t_X9_loop {d : Nat} {S : Env} {fz : Bool} {m : M1} {p : M2} (hd : 7 ≤ d) (s a1 : Int) (k : Nat) (hP : PI p) (hk : m 1 1 = nF k) (hk12 : k ≤ 12) (hs : (-2147483648 ≤ s ∧ s < 2147483648) ∧ ¬ (0 ≤ s ∧ s < k)) : Tx d k_X9_loop S fz [.ref (1), .int (iI (s)), .int (iI (a1))] m p 0 (fun m' p' => m = m' ∧ p = p') := by
  obtain ⟨d, rfl⟩ : ∃ e, d = e + 1 := ⟨d - 1, by omega⟩
  refine tx_go (lv := [some (.ref (1)), some (.int (iI (s))), some (.int (iI (a1))), none, none, none]) (Nat.le_of_ble_eq_true rfl) (okar_cons rfl (okar_cons rfl (okar_cons rfl okar_nil))) (by decide) (by omega) rfl (fun Qr hQ => ?_)
  refine rw_blk lk_X9_loop_0 ?_
  refine rw_of (fun rr hrr => q_aload_n rfl (q_iload_n rfl hrr)) ?_
  obtain ⟨mm1, pp2, hV3, rfl, rfl⟩ := t_X9_plantOf (S := S) (fz := fz) (m := m) (p := p) (d := d) (by omega) (s) (k) hP hk (by omega) (by omega)
  refine rw_end (q_invVx hV3 (by decide) (show SH 1 = (17, 0) from rfl) rfl rfl (okar_cons rfl okar_nil) (Nat.le_of_ble_eq_true rfl)) ?_
  rw [hQ]
  refine ⟨_, _, rfl, ?_⟩
  exact ⟨rfl, rfl⟩
theorem t_X9_placed {d : Nat} {S : Env} {fz : Bool} {m : M1} {p : M2} (hd : 8 ≤ d) (s : Int) (k : Nat) (hP : PI p) (hk : m 1 1 = nF k) (hk12 : k ≤ 12) (hs : (-2147483648 ≤ s ∧ s < 2147483648) ∧ ¬ (0 ≤ s ∧ s < k)) : Tx d k_X9_placed S fz [.ref (1), .int (iI (s))] m p 0 (fun m' p' => m = m' ∧ p = p') := by
  obtain ⟨d, rfl⟩ : ∃ e, d = e + 1 := ⟨d - 1, by omega⟩
  refine tx_go (lv := [some (.ref (1)), some (.int (iI (s))), none]) (Nat.le_of_ble_eq_true rfl) (okar_cons rfl (okar_cons rfl okar_nil)) (by decide) (by omega) rfl (fun Qr hQ => ?_)
  refine rw_blk lk_X9_placed_0 ?_
  refine rw_of (fun rr hrr => q_aload_n rfl (q_iload_n rfl hrr)) ?_
  obtain ⟨mm1, pp2, hV3, rfl, rfl⟩ := t_X9_plantOf (S := S) (fz := fz) (m := m) (p := p) (d := d) (by omega) (s) (k) hP hk (by omega) (by omega)
  refine rw_end (q_invVx hV3 (by decide) (show SH 1 = (17, 0) from rfl) rfl rfl (okar_cons rfl okar_nil) (Nat.le_of_ble_eq_true rfl)) ?_
  rw [hQ]
  refine ⟨_, _, rfl, ?_⟩
  exact ⟨rfl, rfl⟩
theorem t_X9_joined {d : Nat} {S : Env} {fz : Bool} {m : M1} {p : M2} (hd : 8 ≤ d) (s : Int) (k : Nat) (hP : PI p) (hk : m 1 1 = nF k) (hk12 : k ≤ 12) (hs : (-2147483648 ≤ s ∧ s < 2147483648) ∧ ¬ (0 ≤ s ∧ s < k)) : Tx d k_X9_joined S fz [.ref (1), .int (iI (s))] m p 0 (fun m' p' => m = m' ∧ p = p') := by
  obtain ⟨d, rfl⟩ : ∃ e, d = e + 1 := ⟨d - 1, by omega⟩
  refine tx_go (lv := [some (.ref (1)), some (.int (iI (s))), none]) (Nat.le_of_ble_eq_true rfl) (okar_cons rfl (okar_cons rfl okar_nil)) (by decide) (by omega) rfl (fun Qr hQ => ?_)
  refine rw_blk lk_X9_joined_0 ?_
  refine rw_of (fun rr hrr => q_aload_n rfl (q_iload_n rfl hrr)) ?_
  obtain ⟨mm1, pp2, hV3, rfl, rfl⟩ := t_X9_plantOf (S := S) (fz := fz) (m := m) (p := p) (d := d) (by omega) (s) (k) hP hk (by omega) (by omega)
  refine rw_end (q_invVx hV3 (by decide) (show SH 1 = (17, 0) from rfl) rfl rfl (okar_cons rfl okar_nil) (Nat.le_of_ble_eq_true rfl)) ?_
  rw [hQ]
  refine ⟨_, _, rfl, ?_⟩
  exact ⟨rfl, rfl⟩
theorem t_X9_at {d : Nat} {S : Env} {fz : Bool} {m : M1} {p : M2} (hd : 8 ≤ d) (s a1 a2 a3 : Int) (k : Nat) (hP : PI p) (hk : m 1 1 = nF k) (hk12 : k ≤ 12) (hs : (-2147483648 ≤ s ∧ s < 2147483648) ∧ ¬ (0 ≤ s ∧ s < k)) : Tx d k_X9_at S fz [.ref (1), .int (iI (s)), .int (iI (a1)), .int (iI (a2)), .int (iI (a3))] m p 0 (fun m' p' => m = m' ∧ p = p') := by
  obtain ⟨d, rfl⟩ : ∃ e, d = e + 1 := ⟨d - 1, by omega⟩
  refine tx_go (lv := [some (.ref (1)), some (.int (iI (s))), some (.int (iI (a1))), some (.int (iI (a2))), some (.int (iI (a3))), none]) (Nat.le_of_ble_eq_true rfl) (okar_cons rfl (okar_cons rfl (okar_cons rfl (okar_cons rfl (okar_cons rfl okar_nil))))) (by decide) (by omega) rfl (fun Qr hQ => ?_)
  refine rw_blk lk_X9_at_0 ?_
  refine rw_of (fun rr hrr => q_aload_n rfl (q_iload_n rfl hrr)) ?_
  obtain ⟨mm1, pp2, hV3, rfl, rfl⟩ := t_X9_plantOf (S := S) (fz := fz) (m := m) (p := p) (d := d) (by omega) (s) (k) hP hk (by omega) (by omega)
  refine rw_end (q_invVx hV3 (by decide) (show SH 1 = (17, 0) from rfl) rfl rfl (okar_cons rfl okar_nil) (Nat.le_of_ble_eq_true rfl)) ?_
  rw [hQ]
  refine ⟨_, _, rfl, ?_⟩
  exact ⟨rfl, rfl⟩
theorem t_X9_order {d : Nat} {S : Env} {fz : Bool} {m : M1} {p : M2} (hd : 7 ≤ d) (s : Int) (k : Nat) (hP : PI p) (hk : m 1 1 = nF k) (hk12 : k ≤ 12) (hs : (-2147483648 ≤ s ∧ s < 2147483648) ∧ ¬ (0 ≤ s ∧ s < k)) : Tx d k_X9_order S fz [.ref (1), .int (iI (s))] m p 0 (fun m' p' => m = m' ∧ p = p') := by
  obtain ⟨d, rfl⟩ : ∃ e, d = e + 1 := ⟨d - 1, by omega⟩
  refine tx_go (lv := [some (.ref (1)), some (.int (iI (s)))]) (Nat.le_of_ble_eq_true rfl) (okar_cons rfl (okar_cons rfl okar_nil)) (by decide) (by omega) rfl (fun Qr hQ => ?_)
  refine rw_blk lk_X9_order_0 ?_
  refine rw_of (fun rr hrr => q_aload_n rfl (q_iload_n rfl hrr)) ?_
  obtain ⟨mm1, pp2, hV3, rfl, rfl⟩ := t_X9_plantOf (S := S) (fz := fz) (m := m) (p := p) (d := d) (by omega) (s) (k) hP hk (by omega) (by omega)
  refine rw_end (q_invVx hV3 (by decide) (show SH 1 = (17, 0) from rfl) rfl rfl (okar_cons rfl okar_nil) (Nat.le_of_ble_eq_true rfl)) ?_
  rw [hQ]
  refine ⟨_, _, rfl, ?_⟩
  exact ⟨rfl, rfl⟩
theorem t_X9_polynomial {d : Nat} {S : Env} {fz : Bool} {m : M1} {p : M2} (hd : 7 ≤ d) (s a1 a2 : Int) (k : Nat) (hP : PI p) (hk : m 1 1 = nF k) (hk12 : k ≤ 12) (hs : (-2147483648 ≤ s ∧ s < 2147483648) ∧ ¬ (0 ≤ s ∧ s < k)) : Tx d k_X9_polynomial S fz [.ref (1), .int (iI (s)), .int (iI (a1)), .int (iI (a2))] m p 0 (fun m' p' => m = m' ∧ p = p') := by
  obtain ⟨d, rfl⟩ : ∃ e, d = e + 1 := ⟨d - 1, by omega⟩
  refine tx_go (lv := [some (.ref (1)), some (.int (iI (s))), some (.int (iI (a1))), some (.int (iI (a2))), none]) (Nat.le_of_ble_eq_true rfl) (okar_cons rfl (okar_cons rfl (okar_cons rfl (okar_cons rfl okar_nil)))) (by decide) (by omega) rfl (fun Qr hQ => ?_)
  refine rw_blk lk_X9_polynomial_0 ?_
  refine rw_of (fun rr hrr => q_aload_n rfl (q_iload_n rfl hrr)) ?_
  obtain ⟨mm1, pp2, hV3, rfl, rfl⟩ := t_X9_plantOf (S := S) (fz := fz) (m := m) (p := p) (d := d) (by omega) (s) (k) hP hk (by omega) (by omega)
  refine rw_end (q_invVx hV3 (by decide) (show SH 1 = (17, 0) from rfl) rfl rfl (okar_cons rfl okar_nil) (Nat.le_of_ble_eq_true rfl)) ?_
  rw [hQ]
  refine ⟨_, _, rfl, ?_⟩
  exact ⟨rfl, rfl⟩
theorem t_X9_rank {d : Nat} {S : Env} {fz : Bool} {m : M1} {p : M2} (hd : 7 ≤ d) (s a1 : Int) (k : Nat) (hP : PI p) (hk : m 1 1 = nF k) (hk12 : k ≤ 12) (hs : (-2147483648 ≤ s ∧ s < 2147483648) ∧ ¬ (0 ≤ s ∧ s < k)) : Tx d k_X9_rank S fz [.ref (1), .int (iI (s)), .int (iI (a1))] m p 0 (fun m' p' => m = m' ∧ p = p') := by
  obtain ⟨d, rfl⟩ : ∃ e, d = e + 1 := ⟨d - 1, by omega⟩
  refine tx_go (lv := [some (.ref (1)), some (.int (iI (s))), some (.int (iI (a1))), none]) (Nat.le_of_ble_eq_true rfl) (okar_cons rfl (okar_cons rfl (okar_cons rfl okar_nil))) (by decide) (by omega) rfl (fun Qr hQ => ?_)
  refine rw_blk lk_X9_rank_0 ?_
  refine rw_of (fun rr hrr => q_aload_n rfl (q_iload_n rfl hrr)) ?_
  obtain ⟨mm1, pp2, hV3, rfl, rfl⟩ := t_X9_plantOf (S := S) (fz := fz) (m := m) (p := p) (d := d) (by omega) (s) (k) hP hk (by omega) (by omega)
  refine rw_end (q_invVx hV3 (by decide) (show SH 1 = (17, 0) from rfl) rfl rfl (okar_cons rfl okar_nil) (Nat.le_of_ble_eq_true rfl)) ?_
  rw [hQ]
  refine ⟨_, _, rfl, ?_⟩
  exact ⟨rfl, rfl⟩
theorem t_X9_number {d : Nat} {S : Env} {fz : Bool} {m : M1} {p : M2} (hd : 7 ≤ d) (s a1 : Int) (k : Nat) (hP : PI p) (hk : m 1 1 = nF k) (hk12 : k ≤ 12) (hs : (-2147483648 ≤ s ∧ s < 2147483648) ∧ ¬ (0 ≤ s ∧ s < k)) : Tx d k_X9_number S fz [.ref (1), .int (iI (s)), .int (iI (a1))] m p 0 (fun m' p' => m = m' ∧ p = p') := by
  obtain ⟨d, rfl⟩ : ∃ e, d = e + 1 := ⟨d - 1, by omega⟩
  refine tx_go (lv := [some (.ref (1)), some (.int (iI (s))), some (.int (iI (a1))), none]) (Nat.le_of_ble_eq_true rfl) (okar_cons rfl (okar_cons rfl (okar_cons rfl okar_nil))) (by decide) (by omega) rfl (fun Qr hQ => ?_)
  refine rw_blk lk_X9_number_0 ?_
  refine rw_of (fun rr hrr => q_aload_n rfl (q_iload_n rfl hrr)) ?_
  obtain ⟨mm1, pp2, hV3, rfl, rfl⟩ := t_X9_plantOf (S := S) (fz := fz) (m := m) (p := p) (d := d) (by omega) (s) (k) hP hk (by omega) (by omega)
  refine rw_end (q_invVx hV3 (by decide) (show SH 1 = (17, 0) from rfl) rfl rfl (okar_cons rfl okar_nil) (Nat.le_of_ble_eq_true rfl)) ?_
  rw [hQ]
  refine ⟨_, _, rfl, ?_⟩
  exact ⟨rfl, rfl⟩
theorem t_X9_output {d : Nat} {S : Env} {fz : Bool} {m : M1} {p : M2} (hd : 7 ≤ d) (s a1 : Int) (k : Nat) (hP : PI p) (hk : m 1 1 = nF k) (hk12 : k ≤ 12) (hs : (-2147483648 ≤ s ∧ s < 2147483648) ∧ ¬ (0 ≤ s ∧ s < k)) : Tx d k_X9_output S fz [.ref (1), .int (iI (s)), .int (iI (a1))] m p 0 (fun m' p' => m = m' ∧ p = p') := by
  obtain ⟨d, rfl⟩ : ∃ e, d = e + 1 := ⟨d - 1, by omega⟩
  refine tx_go (lv := [some (.ref (1)), some (.int (iI (s))), some (.int (iI (a1))), none]) (Nat.le_of_ble_eq_true rfl) (okar_cons rfl (okar_cons rfl (okar_cons rfl okar_nil))) (by decide) (by omega) rfl (fun Qr hQ => ?_)
  refine rw_blk lk_X9_output_0 ?_
  refine rw_of (fun rr hrr => q_aload_n rfl (q_iload_n rfl hrr)) ?_
  obtain ⟨mm1, pp2, hV3, rfl, rfl⟩ := t_X9_plantOf (S := S) (fz := fz) (m := m) (p := p) (d := d) (by omega) (s) (k) hP hk (by omega) (by omega)
  refine rw_end (q_invVx hV3 (by decide) (show SH 1 = (17, 0) from rfl) rfl rfl (okar_cons rfl okar_nil) (Nat.le_of_ble_eq_true rfl)) ?_
  rw [hQ]
  refine ⟨_, _, rfl, ?_⟩
  exact ⟨rfl, rfl⟩
theorem t_X9_outputAnew {d : Nat} {S : Env} {fz : Bool} {m : M1} {p : M2} (hd : 7 ≤ d) (s a1 : Int) (k : Nat) (hP : PI p) (hk : m 1 1 = nF k) (hk12 : k ≤ 12) (hs : (-2147483648 ≤ s ∧ s < 2147483648) ∧ ¬ (0 ≤ s ∧ s < k)) : Tx d k_X9_outputAnew S fz [.ref (1), .int (iI (s)), .int (iI (a1))] m p 0 (fun m' p' => m = m' ∧ p = p') := by
  obtain ⟨d, rfl⟩ : ∃ e, d = e + 1 := ⟨d - 1, by omega⟩
  refine tx_go (lv := [some (.ref (1)), some (.int (iI (s))), some (.int (iI (a1))), none]) (Nat.le_of_ble_eq_true rfl) (okar_cons rfl (okar_cons rfl (okar_cons rfl okar_nil))) (by decide) (by omega) rfl (fun Qr hQ => ?_)
  refine rw_blk lk_X9_outputAnew_0 ?_
  refine rw_of (fun rr hrr => q_aload_n rfl (q_iload_n rfl hrr)) ?_
  obtain ⟨mm1, pp2, hV3, rfl, rfl⟩ := t_X9_plantOf (S := S) (fz := fz) (m := m) (p := p) (d := d) (by omega) (s) (k) hP hk (by omega) (by omega)
  refine rw_end (q_invVx hV3 (by decide) (show SH 1 = (17, 0) from rfl) rfl rfl (okar_cons rfl okar_nil) (Nat.le_of_ble_eq_true rfl)) ?_
  rw [hQ]
  refine ⟨_, _, rfl, ?_⟩
  exact ⟨rfl, rfl⟩
theorem t_X9_gain {d : Nat} {S : Env} {fz : Bool} {m : M1} {p : M2} (hd : 8 ≤ d) (s a1 : Int) (k : Nat) (hP : PI p) (hk : m 1 1 = nF k) (hk12 : k ≤ 12) (hs : (-2147483648 ≤ s ∧ s < 2147483648) ∧ ¬ (0 ≤ s ∧ s < k)) : Tx d k_X9_gain S fz [.ref (1), .int (iI (s)), .int (iI (a1))] m p 0 (fun m' p' => m = m' ∧ p = p') := by
  obtain ⟨d, rfl⟩ : ∃ e, d = e + 1 := ⟨d - 1, by omega⟩
  refine tx_go (lv := [some (.ref (1)), some (.int (iI (s))), some (.int (iI (a1))), none]) (Nat.le_of_ble_eq_true rfl) (okar_cons rfl (okar_cons rfl (okar_cons rfl okar_nil))) (by decide) (by omega) rfl (fun Qr hQ => ?_)
  refine rw_blk lk_X9_gain_0 ?_
  refine rw_of (fun rr hrr => q_aload_n rfl (q_iload_n rfl hrr)) ?_
  obtain ⟨mm1, pp2, hV3, rfl, rfl⟩ := t_X9_plantOf (S := S) (fz := fz) (m := m) (p := p) (d := d) (by omega) (s) (k) hP hk (by omega) (by omega)
  refine rw_end (q_invVx hV3 (by decide) (show SH 1 = (17, 0) from rfl) rfl rfl (okar_cons rfl okar_nil) (Nat.le_of_ble_eq_true rfl)) ?_
  rw [hQ]
  refine ⟨_, _, rfl, ?_⟩
  exact ⟨rfl, rfl⟩
theorem t_X9_gainAnew {d : Nat} {S : Env} {fz : Bool} {m : M1} {p : M2} (hd : 7 ≤ d) (s a1 : Int) (k : Nat) (hP : PI p) (hk : m 1 1 = nF k) (hk12 : k ≤ 12) (hs : (-2147483648 ≤ s ∧ s < 2147483648) ∧ ¬ (0 ≤ s ∧ s < k)) : Tx d k_X9_gainAnew S fz [.ref (1), .int (iI (s)), .int (iI (a1))] m p 0 (fun m' p' => m = m' ∧ p = p') := by
  obtain ⟨d, rfl⟩ : ∃ e, d = e + 1 := ⟨d - 1, by omega⟩
  refine tx_go (lv := [some (.ref (1)), some (.int (iI (s))), some (.int (iI (a1))), none]) (Nat.le_of_ble_eq_true rfl) (okar_cons rfl (okar_cons rfl (okar_cons rfl okar_nil))) (by decide) (by omega) rfl (fun Qr hQ => ?_)
  refine rw_blk lk_X9_gainAnew_0 ?_
  refine rw_of (fun rr hrr => q_aload_n rfl (q_iload_n rfl hrr)) ?_
  obtain ⟨mm1, pp2, hV3, rfl, rfl⟩ := t_X9_plantOf (S := S) (fz := fz) (m := m) (p := p) (d := d) (by omega) (s) (k) hP hk (by omega) (by omega)
  refine rw_end (q_invVx hV3 (by decide) (show SH 1 = (17, 0) from rfl) rfl rfl (okar_cons rfl okar_nil) (Nat.le_of_ble_eq_true rfl)) ?_
  rw [hQ]
  refine ⟨_, _, rfl, ?_⟩
  exact ⟨rfl, rfl⟩
theorem t_X9_observer {d : Nat} {S : Env} {fz : Bool} {m : M1} {p : M2} (hd : 8 ≤ d) (s a1 : Int) (k : Nat) (hP : PI p) (hk : m 1 1 = nF k) (hk12 : k ≤ 12) (hs : (-2147483648 ≤ s ∧ s < 2147483648) ∧ ¬ (0 ≤ s ∧ s < k)) : Tx d k_X9_observer S fz [.ref (1), .int (iI (s)), .int (iI (a1))] m p 0 (fun m' p' => m = m' ∧ p = p') := by
  obtain ⟨d, rfl⟩ : ∃ e, d = e + 1 := ⟨d - 1, by omega⟩
  refine tx_go (lv := [some (.ref (1)), some (.int (iI (s))), some (.int (iI (a1))), none]) (Nat.le_of_ble_eq_true rfl) (okar_cons rfl (okar_cons rfl (okar_cons rfl okar_nil))) (by decide) (by omega) rfl (fun Qr hQ => ?_)
  refine rw_blk lk_X9_observer_0 ?_
  refine rw_of (fun rr hrr => q_aload_n rfl (q_iload_n rfl hrr)) ?_
  obtain ⟨mm1, pp2, hV3, rfl, rfl⟩ := t_X9_plantOf (S := S) (fz := fz) (m := m) (p := p) (d := d) (by omega) (s) (k) hP hk (by omega) (by omega)
  refine rw_end (q_invVx hV3 (by decide) (show SH 1 = (17, 0) from rfl) rfl rfl (okar_cons rfl okar_nil) (Nat.le_of_ble_eq_true rfl)) ?_
  rw [hQ]
  refine ⟨_, _, rfl, ?_⟩
  exact ⟨rfl, rfl⟩
theorem t_X9_cost {d : Nat} {S : Env} {fz : Bool} {m : M1} {p : M2} (hd : 8 ≤ d) (s a1 a2 a3 : Int) (k : Nat) (hP : PI p) (hk : m 1 1 = nF k) (hk12 : k ≤ 12) (hs : (-2147483648 ≤ s ∧ s < 2147483648) ∧ ¬ (0 ≤ s ∧ s < k)) : Tx d k_X9_cost S fz [.ref (1), .int (iI (s)), .int (iI (a1)), .int (iI (a2)), .int (iI (a3))] m p 0 (fun m' p' => m = m' ∧ p = p') := by
  obtain ⟨d, rfl⟩ : ∃ e, d = e + 1 := ⟨d - 1, by omega⟩
  refine tx_go (lv := [some (.ref (1)), some (.int (iI (s))), some (.int (iI (a1))), some (.int (iI (a2))), some (.int (iI (a3))), none]) (Nat.le_of_ble_eq_true rfl) (okar_cons rfl (okar_cons rfl (okar_cons rfl (okar_cons rfl (okar_cons rfl okar_nil))))) (by decide) (by omega) rfl (fun Qr hQ => ?_)
  refine rw_blk lk_X9_cost_0 ?_
  refine rw_of (fun rr hrr => q_aload_n rfl (q_iload_n rfl hrr)) ?_
  obtain ⟨mm1, pp2, hV3, rfl, rfl⟩ := t_X9_plantOf (S := S) (fz := fz) (m := m) (p := p) (d := d) (by omega) (s) (k) hP hk (by omega) (by omega)
  refine rw_end (q_invVx hV3 (by decide) (show SH 1 = (17, 0) from rfl) rfl rfl (okar_cons rfl okar_nil) (Nat.le_of_ble_eq_true rfl)) ?_
  rw [hQ]
  refine ⟨_, _, rfl, ?_⟩
  exact ⟨rfl, rfl⟩
theorem t_X9_costAnew {d : Nat} {S : Env} {fz : Bool} {m : M1} {p : M2} (hd : 8 ≤ d) (s a1 a2 a3 : Int) (k : Nat) (hP : PI p) (hk : m 1 1 = nF k) (hk12 : k ≤ 12) (hs : (-2147483648 ≤ s ∧ s < 2147483648) ∧ ¬ (0 ≤ s ∧ s < k)) : Tx d k_X9_costAnew S fz [.ref (1), .int (iI (s)), .int (iI (a1)), .int (iI (a2)), .int (iI (a3))] m p 0 (fun m' p' => m = m' ∧ p = p') := by
  obtain ⟨d, rfl⟩ : ∃ e, d = e + 1 := ⟨d - 1, by omega⟩
  refine tx_go (lv := [some (.ref (1)), some (.int (iI (s))), some (.int (iI (a1))), some (.int (iI (a2))), some (.int (iI (a3))), none]) (Nat.le_of_ble_eq_true rfl) (okar_cons rfl (okar_cons rfl (okar_cons rfl (okar_cons rfl (okar_cons rfl okar_nil))))) (by decide) (by omega) rfl (fun Qr hQ => ?_)
  refine rw_blk lk_X9_costAnew_0 ?_
  refine rw_of (fun rr hrr => q_aload_n rfl (q_iload_n rfl hrr)) ?_
  obtain ⟨mm1, pp2, hV3, rfl, rfl⟩ := t_X9_plantOf (S := S) (fz := fz) (m := m) (p := p) (d := d) (by omega) (s) (k) hP hk (by omega) (by omega)
  refine rw_end (q_invVx hV3 (by decide) (show SH 1 = (17, 0) from rfl) rfl rfl (okar_cons rfl okar_nil) (Nat.le_of_ble_eq_true rfl)) ?_
  rw [hQ]
  refine ⟨_, _, rfl, ?_⟩
  exact ⟨rfl, rfl⟩
theorem t_X9_least {d : Nat} {S : Env} {fz : Bool} {m : M1} {p : M2} (hd : 7 ≤ d) (s : Int) (k : Nat) (hP : PI p) (hk : m 1 1 = nF k) (hk12 : k ≤ 12) (hs : (-2147483648 ≤ s ∧ s < 2147483648) ∧ ¬ (0 ≤ s ∧ s < k)) : Tx d k_X9_least S fz [.ref (1), .int (iI (s))] m p 0 (fun m' p' => m = m' ∧ p = p') := by
  obtain ⟨d, rfl⟩ : ∃ e, d = e + 1 := ⟨d - 1, by omega⟩
  refine tx_go (lv := [some (.ref (1)), some (.int (iI (s))), none]) (Nat.le_of_ble_eq_true rfl) (okar_cons rfl (okar_cons rfl okar_nil)) (by decide) (by omega) rfl (fun Qr hQ => ?_)
  refine rw_blk lk_X9_least_0 ?_
  refine rw_of (fun rr hrr => q_aload_n rfl (q_iload_n rfl hrr)) ?_
  obtain ⟨mm1, pp2, hV3, rfl, rfl⟩ := t_X9_plantOf (S := S) (fz := fz) (m := m) (p := p) (d := d) (by omega) (s) (k) hP hk (by omega) (by omega)
  refine rw_end (q_invVx hV3 (by decide) (show SH 1 = (17, 0) from rfl) rfl rfl (okar_cons rfl okar_nil) (Nat.le_of_ble_eq_true rfl)) ?_
  rw [hQ]
  refine ⟨_, _, rfl, ?_⟩
  exact ⟨rfl, rfl⟩
theorem t_X9_leastAnew {d : Nat} {S : Env} {fz : Bool} {m : M1} {p : M2} (hd : 7 ≤ d) (s : Int) (k : Nat) (hP : PI p) (hk : m 1 1 = nF k) (hk12 : k ≤ 12) (hs : (-2147483648 ≤ s ∧ s < 2147483648) ∧ ¬ (0 ≤ s ∧ s < k)) : Tx d k_X9_leastAnew S fz [.ref (1), .int (iI (s))] m p 0 (fun m' p' => m = m' ∧ p = p') := by
  obtain ⟨d, rfl⟩ : ∃ e, d = e + 1 := ⟨d - 1, by omega⟩
  refine tx_go (lv := [some (.ref (1)), some (.int (iI (s)))]) (Nat.le_of_ble_eq_true rfl) (okar_cons rfl (okar_cons rfl okar_nil)) (by decide) (by omega) rfl (fun Qr hQ => ?_)
  refine rw_blk lk_X9_leastAnew_0 ?_
  refine rw_of (fun rr hrr => q_aload_n rfl (q_getR (show SH 1 = (17, 0) from rfl) rfl (pt_1_9 hP) (q_aload_n rfl (q_iload_n rfl hrr)))) ?_
  obtain ⟨mm1, pp2, hV3, rfl, rfl⟩ := t_X9_plantOf (S := S) (fz := fz) (m := m) (p := p) (d := d) (by omega) (s) (k) hP hk (by omega) (by omega)
  refine rw_end (q_invVx hV3 (by decide) (show SH 1 = (17, 0) from rfl) rfl rfl (okar_cons rfl okar_nil) (Nat.le_of_ble_eq_true rfl)) ?_
  rw [hQ]
  refine ⟨_, _, rfl, ?_⟩
  exact ⟨rfl, rfl⟩
theorem c_X9_order {d : Nat} {S : Env} {fz : Bool} {m : M1} {p : M2} (hd : 7 ≤ d) (s k n : Nat) (hP : PI p) (hk : m 1 1 = nF k) (hk12 : k ≤ 12) (hsk : s < k) (hm : m (117 + 12 * s) 0 = nF n) (hn0 : 1 ≤ n) (hn : n ≤ 8) : Ct d k_X9_order S fz [.ref (1), .int (iI (((s : Nat) : Int)))] m p (fun v m' p' => v = some (.int (iI (((n : Nat) : Int)))) ∧ m = m' ∧ p = p') := by
  obtain ⟨d, rfl⟩ : ∃ e, d = e + 1 := ⟨d - 1, by omega⟩
  refine ct_go (lv := [some (.ref (1)), some (.int (iI (((s : Nat) : Int))))]) (Nat.le_of_ble_eq_true rfl) (okar_cons rfl (okar_cons rfl okar_nil)) rfl (fun Qr hQ => ?_)
  refine rw_blk lk_X9_order_0 ?_
  refine rw_of (fun rr hrr => q_aload_n rfl (q_iload_n rfl hrr)) ?_
  obtain ⟨_, mm1, pp2, hV3, rfl, rfl, rfl⟩ := c_X9_plantOf (S := S) (fz := fz) (m := m) (p := p) (d := d) (by omega) (s) (k) hP hk (by omega) (by omega)
  refine rw_of (fun rr hrr => q_invV hV3 (show SH 1 = (17, 0) from rfl) rfl rfl (okar_cons rfl okar_nil) (Nat.le_of_ble_eq_true rfl) (q_getI (PI_pl hP (Or.inr ⟨s, by omega, rfl⟩)).1 rfl (ki rfl hm (by omega)) hrr)) ?_
  exact rw_ret hQ (q_ireturn (Or.inl rfl)) (by exact ⟨rfl, rfl, rfl⟩)
theorem c_X9_rank0 {d : Nat} {S : Env} {fz : Bool} {m : M1} {p : M2} (hd : 7 ≤ d) (s k n : Nat) (hP : PI p) (hk : m 1 1 = nF k) (hk12 : k ≤ 12) (hsk : s < k) (hm : m (117 + 12 * s) 0 = nF n) (hn0 : 1 ≤ n) (hn : n ≤ 8) : Ct d k_X9_rank S fz [.ref (1), .int (iI (((s : Nat) : Int))), .int (iI (0))] m p (fun v m' p' => v = some (.int (iI ((rk n (kr n (fun z => m (117 + 12 * s + 2 + z)) (m (117 + 12 * s + 10))) : Nat) : Int))) ∧ PI p' ∧ Fr (fun a_ => 7 ≤ a_ ∧ a_ < 117) m m') := by
  obtain ⟨d, rfl⟩ : ∃ e, d = e + 1 := ⟨d - 1, by omega⟩
  refine ct_go (lv := [some (.ref (1)), some (.int (iI (((s : Nat) : Int)))), some (.int (iI (0))), none]) (Nat.le_of_ble_eq_true rfl) (okar_cons rfl (okar_cons rfl (okar_cons rfl okar_nil))) rfl (fun Qr hQ => ?_)
  refine rw_blk lk_X9_rank_0 ?_
  refine rw_of (fun rr hrr => q_aload_n rfl (q_iload_n rfl hrr)) ?_
  obtain ⟨_, mm1, pp2, hV3, rfl, rfl, rfl⟩ := c_X9_plantOf (S := S) (fz := fz) (m := m) (p := p) (d := d) (by omega) (s) (k) hP hk (by omega) (by omega)
  refine rw_of (fun rr hrr => q_invV hV3 (show SH 1 = (17, 0) from rfl) rfl rfl (okar_cons rfl okar_nil) (Nat.le_of_ble_eq_true rfl) (q_astore_n (Nat.le_of_ble_eq_true rfl) rfl (q_iload_n rfl hrr))) ?_
  refine rw_if_ne ⟨by omega, by omega⟩ (t := 19) rfl (fun hc4 => ?_) (fun hc4 => ?_)
  · exfalso; omega
  · skip
    refine rw_of (fun rr hrr => q_aload_n rfl (q_getR (show SH 1 = (17, 0) from rfl) rfl (pt_1_5 hP) (q_aload_n rfl hrr))) ?_
    obtain ⟨_, mm5, pp6, hV7, RR7, rfl, hP7, hE7, hk7, hF7, hs7⟩ := c_X3_rankOfColumns (S := S) (fz := fz) (m := m) (p := p) (d := d) (by omega) (n) (117 + 12 * s) hP (Or.inr ⟨s, by omega, rfl⟩) (by omega) (by omega) hm
    refine rw_of (fun rr hrr => q_invV hV7 (show SH 19 = (12, 0) from rfl) rfl rfl (okar_cons rfl okar_nil) (Nat.le_of_ble_eq_true rfl) hrr) ?_
    exact rw_ret hQ (q_ireturn (Or.inl rfl)) (by exact ⟨rfl, hP7, Fr_mono hF7 (fun a ha => by omega)⟩)
theorem c_X9_rank1 {d : Nat} {S : Env} {fz : Bool} {m : M1} {p : M2} (hd : 7 ≤ d) (s k n : Nat) (x : Int) (hP : PI p) (hk : m 1 1 = nF k) (hk12 : k ≤ 12) (hsk : s < k) (hm : m (117 + 12 * s) 0 = nF n) (hn0 : 1 ≤ n) (hn : n ≤ 8) (hx : (-2147483648 ≤ x ∧ x < 2147483648) ∧ x ≠ 0) : Ct d k_X9_rank S fz [.ref (1), .int (iI (((s : Nat) : Int))), .int (iI (x))] m p (fun v m' p' => v = some (.int (iI ((rk n (kr n (fun z c => m (117 + 12 * s + 2 + c) z) (m (117 + 12 * s + 11))) : Nat) : Int))) ∧ PI p' ∧ Fr (fun a_ => 7 ≤ a_ ∧ a_ < 117) m m') := by
  obtain ⟨d, rfl⟩ : ∃ e, d = e + 1 := ⟨d - 1, by omega⟩
  refine ct_go (lv := [some (.ref (1)), some (.int (iI (((s : Nat) : Int)))), some (.int (iI (x))), none]) (Nat.le_of_ble_eq_true rfl) (okar_cons rfl (okar_cons rfl (okar_cons rfl okar_nil))) rfl (fun Qr hQ => ?_)
  refine rw_blk lk_X9_rank_0 ?_
  refine rw_of (fun rr hrr => q_aload_n rfl (q_iload_n rfl hrr)) ?_
  obtain ⟨_, mm1, pp2, hV3, rfl, rfl, rfl⟩ := c_X9_plantOf (S := S) (fz := fz) (m := m) (p := p) (d := d) (by omega) (s) (k) hP hk (by omega) (by omega)
  refine rw_of (fun rr hrr => q_invV hV3 (show SH 1 = (17, 0) from rfl) rfl rfl (okar_cons rfl okar_nil) (Nat.le_of_ble_eq_true rfl) (q_astore_n (Nat.le_of_ble_eq_true rfl) rfl (q_iload_n rfl hrr))) ?_
  refine rw_if_ne ⟨by omega, by omega⟩ (t := 19) rfl (fun hc4 => ?_) (fun hc4 => ?_)
  · skip
    refine rw_blk lk_X9_rank_19 ?_
    refine rw_of (fun rr hrr => q_aload_n rfl (q_getR (show SH 1 = (17, 0) from rfl) rfl (pt_1_4 hP) (q_aload_n rfl hrr))) ?_
    obtain ⟨_, mm5, pp6, hV7, rfl, rfl, hF7, hv7, hb7, hn7⟩ := c_X4_beTurned (S := S) (fz := fz) (m := m) (p := p) (d := d) (by omega) (117 + 12 * s) (n) hP (Or.inr ⟨s, by omega, rfl⟩) (by omega) hm (by omega)
    refine rw_of (fun rr hrr => q_invV hV7 (PI_pl hP (Or.inl rfl)).1 rfl rfl (okar_cons rfl okar_nil) (Nat.le_of_ble_eq_true rfl) hrr) ?_
    have ek : ∀ k, ∀ i, i < n → kr n (fun z => mm5 (7 + 2 + z)) (mm5 (7 + 10)) k i = kr n (fun z c => m (117 + 12 * s + 2 + c) z) (m (117 + 12 * s + 11)) k i := kr_congr (fun i hi j hj => hv7 i hi j hj) (fun i hi => hb7 i hi)
    have er : rk n (kr n (fun z => mm5 (7 + 2 + z)) (mm5 (7 + 10))) = rk n (kr n (fun z c => m (117 + 12 * s + 2 + c) z) (m (117 + 12 * s + 11))) := rk_congr (fun i hi c hc => ek i c hc)
    refine rw_of (fun rr hrr => q_aload_n rfl (q_getR (show SH 1 = (17, 0) from rfl) rfl (pt_1_5 hP) (q_aload_n rfl (q_getR (show SH 1 = (17, 0) from rfl) rfl (pt_1_4 hP) hrr)))) ?_
    obtain ⟨_, mm8, pp9, hV10, RR10, rfl, hP10, hE10, hk10, hF10, hs10⟩ := c_X3_rankOfColumns (S := S) (fz := fz) (m := mm5) (p := p) (d := d) (by omega) (n) (7) hP (Or.inl rfl) (by omega) (by omega) hn7
    refine rw_of (fun rr hrr => q_invV hV10 (show SH 19 = (12, 0) from rfl) rfl rfl (okar_cons rfl okar_nil) (Nat.le_of_ble_eq_true rfl) hrr) ?_
    exact rw_ret hQ (q_ireturn (Or.inl rfl)) (by exact ⟨by rw [er], hP10, Fr_trans (Fr_mono hF7 (fun a ha => by omega)) (Fr_mono hF10 (fun a ha => by omega))⟩)
  · exfalso; omega
theorem c_X9_number {d : Nat} {S : Env} {fz : Bool} {m : M1} {p : M2} (hd : 7 ≤ d) (s k n l : Nat) (hP : PI p) (hk : m 1 1 = nF k) (hk12 : k ≤ 12) (hsk : s < k) (hm : m (117 + 12 * s) 0 = nF n) (hn0 : 1 ≤ n) (hn : n ≤ 8) (hl : l ≤ 40) : Ct d k_X9_number S fz [.ref (1), .int (iI (((s : Nat) : Int))), .int (iI (((l : Nat) : Int)))] m p (fun v m' p' => v = some (.int (iI (vF ((hs n (fun z => m (117 + 12 * s + 2 + z)) (m (117 + 12 * s + 10)) (m (117 + 12 * s + 11)) (m (117 + 12 * s) 4)) l)))) ∧ p = p' ∧ Fr (fun a_ => 7 ≤ a_ ∧ a_ < 117) m m') := by
  obtain ⟨d, rfl⟩ : ∃ e, d = e + 1 := ⟨d - 1, by omega⟩
  refine ct_go (lv := [some (.ref (1)), some (.int (iI (((s : Nat) : Int)))), some (.int (iI (((l : Nat) : Int)))), none]) (Nat.le_of_ble_eq_true rfl) (okar_cons rfl (okar_cons rfl (okar_cons rfl okar_nil))) rfl (fun Qr hQ => ?_)
  refine rw_blk lk_X9_number_0 ?_
  refine rw_of (fun rr hrr => q_aload_n rfl (q_iload_n rfl hrr)) ?_
  obtain ⟨_, mm1, pp2, hV3, rfl, rfl, rfl⟩ := c_X9_plantOf (S := S) (fz := fz) (m := m) (p := p) (d := d) (by omega) (s) (k) hP hk (by omega) (by omega)
  refine rw_of (fun rr hrr => q_invV hV3 (show SH 1 = (17, 0) from rfl) rfl rfl (okar_cons rfl okar_nil) (Nat.le_of_ble_eq_true rfl) (q_astore_n (Nat.le_of_ble_eq_true rfl) rfl (q_iload_n rfl (q_bipush rfl hrr)))) ?_
  obtain ⟨_, mm4, pp5, hV6, rfl, rfl, rfl⟩ := c_X9_requireRange (S := S) (fz := fz) (m := m) (p := p) (d := d) (by omega) (((l : Nat) : Int)) (40) (by omega) (by omega)
  refine rw_of (fun rr hrr => q_invS hV6 rfl rfl (okar_cons rfl (okar_cons rfl okar_nil)) (Nat.le_of_ble_eq_true rfl) (q_aload_n rfl (q_getR (show SH 1 = (17, 0) from rfl) rfl (pt_1_9 hP) (q_aload_n rfl (q_iload_n rfl hrr))))) ?_
  obtain ⟨_, mm7, pp8, hV9, rfl, rfl, hF9, hv9⟩ := c_X0_findNumbers (S := S) (fz := fz) (m := m) (p := p) (d := d) (by omega) (n) (117 + 12 * s) (l) hP (Or.inr ⟨s, by omega, rfl⟩) (by omega) (by omega) hm (by omega)
  refine rw_of (fun rr hrr => q_invV hV9 (show SH 59 = (10, 0) from rfl) rfl rfl (okar_cons rfl (okar_cons rfl okar_nil)) (Nat.le_of_ble_eq_true rfl) (q_aload_n rfl (q_getR (show SH 1 = (17, 0) from rfl) rfl (pt_1_9 hP) (q_getR (show SH 59 = (10, 0) from rfl) rfl (pt_59_0 hP) (q_iload_n rfl (q_iald (j := l) (show SH 60 = (1, 41) from rfl) rfl (by omega) rfl hrr)))))) ?_
  exact rw_ret hQ (q_ireturn (Or.inl rfl)) (by exact ⟨lvI (congrArg vF (hv9 l (Nat.le_refl l))), rfl, Fr_mono hF9 (fun a ha => by omega)⟩)
theorem c_X9_output {d : Nat} {S : Env} {fz : Bool} {m : M1} {p : M2} (hd : 7 ≤ d) (s k n l ci : Nat) (hP : PI p) (hk : m 1 1 = nF k) (hk12 : k ≤ 12) (hsk : s < k) (hm : m (117 + 12 * s) 0 = nF n) (hn0 : 1 ≤ n) (hn : n ≤ 8) (hci : m 5 1 = nF ci) (hcil : ci ≤ 20) (hl : l ≤ 40) : Ct d k_X9_output S fz [.ref (1), .int (iI (((s : Nat) : Int))), .int (iI (((l : Nat) : Int)))] m p (fun v m' p' => v = some (.int (iI (vF (dot n (m (117 + 12 * s + 11)) ((xs n (fun z => m (117 + 12 * s + 2 + z)) (m (117 + 12 * s + 10)) (uu (m 6) ci)) l) + m (117 + 12 * s) 4 * (uu (m 6) ci) l)))) ∧ p = p' ∧ Fr (fun a_ => 7 ≤ a_ ∧ a_ < 117) m m') := by
  obtain ⟨d, rfl⟩ : ∃ e, d = e + 1 := ⟨d - 1, by omega⟩
  refine ct_go (lv := [some (.ref (1)), some (.int (iI (((s : Nat) : Int)))), some (.int (iI (((l : Nat) : Int)))), none]) (Nat.le_of_ble_eq_true rfl) (okar_cons rfl (okar_cons rfl (okar_cons rfl okar_nil))) rfl (fun Qr hQ => ?_)
  refine rw_blk lk_X9_output_0 ?_
  refine rw_of (fun rr hrr => q_aload_n rfl (q_iload_n rfl hrr)) ?_
  obtain ⟨_, mm1, pp2, hV3, rfl, rfl, rfl⟩ := c_X9_plantOf (S := S) (fz := fz) (m := m) (p := p) (d := d) (by omega) (s) (k) hP hk (by omega) (by omega)
  refine rw_of (fun rr hrr => q_invV hV3 (show SH 1 = (17, 0) from rfl) rfl rfl (okar_cons rfl okar_nil) (Nat.le_of_ble_eq_true rfl) (q_astore_n (Nat.le_of_ble_eq_true rfl) rfl (q_iload_n rfl (q_bipush rfl hrr)))) ?_
  obtain ⟨_, mm4, pp5, hV6, rfl, rfl, rfl⟩ := c_X9_requireRange (S := S) (fz := fz) (m := m) (p := p) (d := d) (by omega) (((l : Nat) : Int)) (40) (by omega) (by omega)
  refine rw_of (fun rr hrr => q_invS hV6 rfl rfl (okar_cons rfl (okar_cons rfl okar_nil)) (Nat.le_of_ble_eq_true rfl) (q_aload_n rfl (q_getR (show SH 1 = (17, 0) from rfl) rfl (pt_1_9 hP) (q_aload_n rfl (q_aload_n rfl (q_getR (show SH 1 = (17, 0) from rfl) rfl (pt_1_3 hP) (q_iload_n rfl hrr))))))) ?_
  obtain ⟨_, mm7, pp8, hV9, rfl, rfl, hF9⟩ := c_X0_byState (S := S) (fz := fz) (m := m) (p := p) (d := d) (by omega) (n) (117 + 12 * s) (l) (ci) hP (Or.inr ⟨s, by omega, rfl⟩) (by omega) (by omega) hm hci (by omega) (by omega)
  refine rw_of (fun rr hrr => q_invV hV9 (show SH 59 = (10, 0) from rfl) rfl rfl (okar_cons rfl (okar_cons rfl (okar_cons rfl okar_nil))) (Nat.le_of_ble_eq_true rfl) hrr) ?_
  exact rw_ret hQ (q_ireturn (Or.inl rfl)) (by exact ⟨rfl, rfl, Fr_mono hF9 (fun a ha => by omega)⟩)
theorem c_X9_outputAnew {d : Nat} {S : Env} {fz : Bool} {m : M1} {p : M2} (hd : 7 ≤ d) (s k n l ci : Nat) (hP : PI p) (hk : m 1 1 = nF k) (hk12 : k ≤ 12) (hsk : s < k) (hm : m (117 + 12 * s) 0 = nF n) (hn0 : 1 ≤ n) (hn : n ≤ 8) (hci : m 5 1 = nF ci) (hcil : ci ≤ 20) (hl : l ≤ 40) : Ct d k_X9_outputAnew S fz [.ref (1), .int (iI (((s : Nat) : Int))), .int (iI (((l : Nat) : Int)))] m p (fun v m' p' => v = some (.int (iI (vF (sm (l + 1) (fun i => (hs n (fun z => m (117 + 12 * s + 2 + z)) (m (117 + 12 * s + 10)) (m (117 + 12 * s + 11)) (m (117 + 12 * s) 4)) (l - i) * (uu (m 6) ci) i))))) ∧ p = p' ∧ Fr (fun a_ => 7 ≤ a_ ∧ a_ < 117) m m') := by
  obtain ⟨d, rfl⟩ : ∃ e, d = e + 1 := ⟨d - 1, by omega⟩
  refine ct_go (lv := [some (.ref (1)), some (.int (iI (((s : Nat) : Int)))), some (.int (iI (((l : Nat) : Int)))), none]) (Nat.le_of_ble_eq_true rfl) (okar_cons rfl (okar_cons rfl (okar_cons rfl okar_nil))) rfl (fun Qr hQ => ?_)
  refine rw_blk lk_X9_outputAnew_0 ?_
  refine rw_of (fun rr hrr => q_aload_n rfl (q_iload_n rfl hrr)) ?_
  obtain ⟨_, mm1, pp2, hV3, rfl, rfl, rfl⟩ := c_X9_plantOf (S := S) (fz := fz) (m := m) (p := p) (d := d) (by omega) (s) (k) hP hk (by omega) (by omega)
  refine rw_of (fun rr hrr => q_invV hV3 (show SH 1 = (17, 0) from rfl) rfl rfl (okar_cons rfl okar_nil) (Nat.le_of_ble_eq_true rfl) (q_astore_n (Nat.le_of_ble_eq_true rfl) rfl (q_iload_n rfl (q_bipush rfl hrr)))) ?_
  obtain ⟨_, mm4, pp5, hV6, rfl, rfl, rfl⟩ := c_X9_requireRange (S := S) (fz := fz) (m := m) (p := p) (d := d) (by omega) (((l : Nat) : Int)) (40) (by omega) (by omega)
  refine rw_of (fun rr hrr => q_invS hV6 rfl rfl (okar_cons rfl (okar_cons rfl okar_nil)) (Nat.le_of_ble_eq_true rfl) (q_aload_n rfl (q_getR (show SH 1 = (17, 0) from rfl) rfl (pt_1_9 hP) (q_aload_n rfl (q_aload_n rfl (q_getR (show SH 1 = (17, 0) from rfl) rfl (pt_1_3 hP) (q_iload_n rfl hrr))))))) ?_
  obtain ⟨_, mm7, pp8, hV9, rfl, rfl, hF9⟩ := c_X0_byNumbers (S := S) (fz := fz) (m := m) (p := p) (d := d) (by omega) (n) (117 + 12 * s) (l) (ci) hP (Or.inr ⟨s, by omega, rfl⟩) (by omega) (by omega) hm hci (by omega) (by omega)
  refine rw_of (fun rr hrr => q_invV hV9 (show SH 59 = (10, 0) from rfl) rfl rfl (okar_cons rfl (okar_cons rfl (okar_cons rfl okar_nil))) (Nat.le_of_ble_eq_true rfl) hrr) ?_
  exact rw_ret hQ (q_ireturn (Or.inl rfl)) (by exact ⟨rfl, rfl, Fr_mono hF9 (fun a ha => by omega)⟩)
theorem t_X9_numberX {d : Nat} {S : Env} {fz : Bool} {m : M1} {p : M2} (hd : 7 ≤ d) (s k n : Nat) (x : Int) (hP : PI p) (hk : m 1 1 = nF k) (hk12 : k ≤ 12) (hsk : s < k) (hm : m (117 + 12 * s) 0 = nF n) (hn0 : 1 ≤ n) (hn : n ≤ 8) (hr : (-2147483648 ≤ x ∧ x < 2147483648)) (h : x < 0 ∨ 40 < x) : Tx d k_X9_number S fz [.ref (1), .int (iI (((s : Nat) : Int))), .int (iI (x))] m p 1 (fun m' p' => m = m' ∧ p = p') := by
  obtain ⟨d, rfl⟩ : ∃ e, d = e + 1 := ⟨d - 1, by omega⟩
  refine tx_go (lv := [some (.ref (1)), some (.int (iI (((s : Nat) : Int)))), some (.int (iI (x))), none]) (Nat.le_of_ble_eq_true rfl) (okar_cons rfl (okar_cons rfl (okar_cons rfl okar_nil))) (by decide) (by omega) rfl (fun Qr hQ => ?_)
  refine rw_blk lk_X9_number_0 ?_
  refine rw_of (fun rr hrr => q_aload_n rfl (q_iload_n rfl hrr)) ?_
  obtain ⟨_, mm1, pp2, hV3, rfl, rfl, rfl⟩ := c_X9_plantOf (S := S) (fz := fz) (m := m) (p := p) (d := d) (by omega) (s) (k) hP hk (by omega) (by omega)
  refine rw_of (fun rr hrr => q_invV hV3 (show SH 1 = (17, 0) from rfl) rfl rfl (okar_cons rfl okar_nil) (Nat.le_of_ble_eq_true rfl) (q_astore_n (Nat.le_of_ble_eq_true rfl) rfl (q_iload_n rfl (q_bipush rfl hrr)))) ?_
  obtain ⟨mm4, pp5, hV6, rfl, rfl⟩ := t_X9_requireRange (S := S) (fz := fz) (m := m) (p := p) (d := d) (by omega) (x) (40) (by omega) (by omega) (by omega)
  refine rw_end (q_invSx hV6 (by decide) rfl rfl (okar_cons rfl (okar_cons rfl okar_nil)) (Nat.le_of_ble_eq_true rfl)) ?_
  rw [hQ]
  refine ⟨_, _, rfl, ?_⟩
  exact ⟨rfl, rfl⟩
theorem t_X9_outputX {d : Nat} {S : Env} {fz : Bool} {m : M1} {p : M2} (hd : 7 ≤ d) (s k n : Nat) (x : Int) (hP : PI p) (hk : m 1 1 = nF k) (hk12 : k ≤ 12) (hsk : s < k) (hm : m (117 + 12 * s) 0 = nF n) (hn0 : 1 ≤ n) (hn : n ≤ 8) (hr : (-2147483648 ≤ x ∧ x < 2147483648)) (h : x < 0 ∨ 40 < x) : Tx d k_X9_output S fz [.ref (1), .int (iI (((s : Nat) : Int))), .int (iI (x))] m p 1 (fun m' p' => m = m' ∧ p = p') := by
  obtain ⟨d, rfl⟩ : ∃ e, d = e + 1 := ⟨d - 1, by omega⟩
  refine tx_go (lv := [some (.ref (1)), some (.int (iI (((s : Nat) : Int)))), some (.int (iI (x))), none]) (Nat.le_of_ble_eq_true rfl) (okar_cons rfl (okar_cons rfl (okar_cons rfl okar_nil))) (by decide) (by omega) rfl (fun Qr hQ => ?_)
  refine rw_blk lk_X9_output_0 ?_
  refine rw_of (fun rr hrr => q_aload_n rfl (q_iload_n rfl hrr)) ?_
  obtain ⟨_, mm1, pp2, hV3, rfl, rfl, rfl⟩ := c_X9_plantOf (S := S) (fz := fz) (m := m) (p := p) (d := d) (by omega) (s) (k) hP hk (by omega) (by omega)
  refine rw_of (fun rr hrr => q_invV hV3 (show SH 1 = (17, 0) from rfl) rfl rfl (okar_cons rfl okar_nil) (Nat.le_of_ble_eq_true rfl) (q_astore_n (Nat.le_of_ble_eq_true rfl) rfl (q_iload_n rfl (q_bipush rfl hrr)))) ?_
  obtain ⟨mm4, pp5, hV6, rfl, rfl⟩ := t_X9_requireRange (S := S) (fz := fz) (m := m) (p := p) (d := d) (by omega) (x) (40) (by omega) (by omega) (by omega)
  refine rw_end (q_invSx hV6 (by decide) rfl rfl (okar_cons rfl (okar_cons rfl okar_nil)) (Nat.le_of_ble_eq_true rfl)) ?_
  rw [hQ]
  refine ⟨_, _, rfl, ?_⟩
  exact ⟨rfl, rfl⟩
theorem t_X9_outputAnewX {d : Nat} {S : Env} {fz : Bool} {m : M1} {p : M2} (hd : 7 ≤ d) (s k n : Nat) (x : Int) (hP : PI p) (hk : m 1 1 = nF k) (hk12 : k ≤ 12) (hsk : s < k) (hm : m (117 + 12 * s) 0 = nF n) (hn0 : 1 ≤ n) (hn : n ≤ 8) (hr : (-2147483648 ≤ x ∧ x < 2147483648)) (h : x < 0 ∨ 40 < x) : Tx d k_X9_outputAnew S fz [.ref (1), .int (iI (((s : Nat) : Int))), .int (iI (x))] m p 1 (fun m' p' => m = m' ∧ p = p') := by
  obtain ⟨d, rfl⟩ : ∃ e, d = e + 1 := ⟨d - 1, by omega⟩
  refine tx_go (lv := [some (.ref (1)), some (.int (iI (((s : Nat) : Int)))), some (.int (iI (x))), none]) (Nat.le_of_ble_eq_true rfl) (okar_cons rfl (okar_cons rfl (okar_cons rfl okar_nil))) (by decide) (by omega) rfl (fun Qr hQ => ?_)
  refine rw_blk lk_X9_outputAnew_0 ?_
  refine rw_of (fun rr hrr => q_aload_n rfl (q_iload_n rfl hrr)) ?_
  obtain ⟨_, mm1, pp2, hV3, rfl, rfl, rfl⟩ := c_X9_plantOf (S := S) (fz := fz) (m := m) (p := p) (d := d) (by omega) (s) (k) hP hk (by omega) (by omega)
  refine rw_of (fun rr hrr => q_invV hV3 (show SH 1 = (17, 0) from rfl) rfl rfl (okar_cons rfl okar_nil) (Nat.le_of_ble_eq_true rfl) (q_astore_n (Nat.le_of_ble_eq_true rfl) rfl (q_iload_n rfl (q_bipush rfl hrr)))) ?_
  obtain ⟨mm4, pp5, hV6, rfl, rfl⟩ := t_X9_requireRange (S := S) (fz := fz) (m := m) (p := p) (d := d) (by omega) (x) (40) (by omega) (by omega) (by omega)
  refine rw_end (q_invSx hV6 (by decide) rfl rfl (okar_cons rfl (okar_cons rfl okar_nil)) (Nat.le_of_ble_eq_true rfl)) ?_
  rw [hQ]
  refine ⟨_, _, rfl, ?_⟩
  exact ⟨rfl, rfl⟩
theorem c_X9_gain {d : Nat} {S : Env} {fz : Bool} {m : M1} {p : M2} (hd : 8 ≤ d) (s k n g cp : Nat) (hP : PI p) (hk : m 1 1 = nF k) (hk12 : k ≤ 12) (hsk : s < k) (hm : m (117 + 12 * s) 0 = nF n) (hn0 : 1 ≤ n) (hn : n ≤ 8) (hcp : m 3 1 = nF cp) (hcpl : cp ≤ 16) (hg : g < n) (h : n ≤ cp) (hr : rk n (kr n (fun z => m (117 + 12 * s + 2 + z)) (m (117 + 12 * s + 10))) = n) : Ct d k_X9_gain S fz [.ref (1), .int (iI (((s : Nat) : Int))), .int (iI (((g : Nat) : Int)))] m p (fun v m' p' => ∃ x, v = some (.int (iI (vF (av n (fun z => m (117 + 12 * s + 2 + z)) (m 4) x n g)))) ∧ (∀ i, i < n → dot n ((kr n (fun z => m (117 + 12 * s + 2 + z)) (m (117 + 12 * s + 10))) i) x = if i + 1 = n then 1 else 0) ∧ PI p' ∧ Fr (fun a_ => 7 ≤ a_ ∧ a_ < 117) m m') := by
  obtain ⟨d, rfl⟩ : ∃ e, d = e + 1 := ⟨d - 1, by omega⟩
  refine ct_go (lv := [some (.ref (1)), some (.int (iI (((s : Nat) : Int)))), some (.int (iI (((g : Nat) : Int)))), none]) (Nat.le_of_ble_eq_true rfl) (okar_cons rfl (okar_cons rfl (okar_cons rfl okar_nil))) rfl (fun Qr hQ => ?_)
  refine rw_blk lk_X9_gain_0 ?_
  refine rw_of (fun rr hrr => q_aload_n rfl (q_iload_n rfl hrr)) ?_
  obtain ⟨_, mm1, pp2, hV3, rfl, rfl, rfl⟩ := c_X9_plantOf (S := S) (fz := fz) (m := m) (p := p) (d := d) (by omega) (s) (k) hP hk (by omega) (by omega)
  refine rw_of (fun rr hrr => q_invV hV3 (show SH 1 = (17, 0) from rfl) rfl rfl (okar_cons rfl okar_nil) (Nat.le_of_ble_eq_true rfl) (q_astore_n (Nat.le_of_ble_eq_true rfl) rfl (q_aload_n rfl (q_iload_n rfl hrr)))) ?_
  obtain ⟨_, mm4, pp5, hV6, rfl, rfl, rfl⟩ := c_X9_requirePlace (S := S) (fz := fz) (m := m) (p := p) (d := d) (by omega) (117 + 12 * s) (n) (((g : Nat) : Int)) hP (Or.inr ⟨s, by omega, rfl⟩) hm (by omega) (by omega)
  refine rw_of (fun rr hrr => q_invS hV6 rfl rfl (okar_cons rfl (okar_cons rfl okar_nil)) (Nat.le_of_ble_eq_true rfl) (q_aload_n rfl (q_aload_n rfl hrr))) ?_
  obtain ⟨_, mm7, pp8, hV9, x9, rfl, hP9, hF9, hx9, hv9⟩ := c_X9_findGains (S := S) (fz := fz) (m := m) (p := p) (d := d) (by omega) (117 + 12 * s) (n) (cp) hP (Or.inr ⟨s, by omega, rfl⟩) hm (by omega) (by omega) hcp (by omega) (by omega) (hr)
  refine rw_of (fun rr hrr => q_invV hV9 (show SH 1 = (17, 0) from rfl) rfl rfl (okar_cons rfl okar_nil) (Nat.le_of_ble_eq_true rfl) (q_aload_n rfl (q_getR (show SH 1 = (17, 0) from rfl) rfl (pt_1_6 hP9) (q_iload_n rfl (q_iald (j := g) (show SH 33 = (1, 8) from rfl) rfl (by omega) rfl hrr))))) ?_
  exact rw_ret hQ (q_ireturn (Or.inl rfl)) (by exact ⟨x9, lvI (congrArg vF (hv9 g hg)), hx9, hP9, Fr_mono hF9 (fun a ha => by omega)⟩)
theorem t_X9_gainP {d : Nat} {S : Env} {fz : Bool} {m : M1} {p : M2} (hd : 8 ≤ d) (s k n cp : Nat) (x : Int) (hP : PI p) (hk : m 1 1 = nF k) (hk12 : k ≤ 12) (hsk : s < k) (hm : m (117 + 12 * s) 0 = nF n) (hn0 : 1 ≤ n) (hn : n ≤ 8) (hcp : m 3 1 = nF cp) (hcpl : cp ≤ 16) (hrx : (-2147483648 ≤ x ∧ x < 2147483648)) (h : x < 0 ∨ n ≤ x) : Tx d k_X9_gain S fz [.ref (1), .int (iI (((s : Nat) : Int))), .int (iI (x))] m p 0 (fun m' p' => m = m' ∧ p = p') := by
  obtain ⟨d, rfl⟩ : ∃ e, d = e + 1 := ⟨d - 1, by omega⟩
  refine tx_go (lv := [some (.ref (1)), some (.int (iI (((s : Nat) : Int)))), some (.int (iI (x))), none]) (Nat.le_of_ble_eq_true rfl) (okar_cons rfl (okar_cons rfl (okar_cons rfl okar_nil))) (by decide) (by omega) rfl (fun Qr hQ => ?_)
  refine rw_blk lk_X9_gain_0 ?_
  refine rw_of (fun rr hrr => q_aload_n rfl (q_iload_n rfl hrr)) ?_
  obtain ⟨_, mm1, pp2, hV3, rfl, rfl, rfl⟩ := c_X9_plantOf (S := S) (fz := fz) (m := m) (p := p) (d := d) (by omega) (s) (k) hP hk (by omega) (by omega)
  refine rw_of (fun rr hrr => q_invV hV3 (show SH 1 = (17, 0) from rfl) rfl rfl (okar_cons rfl okar_nil) (Nat.le_of_ble_eq_true rfl) (q_astore_n (Nat.le_of_ble_eq_true rfl) rfl (q_aload_n rfl (q_iload_n rfl hrr)))) ?_
  obtain ⟨mm4, pp5, hV6, rfl, rfl⟩ := t_X9_requirePlace (S := S) (fz := fz) (m := m) (p := p) (d := d) (by omega) (117 + 12 * s) (n) (x) hP (Or.inr ⟨s, by omega, rfl⟩) hm (by omega) (by omega) (by omega)
  refine rw_end (q_invSx hV6 (by decide) rfl rfl (okar_cons rfl (okar_cons rfl okar_nil)) (Nat.le_of_ble_eq_true rfl)) ?_
  rw [hQ]
  refine ⟨_, _, rfl, ?_⟩
  exact ⟨rfl, rfl⟩
theorem t_X9_gainC {d : Nat} {S : Env} {fz : Bool} {m : M1} {p : M2} (hd : 8 ≤ d) (s k n g cp : Nat) (hP : PI p) (hk : m 1 1 = nF k) (hk12 : k ≤ 12) (hsk : s < k) (hm : m (117 + 12 * s) 0 = nF n) (hn0 : 1 ≤ n) (hn : n ≤ 8) (hcp : m 3 1 = nF cp) (hcpl : cp ≤ 16) (hg : g < n) (h : cp < n) : Tx d k_X9_gain S fz [.ref (1), .int (iI (((s : Nat) : Int))), .int (iI (((g : Nat) : Int)))] m p 2 (fun m' p' => m = m' ∧ p = p') := by
  obtain ⟨d, rfl⟩ : ∃ e, d = e + 1 := ⟨d - 1, by omega⟩
  refine tx_go (lv := [some (.ref (1)), some (.int (iI (((s : Nat) : Int)))), some (.int (iI (((g : Nat) : Int)))), none]) (Nat.le_of_ble_eq_true rfl) (okar_cons rfl (okar_cons rfl (okar_cons rfl okar_nil))) (by decide) (by omega) rfl (fun Qr hQ => ?_)
  refine rw_blk lk_X9_gain_0 ?_
  refine rw_of (fun rr hrr => q_aload_n rfl (q_iload_n rfl hrr)) ?_
  obtain ⟨_, mm1, pp2, hV3, rfl, rfl, rfl⟩ := c_X9_plantOf (S := S) (fz := fz) (m := m) (p := p) (d := d) (by omega) (s) (k) hP hk (by omega) (by omega)
  refine rw_of (fun rr hrr => q_invV hV3 (show SH 1 = (17, 0) from rfl) rfl rfl (okar_cons rfl okar_nil) (Nat.le_of_ble_eq_true rfl) (q_astore_n (Nat.le_of_ble_eq_true rfl) rfl (q_aload_n rfl (q_iload_n rfl hrr)))) ?_
  obtain ⟨_, mm4, pp5, hV6, rfl, rfl, rfl⟩ := c_X9_requirePlace (S := S) (fz := fz) (m := m) (p := p) (d := d) (by omega) (117 + 12 * s) (n) (((g : Nat) : Int)) hP (Or.inr ⟨s, by omega, rfl⟩) hm (by omega) (by omega)
  refine rw_of (fun rr hrr => q_invS hV6 rfl rfl (okar_cons rfl (okar_cons rfl okar_nil)) (Nat.le_of_ble_eq_true rfl) (q_aload_n rfl (q_aload_n rfl hrr))) ?_
  obtain ⟨mm7, pp8, hV9, rfl, rfl⟩ := t_X9_findGains (S := S) (fz := fz) (m := m) (p := p) (d := d) (by omega) (117 + 12 * s) (n) (cp) hP (Or.inr ⟨s, by omega, rfl⟩) hm (by omega) (by omega) hcp (by omega) (by omega)
  refine rw_end (q_invVx hV9 (by decide) (show SH 1 = (17, 0) from rfl) rfl rfl (okar_cons rfl okar_nil) (Nat.le_of_ble_eq_true rfl)) ?_
  rw [hQ]
  refine ⟨_, _, rfl, ?_⟩
  exact ⟨rfl, rfl⟩
theorem t_X9_gainR {d : Nat} {S : Env} {fz : Bool} {m : M1} {p : M2} (hd : 8 ≤ d) (s k n g cp : Nat) (hP : PI p) (hk : m 1 1 = nF k) (hk12 : k ≤ 12) (hsk : s < k) (hm : m (117 + 12 * s) 0 = nF n) (hn0 : 1 ≤ n) (hn : n ≤ 8) (hcp : m 3 1 = nF cp) (hcpl : cp ≤ 16) (hg : g < n) (h : n ≤ cp) (hr : rk n (kr n (fun z => m (117 + 12 * s + 2 + z)) (m (117 + 12 * s + 10))) ≠ n) : Tx d k_X9_gain S fz [.ref (1), .int (iI (((s : Nat) : Int))), .int (iI (((g : Nat) : Int)))] m p 2 (fun m' p' => PI p' ∧ Fr (fun a_ => 7 ≤ a_ ∧ a_ < 117) m m') := by
  obtain ⟨d, rfl⟩ : ∃ e, d = e + 1 := ⟨d - 1, by omega⟩
  refine tx_go (lv := [some (.ref (1)), some (.int (iI (((s : Nat) : Int)))), some (.int (iI (((g : Nat) : Int)))), none]) (Nat.le_of_ble_eq_true rfl) (okar_cons rfl (okar_cons rfl (okar_cons rfl okar_nil))) (by decide) (by omega) rfl (fun Qr hQ => ?_)
  refine rw_blk lk_X9_gain_0 ?_
  refine rw_of (fun rr hrr => q_aload_n rfl (q_iload_n rfl hrr)) ?_
  obtain ⟨_, mm1, pp2, hV3, rfl, rfl, rfl⟩ := c_X9_plantOf (S := S) (fz := fz) (m := m) (p := p) (d := d) (by omega) (s) (k) hP hk (by omega) (by omega)
  refine rw_of (fun rr hrr => q_invV hV3 (show SH 1 = (17, 0) from rfl) rfl rfl (okar_cons rfl okar_nil) (Nat.le_of_ble_eq_true rfl) (q_astore_n (Nat.le_of_ble_eq_true rfl) rfl (q_aload_n rfl (q_iload_n rfl hrr)))) ?_
  obtain ⟨_, mm4, pp5, hV6, rfl, rfl, rfl⟩ := c_X9_requirePlace (S := S) (fz := fz) (m := m) (p := p) (d := d) (by omega) (117 + 12 * s) (n) (((g : Nat) : Int)) hP (Or.inr ⟨s, by omega, rfl⟩) hm (by omega) (by omega)
  refine rw_of (fun rr hrr => q_invS hV6 rfl rfl (okar_cons rfl (okar_cons rfl okar_nil)) (Nat.le_of_ble_eq_true rfl) (q_aload_n rfl (q_aload_n rfl hrr))) ?_
  obtain ⟨mm7, pp8, hV9, hP9, hF9⟩ := t_X9_findGainsR (S := S) (fz := fz) (m := m) (p := p) (d := d) (by omega) (117 + 12 * s) (n) (cp) hP (Or.inr ⟨s, by omega, rfl⟩) hm (by omega) (by omega) hcp (by omega) (by omega) (hr)
  refine rw_end (q_invVx hV9 (by decide) (show SH 1 = (17, 0) from rfl) rfl rfl (okar_cons rfl okar_nil) (Nat.le_of_ble_eq_true rfl)) ?_
  rw [hQ]
  refine ⟨_, _, rfl, ?_⟩
  exact ⟨hP9, hF9⟩
theorem c_X9_observer {d : Nat} {S : Env} {fz : Bool} {m : M1} {p : M2} (hd : 8 ≤ d) (s k n g cp : Nat) (hP : PI p) (hk : m 1 1 = nF k) (hk12 : k ≤ 12) (hsk : s < k) (hm : m (117 + 12 * s) 0 = nF n) (hn0 : 1 ≤ n) (hn : n ≤ 8) (hcp : m 3 1 = nF cp) (hcpl : cp ≤ 16) (hg : g < n) (h : 2 * n ≤ cp) (hr : rk n (kr n (fun z c => m (117 + 12 * s + 2 + c) z) (m (117 + 12 * s + 11))) = n) : Ct d k_X9_observer S fz [.ref (1), .int (iI (((s : Nat) : Int))), .int (iI (((g : Nat) : Int)))] m p (fun v m' p' => ∃ x, v = some (.int (iI (vF (av n (fun z c => m (117 + 12 * s + 2 + c) z) (fun i => m 4 (n + i)) x n g)))) ∧ (∀ i, i < n → dot n ((kr n (fun z c => m (117 + 12 * s + 2 + c) z) (m (117 + 12 * s + 11))) i) x = if i + 1 = n then 1 else 0) ∧ PI p' ∧ Fr (fun a_ => 7 ≤ a_ ∧ a_ < 117) m m') := by
  obtain ⟨d, rfl⟩ : ∃ e, d = e + 1 := ⟨d - 1, by omega⟩
  refine ct_go (lv := [some (.ref (1)), some (.int (iI (((s : Nat) : Int)))), some (.int (iI (((g : Nat) : Int)))), none]) (Nat.le_of_ble_eq_true rfl) (okar_cons rfl (okar_cons rfl (okar_cons rfl okar_nil))) rfl (fun Qr hQ => ?_)
  refine rw_blk lk_X9_observer_0 ?_
  refine rw_of (fun rr hrr => q_aload_n rfl (q_iload_n rfl hrr)) ?_
  obtain ⟨_, mm1, pp2, hV3, rfl, rfl, rfl⟩ := c_X9_plantOf (S := S) (fz := fz) (m := m) (p := p) (d := d) (by omega) (s) (k) hP hk (by omega) (by omega)
  refine rw_of (fun rr hrr => q_invV hV3 (show SH 1 = (17, 0) from rfl) rfl rfl (okar_cons rfl okar_nil) (Nat.le_of_ble_eq_true rfl) (q_astore_n (Nat.le_of_ble_eq_true rfl) rfl (q_aload_n rfl (q_iload_n rfl hrr)))) ?_
  obtain ⟨_, mm4, pp5, hV6, rfl, rfl, rfl⟩ := c_X9_requirePlace (S := S) (fz := fz) (m := m) (p := p) (d := d) (by omega) (117 + 12 * s) (n) (((g : Nat) : Int)) hP (Or.inr ⟨s, by omega, rfl⟩) hm (by omega) (by omega)
  refine rw_of (fun rr hrr => q_invS hV6 rfl rfl (okar_cons rfl (okar_cons rfl okar_nil)) (Nat.le_of_ble_eq_true rfl) (q_aload_n rfl (q_aload_n rfl hrr))) ?_
  obtain ⟨_, mm7, pp8, hV9, x9, rfl, hP9, hF9, hx9, hv9⟩ := c_X9_findWatch (S := S) (fz := fz) (m := m) (p := p) (d := d) (by omega) (117 + 12 * s) (n) (cp) hP (Or.inr ⟨s, by omega, rfl⟩) hm (by omega) (by omega) (by omega) hcp (by omega) (by omega) (hr)
  refine rw_of (fun rr hrr => q_invV hV9 (show SH 1 = (17, 0) from rfl) rfl rfl (okar_cons rfl okar_nil) (Nat.le_of_ble_eq_true rfl) (q_aload_n rfl (q_getR (show SH 1 = (17, 0) from rfl) rfl (pt_1_7 hP9) (q_iload_n rfl (q_iald (j := g) (show SH 34 = (1, 8) from rfl) rfl (by omega) rfl hrr))))) ?_
  exact rw_ret hQ (q_ireturn (Or.inl rfl)) (by exact ⟨x9, lvI (congrArg vF (hv9 g hg)), hx9, hP9, Fr_mono hF9 (fun a ha => by omega)⟩)
theorem t_X9_observerP {d : Nat} {S : Env} {fz : Bool} {m : M1} {p : M2} (hd : 8 ≤ d) (s k n cp : Nat) (x : Int) (hP : PI p) (hk : m 1 1 = nF k) (hk12 : k ≤ 12) (hsk : s < k) (hm : m (117 + 12 * s) 0 = nF n) (hn0 : 1 ≤ n) (hn : n ≤ 8) (hcp : m 3 1 = nF cp) (hcpl : cp ≤ 16) (hrx : (-2147483648 ≤ x ∧ x < 2147483648)) (h : x < 0 ∨ n ≤ x) : Tx d k_X9_observer S fz [.ref (1), .int (iI (((s : Nat) : Int))), .int (iI (x))] m p 0 (fun m' p' => m = m' ∧ p = p') := by
  obtain ⟨d, rfl⟩ : ∃ e, d = e + 1 := ⟨d - 1, by omega⟩
  refine tx_go (lv := [some (.ref (1)), some (.int (iI (((s : Nat) : Int)))), some (.int (iI (x))), none]) (Nat.le_of_ble_eq_true rfl) (okar_cons rfl (okar_cons rfl (okar_cons rfl okar_nil))) (by decide) (by omega) rfl (fun Qr hQ => ?_)
  refine rw_blk lk_X9_observer_0 ?_
  refine rw_of (fun rr hrr => q_aload_n rfl (q_iload_n rfl hrr)) ?_
  obtain ⟨_, mm1, pp2, hV3, rfl, rfl, rfl⟩ := c_X9_plantOf (S := S) (fz := fz) (m := m) (p := p) (d := d) (by omega) (s) (k) hP hk (by omega) (by omega)
  refine rw_of (fun rr hrr => q_invV hV3 (show SH 1 = (17, 0) from rfl) rfl rfl (okar_cons rfl okar_nil) (Nat.le_of_ble_eq_true rfl) (q_astore_n (Nat.le_of_ble_eq_true rfl) rfl (q_aload_n rfl (q_iload_n rfl hrr)))) ?_
  obtain ⟨mm4, pp5, hV6, rfl, rfl⟩ := t_X9_requirePlace (S := S) (fz := fz) (m := m) (p := p) (d := d) (by omega) (117 + 12 * s) (n) (x) hP (Or.inr ⟨s, by omega, rfl⟩) hm (by omega) (by omega) (by omega)
  refine rw_end (q_invSx hV6 (by decide) rfl rfl (okar_cons rfl (okar_cons rfl okar_nil)) (Nat.le_of_ble_eq_true rfl)) ?_
  rw [hQ]
  refine ⟨_, _, rfl, ?_⟩
  exact ⟨rfl, rfl⟩
theorem t_X9_observerC {d : Nat} {S : Env} {fz : Bool} {m : M1} {p : M2} (hd : 8 ≤ d) (s k n g cp : Nat) (hP : PI p) (hk : m 1 1 = nF k) (hk12 : k ≤ 12) (hsk : s < k) (hm : m (117 + 12 * s) 0 = nF n) (hn0 : 1 ≤ n) (hn : n ≤ 8) (hcp : m 3 1 = nF cp) (hcpl : cp ≤ 16) (hg : g < n) (h : cp < 2 * n) : Tx d k_X9_observer S fz [.ref (1), .int (iI (((s : Nat) : Int))), .int (iI (((g : Nat) : Int)))] m p 2 (fun m' p' => m = m' ∧ p = p') := by
  obtain ⟨d, rfl⟩ : ∃ e, d = e + 1 := ⟨d - 1, by omega⟩
  refine tx_go (lv := [some (.ref (1)), some (.int (iI (((s : Nat) : Int)))), some (.int (iI (((g : Nat) : Int)))), none]) (Nat.le_of_ble_eq_true rfl) (okar_cons rfl (okar_cons rfl (okar_cons rfl okar_nil))) (by decide) (by omega) rfl (fun Qr hQ => ?_)
  refine rw_blk lk_X9_observer_0 ?_
  refine rw_of (fun rr hrr => q_aload_n rfl (q_iload_n rfl hrr)) ?_
  obtain ⟨_, mm1, pp2, hV3, rfl, rfl, rfl⟩ := c_X9_plantOf (S := S) (fz := fz) (m := m) (p := p) (d := d) (by omega) (s) (k) hP hk (by omega) (by omega)
  refine rw_of (fun rr hrr => q_invV hV3 (show SH 1 = (17, 0) from rfl) rfl rfl (okar_cons rfl okar_nil) (Nat.le_of_ble_eq_true rfl) (q_astore_n (Nat.le_of_ble_eq_true rfl) rfl (q_aload_n rfl (q_iload_n rfl hrr)))) ?_
  obtain ⟨_, mm4, pp5, hV6, rfl, rfl, rfl⟩ := c_X9_requirePlace (S := S) (fz := fz) (m := m) (p := p) (d := d) (by omega) (117 + 12 * s) (n) (((g : Nat) : Int)) hP (Or.inr ⟨s, by omega, rfl⟩) hm (by omega) (by omega)
  refine rw_of (fun rr hrr => q_invS hV6 rfl rfl (okar_cons rfl (okar_cons rfl okar_nil)) (Nat.le_of_ble_eq_true rfl) (q_aload_n rfl (q_aload_n rfl hrr))) ?_
  obtain ⟨mm7, pp8, hV9, rfl, rfl⟩ := t_X9_findWatch (S := S) (fz := fz) (m := m) (p := p) (d := d) (by omega) (117 + 12 * s) (n) (cp) hP (Or.inr ⟨s, by omega, rfl⟩) hm (by omega) (by omega) hcp (by omega) (by omega)
  refine rw_end (q_invVx hV9 (by decide) (show SH 1 = (17, 0) from rfl) rfl rfl (okar_cons rfl okar_nil) (Nat.le_of_ble_eq_true rfl)) ?_
  rw [hQ]
  refine ⟨_, _, rfl, ?_⟩
  exact ⟨rfl, rfl⟩
theorem t_X9_observerR {d : Nat} {S : Env} {fz : Bool} {m : M1} {p : M2} (hd : 8 ≤ d) (s k n g cp : Nat) (hP : PI p) (hk : m 1 1 = nF k) (hk12 : k ≤ 12) (hsk : s < k) (hm : m (117 + 12 * s) 0 = nF n) (hn0 : 1 ≤ n) (hn : n ≤ 8) (hcp : m 3 1 = nF cp) (hcpl : cp ≤ 16) (hg : g < n) (h : 2 * n ≤ cp) (hr : rk n (kr n (fun z c => m (117 + 12 * s + 2 + c) z) (m (117 + 12 * s + 11))) ≠ n) : Tx d k_X9_observer S fz [.ref (1), .int (iI (((s : Nat) : Int))), .int (iI (((g : Nat) : Int)))] m p 2 (fun m' p' => PI p' ∧ Fr (fun a_ => 7 ≤ a_ ∧ a_ < 117) m m') := by
  obtain ⟨d, rfl⟩ : ∃ e, d = e + 1 := ⟨d - 1, by omega⟩
  refine tx_go (lv := [some (.ref (1)), some (.int (iI (((s : Nat) : Int)))), some (.int (iI (((g : Nat) : Int)))), none]) (Nat.le_of_ble_eq_true rfl) (okar_cons rfl (okar_cons rfl (okar_cons rfl okar_nil))) (by decide) (by omega) rfl (fun Qr hQ => ?_)
  refine rw_blk lk_X9_observer_0 ?_
  refine rw_of (fun rr hrr => q_aload_n rfl (q_iload_n rfl hrr)) ?_
  obtain ⟨_, mm1, pp2, hV3, rfl, rfl, rfl⟩ := c_X9_plantOf (S := S) (fz := fz) (m := m) (p := p) (d := d) (by omega) (s) (k) hP hk (by omega) (by omega)
  refine rw_of (fun rr hrr => q_invV hV3 (show SH 1 = (17, 0) from rfl) rfl rfl (okar_cons rfl okar_nil) (Nat.le_of_ble_eq_true rfl) (q_astore_n (Nat.le_of_ble_eq_true rfl) rfl (q_aload_n rfl (q_iload_n rfl hrr)))) ?_
  obtain ⟨_, mm4, pp5, hV6, rfl, rfl, rfl⟩ := c_X9_requirePlace (S := S) (fz := fz) (m := m) (p := p) (d := d) (by omega) (117 + 12 * s) (n) (((g : Nat) : Int)) hP (Or.inr ⟨s, by omega, rfl⟩) hm (by omega) (by omega)
  refine rw_of (fun rr hrr => q_invS hV6 rfl rfl (okar_cons rfl (okar_cons rfl okar_nil)) (Nat.le_of_ble_eq_true rfl) (q_aload_n rfl (q_aload_n rfl hrr))) ?_
  obtain ⟨mm7, pp8, hV9, hP9, hF9⟩ := t_X9_findWatchR (S := S) (fz := fz) (m := m) (p := p) (d := d) (by omega) (117 + 12 * s) (n) (cp) hP (Or.inr ⟨s, by omega, rfl⟩) hm (by omega) (by omega) (by omega) hcp (by omega) (by omega) (hr)
  refine rw_end (q_invVx hV9 (by decide) (show SH 1 = (17, 0) from rfl) rfl rfl (okar_cons rfl okar_nil) (Nat.le_of_ble_eq_true rfl)) ?_
  rw [hQ]
  refine ⟨_, _, rfl, ?_⟩
  exact ⟨hP9, hF9⟩
theorem c_X9_polynomial0 {d : Nat} {S : Env} {fz : Bool} {m : M1} {p : M2} (hd : 7 ≤ d) (s k n g : Nat) (hP : PI p) (hk : m 1 1 = nF k) (hk12 : k ≤ 12) (hsk : s < k) (hm : m (117 + 12 * s) 0 = nF n) (hn0 : 1 ≤ n) (hn : n ≤ 8) (hg : g ≤ n) : Ct d k_X9_polynomial S fz [.ref (1), .int (iI (((s : Nat) : Int))), .int (iI (((g : Nat) : Int))), .int (iI (0))] m p (fun v m' p' => v = some (.int (iI (vF ((pbl n (fun z => m (117 + 12 * s + 2 + z))) g)))) ∧ PI p' ∧ Fr (fun a_ => 7 ≤ a_ ∧ a_ < 117) m m') := by
  obtain ⟨d, rfl⟩ : ∃ e, d = e + 1 := ⟨d - 1, by omega⟩
  refine ct_go (lv := [some (.ref (1)), some (.int (iI (((s : Nat) : Int)))), some (.int (iI (((g : Nat) : Int)))), some (.int (iI (0))), none]) (Nat.le_of_ble_eq_true rfl) (okar_cons rfl (okar_cons rfl (okar_cons rfl (okar_cons rfl okar_nil)))) rfl (fun Qr hQ => ?_)
  refine rw_blk lk_X9_polynomial_0 ?_
  refine rw_of (fun rr hrr => q_aload_n rfl (q_iload_n rfl hrr)) ?_
  obtain ⟨_, mm1, pp2, hV3, rfl, rfl, rfl⟩ := c_X9_plantOf (S := S) (fz := fz) (m := m) (p := p) (d := d) (by omega) (s) (k) hP hk (by omega) (by omega)
  refine rw_of (fun rr hrr => q_invV hV3 (show SH 1 = (17, 0) from rfl) rfl rfl (okar_cons rfl okar_nil) (Nat.le_of_ble_eq_true rfl) (q_astore (Nat.le_of_ble_eq_true rfl) rfl (q_iload_n rfl hrr))) ?_
  refine rw_if_lt ⟨by omega, by omega⟩ (t := 20) rfl (fun hc4 => ?_) (fun hc4 => ?_)
  · skip
    refine rw_blk lk_X9_polynomial_20 ?_
    exfalso; omega
  · skip
    refine rw_of (fun rr hrr => q_iload_n rfl (q_aload rfl (q_getI (PI_pl hP (Or.inr ⟨s, by omega, rfl⟩)).1 rfl (ki rfl hm (by omega)) hrr))) ?_
    refine rw_icmp_le ⟨by omega, by omega⟩ ⟨by omega, by omega⟩ (t := 30) rfl (fun hc5 => ?_) (fun hc5 => ?_)
    · skip
      refine rw_blk lk_X9_polynomial_30 ?_
      refine rw_of (fun rr hrr => q_aload_n rfl (q_getR (show SH 1 = (17, 0) from rfl) rfl (pt_1_8 hP) (q_aload rfl hrr))) ?_
      obtain ⟨_, mm6, pp7, hV8, rfl, hP8, hF8, hB8, hA8⟩ := c_X5_find (S := S) (fz := fz) (m := m) (p := p) (d := d) (by omega) (n) (117 + 12 * s) hP (Or.inr ⟨s, by omega, rfl⟩) (by omega) (by omega) hm
      refine rw_of (fun rr hrr => q_invV hV8 (show SH 35 = (14, 0) from rfl) rfl rfl (okar_cons rfl okar_nil) (Nat.le_of_ble_eq_true rfl) (q_iload_n rfl hrr)) ?_
      refine rw_if_eq ⟨by omega, by omega⟩ (t := 55) rfl (fun hc9 => ?_) (fun hc9 => ?_)
      · skip
        refine rw_blk lk_X9_polynomial_55 ?_
        refine rw_of (fun rr hrr => q_aload_n rfl (q_getR (show SH 1 = (17, 0) from rfl) rfl (pt_1_8 hP8) (q_getR (show SH 35 = (14, 0) from rfl) rfl (pt_35_0 hP8) (q_iload_n rfl (q_iald (j := g) (show SH 36 = (1, 9) from rfl) rfl (by omega) rfl hrr))))) ?_
        refine rw_blk lk_X9_polynomial_64 ?_
        exact rw_ret hQ (q_ireturn (Or.inl rfl)) (by exact ⟨lvI (congrArg vF (hB8 g hg)), hP8, Fr_mono hF8 (fun a ha => by omega)⟩)
      · exfalso; omega
    · skip
      refine rw_blk lk_X9_polynomial_20 ?_
      exfalso; omega
theorem c_X9_polynomial1 {d : Nat} {S : Env} {fz : Bool} {m : M1} {p : M2} (hd : 7 ≤ d) (s k n g : Nat) (x : Int) (hP : PI p) (hk : m 1 1 = nF k) (hk12 : k ≤ 12) (hsk : s < k) (hm : m (117 + 12 * s) 0 = nF n) (hn0 : 1 ≤ n) (hn : n ≤ 8) (hg : g ≤ n) (hx : (-2147483648 ≤ x ∧ x < 2147483648) ∧ x ≠ 0) : Ct d k_X9_polynomial S fz [.ref (1), .int (iI (((s : Nat) : Int))), .int (iI (((g : Nat) : Int))), .int (iI (x))] m p (fun v m' p' => v = some (.int (iI (vF ((pab n (fun z => m (117 + 12 * s + 2 + z)) (m (117 + 12 * s + 10)) (m (117 + 12 * s + 11))) g)))) ∧ PI p' ∧ Fr (fun a_ => 7 ≤ a_ ∧ a_ < 117) m m') := by
  obtain ⟨d, rfl⟩ : ∃ e, d = e + 1 := ⟨d - 1, by omega⟩
  refine ct_go (lv := [some (.ref (1)), some (.int (iI (((s : Nat) : Int)))), some (.int (iI (((g : Nat) : Int)))), some (.int (iI (x))), none]) (Nat.le_of_ble_eq_true rfl) (okar_cons rfl (okar_cons rfl (okar_cons rfl (okar_cons rfl okar_nil)))) rfl (fun Qr hQ => ?_)
  refine rw_blk lk_X9_polynomial_0 ?_
  refine rw_of (fun rr hrr => q_aload_n rfl (q_iload_n rfl hrr)) ?_
  obtain ⟨_, mm1, pp2, hV3, rfl, rfl, rfl⟩ := c_X9_plantOf (S := S) (fz := fz) (m := m) (p := p) (d := d) (by omega) (s) (k) hP hk (by omega) (by omega)
  refine rw_of (fun rr hrr => q_invV hV3 (show SH 1 = (17, 0) from rfl) rfl rfl (okar_cons rfl okar_nil) (Nat.le_of_ble_eq_true rfl) (q_astore (Nat.le_of_ble_eq_true rfl) rfl (q_iload_n rfl hrr))) ?_
  refine rw_if_lt ⟨by omega, by omega⟩ (t := 20) rfl (fun hc4 => ?_) (fun hc4 => ?_)
  · skip
    refine rw_blk lk_X9_polynomial_20 ?_
    exfalso; omega
  · skip
    refine rw_of (fun rr hrr => q_iload_n rfl (q_aload rfl (q_getI (PI_pl hP (Or.inr ⟨s, by omega, rfl⟩)).1 rfl (ki rfl hm (by omega)) hrr))) ?_
    refine rw_icmp_le ⟨by omega, by omega⟩ ⟨by omega, by omega⟩ (t := 30) rfl (fun hc5 => ?_) (fun hc5 => ?_)
    · skip
      refine rw_blk lk_X9_polynomial_30 ?_
      refine rw_of (fun rr hrr => q_aload_n rfl (q_getR (show SH 1 = (17, 0) from rfl) rfl (pt_1_8 hP) (q_aload rfl hrr))) ?_
      obtain ⟨_, mm6, pp7, hV8, rfl, hP8, hF8, hB8, hA8⟩ := c_X5_find (S := S) (fz := fz) (m := m) (p := p) (d := d) (by omega) (n) (117 + 12 * s) hP (Or.inr ⟨s, by omega, rfl⟩) (by omega) (by omega) hm
      refine rw_of (fun rr hrr => q_invV hV8 (show SH 35 = (14, 0) from rfl) rfl rfl (okar_cons rfl okar_nil) (Nat.le_of_ble_eq_true rfl) (q_iload_n rfl hrr)) ?_
      refine rw_if_eq ⟨by omega, by omega⟩ (t := 55) rfl (fun hc9 => ?_) (fun hc9 => ?_)
      · exfalso; omega
      · skip
        refine rw_of (fun rr hrr => q_aload_n rfl (q_getR (show SH 1 = (17, 0) from rfl) rfl (pt_1_8 hP8) (q_getR (show SH 35 = (14, 0) from rfl) rfl (pt_35_1 hP8) (q_iload_n rfl (q_iald (j := g) (show SH 37 = (1, 9) from rfl) rfl (by omega) rfl (q_goto (t := 64) rfl hrr)))))) ?_
        refine rw_blk lk_X9_polynomial_64 ?_
        exact rw_ret hQ (q_ireturn (Or.inl rfl)) (by exact ⟨lvI (congrArg vF (hA8 g hg)), hP8, Fr_mono hF8 (fun a ha => by omega)⟩)
    · skip
      refine rw_blk lk_X9_polynomial_20 ?_
      exfalso; omega
theorem t_X9_polynomialX {d : Nat} {S : Env} {fz : Bool} {m : M1} {p : M2} (hd : 7 ≤ d) (s k n : Nat) (x y : Int) (hP : PI p) (hk : m 1 1 = nF k) (hk12 : k ≤ 12) (hsk : s < k) (hm : m (117 + 12 * s) 0 = nF n) (hn0 : 1 ≤ n) (hn : n ≤ 8) (hr : (-2147483648 ≤ x ∧ x < 2147483648)) (h : x < 0 ∨ n < x) : Tx d k_X9_polynomial S fz [.ref (1), .int (iI (((s : Nat) : Int))), .int (iI (x)), .int (iI (y))] m p 0 (fun m' p' => m = m' ∧ p = p') := by
  obtain ⟨d, rfl⟩ : ∃ e, d = e + 1 := ⟨d - 1, by omega⟩
  refine tx_go (lv := [some (.ref (1)), some (.int (iI (((s : Nat) : Int)))), some (.int (iI (x))), some (.int (iI (y))), none]) (Nat.le_of_ble_eq_true rfl) (okar_cons rfl (okar_cons rfl (okar_cons rfl (okar_cons rfl okar_nil)))) (by decide) (by omega) rfl (fun Qr hQ => ?_)
  refine rw_blk lk_X9_polynomial_0 ?_
  refine rw_of (fun rr hrr => q_aload_n rfl (q_iload_n rfl hrr)) ?_
  obtain ⟨_, mm1, pp2, hV3, rfl, rfl, rfl⟩ := c_X9_plantOf (S := S) (fz := fz) (m := m) (p := p) (d := d) (by omega) (s) (k) hP hk (by omega) (by omega)
  refine rw_of (fun rr hrr => q_invV hV3 (show SH 1 = (17, 0) from rfl) rfl rfl (okar_cons rfl okar_nil) (Nat.le_of_ble_eq_true rfl) (q_astore (Nat.le_of_ble_eq_true rfl) rfl (q_iload_n rfl hrr))) ?_
  refine rw_if_lt ⟨by omega, by omega⟩ (t := 20) rfl (fun hc4 => ?_) (fun hc4 => ?_)
  · skip
    refine rw_blk lk_X9_polynomial_20 ?_
    refine rw_end (q_throw (by decide) (by decide +kernel) rfl) ?_
    rw [hQ]
    refine ⟨_, _, rfl, ?_⟩
    exact ⟨rfl, rfl⟩
  · skip
    refine rw_of (fun rr hrr => q_iload_n rfl (q_aload rfl (q_getI (PI_pl hP (Or.inr ⟨s, by omega, rfl⟩)).1 rfl (ki rfl hm (by omega)) hrr))) ?_
    refine rw_icmp_le ⟨by omega, by omega⟩ ⟨by omega, by omega⟩ (t := 30) rfl (fun hc5 => ?_) (fun hc5 => ?_)
    · skip
      refine rw_blk lk_X9_polynomial_30 ?_
      refine rw_of (fun rr hrr => q_aload_n rfl (q_getR (show SH 1 = (17, 0) from rfl) rfl (pt_1_8 hP) (q_aload rfl hrr))) ?_
      obtain ⟨_, mm6, pp7, hV8, rfl, hP8, hF8, hB8, hA8⟩ := c_X5_find (S := S) (fz := fz) (m := m) (p := p) (d := d) (by omega) (n) (117 + 12 * s) hP (Or.inr ⟨s, by omega, rfl⟩) (by omega) (by omega) hm
      refine rw_of (fun rr hrr => q_invV hV8 (show SH 35 = (14, 0) from rfl) rfl rfl (okar_cons rfl okar_nil) (Nat.le_of_ble_eq_true rfl) (q_iload_n rfl hrr)) ?_
      refine rw_if_eq ⟨by omega, by omega⟩ (t := 55) rfl (fun hc9 => ?_) (fun hc9 => ?_)
      · skip
        refine rw_blk lk_X9_polynomial_55 ?_
        exfalso; omega
      · skip
        exfalso; omega
    · skip
      refine rw_blk lk_X9_polynomial_20 ?_
      refine rw_end (q_throw (by decide) (by decide +kernel) rfl) ?_
      rw [hQ]
      refine ⟨_, _, rfl, ?_⟩
      exact ⟨rfl, rfl⟩
theorem c_X9_cost {d : Nat} {S : Env} {fz : Bool} {m : M1} {p : M2} (hd : 8 ≤ d) (s k n l : Nat) (q r : F) (hP : PI p) (hk : m 1 1 = nF k) (hk12 : k ≤ 12) (hsk : s < k) (hm : m (117 + 12 * s) 0 = nF n) (hn0 : 1 ≤ n) (hn : n ≤ 8) (hl : l ≤ 20) (hr : ∀ z, z < l → rm n ((rc n (fun z => m (117 + 12 * s + 2 + z)) (m (117 + 12 * s + 10)) (m (117 + 12 * s + 11)) q r) z) (m (117 + 12 * s + 10)) r ≠ 0) : Ct d k_X9_cost S fz [.ref (1), .int (iI (((s : Nat) : Int))), .int (iI (vF (q))), .int (iI (vF (r))), .int (iI (((l : Nat) : Int)))] m p (fun v m' p' => v = some (.int (iI (vF (sm n (fun i => sm n (fun j => (rc n (fun z => m (117 + 12 * s + 2 + z)) (m (117 + 12 * s + 10)) (m (117 + 12 * s + 11)) q r) l i j)))))) ∧ p = p' ∧ Fr (fun a_ => 7 ≤ a_ ∧ a_ < 117) m m') := by
  obtain ⟨d, rfl⟩ : ∃ e, d = e + 1 := ⟨d - 1, by omega⟩
  refine ct_go (lv := [some (.ref (1)), some (.int (iI (((s : Nat) : Int)))), some (.int (iI (vF (q)))), some (.int (iI (vF (r)))), some (.int (iI (((l : Nat) : Int)))), none]) (Nat.le_of_ble_eq_true rfl) (okar_cons rfl (okar_cons rfl (okar_cons rfl (okar_cons rfl (okar_cons rfl okar_nil))))) rfl (fun Qr hQ => ?_)
  refine rw_blk lk_X9_cost_0 ?_
  refine rw_of (fun rr hrr => q_aload_n rfl (q_iload_n rfl hrr)) ?_
  obtain ⟨_, mm1, pp2, hV3, rfl, rfl, rfl⟩ := c_X9_plantOf (S := S) (fz := fz) (m := m) (p := p) (d := d) (by omega) (s) (k) hP hk (by omega) (by omega)
  refine rw_of (fun rr hrr => q_invV hV3 (show SH 1 = (17, 0) from rfl) rfl rfl (okar_cons rfl okar_nil) (Nat.le_of_ble_eq_true rfl) (q_astore (Nat.le_of_ble_eq_true rfl) rfl (q_aload_n rfl (q_aload rfl (q_iload_n rfl (q_iload_n rfl (q_iload rfl hrr))))))) ?_
  obtain ⟨_, mm4, pp5, hV6, rfl, rfl, hF6, hv6, hK6⟩ := c_X9_goBack (S := S) (fz := fz) (m := m) (p := p) (d := d) (by omega) (117 + 12 * s) (n) (l) (q) (r) hP (Or.inr ⟨s, by omega, rfl⟩) hm (by omega) (by omega) (by omega) (hr)
  refine rw_of (fun rr hrr => q_invV hV6 (show SH 1 = (17, 0) from rfl) rfl rfl (okar_cons rfl (okar_cons rfl (okar_cons rfl (okar_cons rfl okar_nil)))) (Nat.le_of_ble_eq_true rfl) (q_aload_n rfl (q_getR (show SH 1 = (17, 0) from rfl) rfl (pt_1_10 hP) (q_aload rfl (q_getI (PI_pl hP (Or.inr ⟨s, by omega, rfl⟩)).1 rfl (ki (hF6 (117 + 12 * s) (by show ¬ (7 ≤ (117 + 12 * s) ∧ (117 + 12 * s) < 117); omega)) hm (by omega)) hrr))))) ?_
  obtain ⟨_, mm7, pp8, hV9, rfl, rfl, rfl⟩ := c_X7_costByEnd (S := S) (fz := fz) (m := mm4) (p := p) (d := d) (by omega) (n) hP (by omega)
  refine rw_of (fun rr hrr => q_invV hV9 (show SH 73 = (15, 0) from rfl) rfl rfl (okar_cons rfl okar_nil) (Nat.le_of_ble_eq_true rfl) hrr) ?_
  exact rw_ret hQ (q_ireturn (Or.inl rfl)) (by exact ⟨lvI (congrArg vF (sm_congr (fun i hi => sm_congr (fun j hj => hv6 i hi j hj)))), rfl, hF6⟩)
theorem c_X9_costAnew {d : Nat} {S : Env} {fz : Bool} {m : M1} {p : M2} (hd : 8 ≤ d) (s k n l : Nat) (q r : F) (hP : PI p) (hk : m 1 1 = nF k) (hk12 : k ≤ 12) (hsk : s < k) (hm : m (117 + 12 * s) 0 = nF n) (hn0 : 1 ≤ n) (hn : n ≤ 8) (hl : l ≤ 20) (hr : ∀ z, z < l → rm n ((rc n (fun z => m (117 + 12 * s + 2 + z)) (m (117 + 12 * s + 10)) (m (117 + 12 * s + 11)) q r) z) (m (117 + 12 * s + 10)) r ≠ 0) : Ct d k_X9_costAnew S fz [.ref (1), .int (iI (((s : Nat) : Int))), .int (iI (vF (q))), .int (iI (vF (r))), .int (iI (((l : Nat) : Int)))] m p (fun v m' p' => v = some (.int (iI (vF (gc n (fun z => m (117 + 12 * s + 2 + z)) (m (117 + 12 * s + 10)) (m (117 + 12 * s + 11)) q r (fun z => rK n ((rc n (fun z => m (117 + 12 * s + 2 + z)) (m (117 + 12 * s + 10)) (m (117 + 12 * s + 11)) q r) z) (fun z => m (117 + 12 * s + 2 + z)) (m (117 + 12 * s + 10)) r) l l + hc n (m (117 + 12 * s + 11)) q (gx n (fun z => m (117 + 12 * s + 2 + z)) (m (117 + 12 * s + 10)) (fun z => rK n ((rc n (fun z => m (117 + 12 * s + 2 + z)) (m (117 + 12 * s + 10)) (m (117 + 12 * s + 11)) q r) z) (fun z => m (117 + 12 * s + 2 + z)) (m (117 + 12 * s + 10)) r) l l))))) ∧ p = p' ∧ Fr (fun a_ => 7 ≤ a_ ∧ a_ < 117) m m') := by
  obtain ⟨d, rfl⟩ : ∃ e, d = e + 1 := ⟨d - 1, by omega⟩
  refine ct_go (lv := [some (.ref (1)), some (.int (iI (((s : Nat) : Int)))), some (.int (iI (vF (q)))), some (.int (iI (vF (r)))), some (.int (iI (((l : Nat) : Int)))), none]) (Nat.le_of_ble_eq_true rfl) (okar_cons rfl (okar_cons rfl (okar_cons rfl (okar_cons rfl (okar_cons rfl okar_nil))))) rfl (fun Qr hQ => ?_)
  refine rw_blk lk_X9_costAnew_0 ?_
  refine rw_of (fun rr hrr => q_aload_n rfl (q_iload_n rfl hrr)) ?_
  obtain ⟨_, mm1, pp2, hV3, rfl, rfl, rfl⟩ := c_X9_plantOf (S := S) (fz := fz) (m := m) (p := p) (d := d) (by omega) (s) (k) hP hk (by omega) (by omega)
  refine rw_of (fun rr hrr => q_invV hV3 (show SH 1 = (17, 0) from rfl) rfl rfl (okar_cons rfl okar_nil) (Nat.le_of_ble_eq_true rfl) (q_astore (Nat.le_of_ble_eq_true rfl) rfl (q_aload_n rfl (q_aload rfl (q_iload_n rfl (q_iload_n rfl (q_iload rfl hrr))))))) ?_
  obtain ⟨_, mm4, pp5, hV6, rfl, rfl, hF6, hv6, hK6⟩ := c_X9_goBack (S := S) (fz := fz) (m := m) (p := p) (d := d) (by omega) (117 + 12 * s) (n) (l) (q) (r) hP (Or.inr ⟨s, by omega, rfl⟩) hm (by omega) (by omega) (by omega) (hr)
  refine rw_of (fun rr hrr => q_invV hV6 (show SH 1 = (17, 0) from rfl) rfl rfl (okar_cons rfl (okar_cons rfl (okar_cons rfl (okar_cons rfl okar_nil)))) (Nat.le_of_ble_eq_true rfl) (q_aload_n rfl (q_getR (show SH 1 = (17, 0) from rfl) rfl (pt_1_10 hP) (q_aload rfl (q_iload_n rfl (q_iload_n rfl (q_iload rfl hrr))))))) ?_
  obtain ⟨_, mm7, pp8, hV9, rfl, rfl, hF9⟩ := c_X7_costByGoing (S := S) (fz := fz) (m := mm4) (p := p) (d := d) (by omega) (n) (117 + 12 * s) (l) (q) (r) hP (Or.inr ⟨s, by omega, rfl⟩) (by omega) (by omega) ((congrFun (hF6 (117 + 12 * s) (by show ¬ (7 ≤ (117 + 12 * s) ∧ (117 + 12 * s) < 117); omega)) 0).trans hm) (by omega)
  refine rw_of (fun rr hrr => q_invV hV9 (show SH 73 = (15, 0) from rfl) rfl rfl (okar_cons rfl (okar_cons rfl (okar_cons rfl (okar_cons rfl okar_nil)))) (Nat.le_of_ble_eq_true rfl) hrr) ?_
  refine rw_ret hQ (q_ireturn (Or.inl rfl)) ?_
  
  have e1 : ∀ z, z < n → mm4 (117 + 12 * s + 2 + z) = m (117 + 12 * s + 2 + z) := fun z hz => hF6 _ (by omega)
  have e2 : mm4 (117 + 12 * s + 10) = m (117 + 12 * s + 10) := hF6 _ (by omega)
  have e3 : mm4 (117 + 12 * s + 11) = m (117 + 12 * s + 11) := hF6 _ (by omega)
  have h9 := gxc_congr (n := n) (l := l) (b := m (117 + 12 * s + 10)) (c := m (117 + 12 * s + 11)) (q := q) (r := r) (A := fun z => mm4 (117 + 12 * s + 2 + z)) (A' := fun z => m (117 + 12 * s + 2 + z)) (K := fun z => mm4 (93 + z)) (K' := (fun z => rK n ((rc n (fun z => m (117 + 12 * s + 2 + z)) (m (117 + 12 * s + 10)) (m (117 + 12 * s + 11)) q r) z) (fun z => m (117 + 12 * s + 2 + z)) (m (117 + 12 * s + 10)) r)) (fun z hz c _ => congrFun (e1 z hz) c) (fun z hz j hj => hK6 z hz j hj)
  refine ⟨lvI (congrArg vF ?_), rfl, Fr_trans hF6 (Fr_mono hF9 (fun a ha => by omega))⟩
  rw [e2, e3, (h9 l (Nat.le_refl l)).2]
  unfold hc
  rw [dot_congr (fun _ _ => rfl) (fun i hi => (h9 l (Nat.le_refl l)).1 i hi)]
  
theorem t_X9_costM {d : Nat} {S : Env} {fz : Bool} {m : M1} {p : M2} (hd : 8 ≤ d) (s k n l l0 : Nat) (q r : F) (hP : PI p) (hk : m 1 1 = nF k) (hk12 : k ≤ 12) (hsk : s < k) (hm : m (117 + 12 * s) 0 = nF n) (hn0 : 1 ≤ n) (hn : n ≤ 8) (hl : l0 < l ∧ l ≤ 20) (hr : ∀ z, z < l0 → rm n ((rc n (fun z => m (117 + 12 * s + 2 + z)) (m (117 + 12 * s + 10)) (m (117 + 12 * s + 11)) q r) z) (m (117 + 12 * s + 10)) r ≠ 0) (hr0 : rm n ((rc n (fun z => m (117 + 12 * s + 2 + z)) (m (117 + 12 * s + 10)) (m (117 + 12 * s + 11)) q r) l0) (m (117 + 12 * s + 10)) r = 0) : Tx d k_X9_cost S fz [.ref (1), .int (iI (((s : Nat) : Int))), .int (iI (vF (q))), .int (iI (vF (r))), .int (iI (((l : Nat) : Int)))] m p 2 (fun m' p' => p = p' ∧ Fr (fun a_ => 7 ≤ a_ ∧ a_ < 117) m m') := by
  obtain ⟨d, rfl⟩ : ∃ e, d = e + 1 := ⟨d - 1, by omega⟩
  refine tx_go (lv := [some (.ref (1)), some (.int (iI (((s : Nat) : Int)))), some (.int (iI (vF (q)))), some (.int (iI (vF (r)))), some (.int (iI (((l : Nat) : Int)))), none]) (Nat.le_of_ble_eq_true rfl) (okar_cons rfl (okar_cons rfl (okar_cons rfl (okar_cons rfl (okar_cons rfl okar_nil))))) (by decide) (by omega) rfl (fun Qr hQ => ?_)
  refine rw_blk lk_X9_cost_0 ?_
  refine rw_of (fun rr hrr => q_aload_n rfl (q_iload_n rfl hrr)) ?_
  obtain ⟨_, mm1, pp2, hV3, rfl, rfl, rfl⟩ := c_X9_plantOf (S := S) (fz := fz) (m := m) (p := p) (d := d) (by omega) (s) (k) hP hk (by omega) (by omega)
  refine rw_of (fun rr hrr => q_invV hV3 (show SH 1 = (17, 0) from rfl) rfl rfl (okar_cons rfl okar_nil) (Nat.le_of_ble_eq_true rfl) (q_astore (Nat.le_of_ble_eq_true rfl) rfl (q_aload_n rfl (q_aload rfl (q_iload_n rfl (q_iload_n rfl (q_iload rfl hrr))))))) ?_
  obtain ⟨mm4, pp5, hV6, rfl, hF6⟩ := t_X9_goBackM (S := S) (fz := fz) (m := m) (p := p) (d := d) (by omega) (117 + 12 * s) (n) (l) (l0) (q) (r) hP (Or.inr ⟨s, by omega, rfl⟩) hm (by omega) (by omega) (by omega) (hr) (hr0)
  refine rw_end (q_invVx hV6 (by decide) (show SH 1 = (17, 0) from rfl) rfl rfl (okar_cons rfl (okar_cons rfl (okar_cons rfl (okar_cons rfl okar_nil)))) (Nat.le_of_ble_eq_true rfl)) ?_
  rw [hQ]
  refine ⟨_, _, rfl, ?_⟩
  exact ⟨rfl, hF6⟩
theorem t_X9_costQ {d : Nat} {S : Env} {fz : Bool} {m : M1} {p : M2} (hd : 8 ≤ d) (s k n : Nat) (q r l : Int) (hP : PI p) (hk : m 1 1 = nF k) (hk12 : k ≤ 12) (hsk : s < k) (hm : m (117 + 12 * s) 0 = nF n) (hn0 : 1 ≤ n) (hn : n ≤ 8) (hr : (-2147483648 ≤ q ∧ q < 2147483648)) (h : q < 0 ∨ 10006 < q) : Tx d k_X9_cost S fz [.ref (1), .int (iI (((s : Nat) : Int))), .int (iI (q)), .int (iI (r)), .int (iI (l))] m p 1 (fun m' p' => m = m' ∧ p = p') := by
  obtain ⟨d, rfl⟩ : ∃ e, d = e + 1 := ⟨d - 1, by omega⟩
  refine tx_go (lv := [some (.ref (1)), some (.int (iI (((s : Nat) : Int)))), some (.int (iI (q))), some (.int (iI (r))), some (.int (iI (l))), none]) (Nat.le_of_ble_eq_true rfl) (okar_cons rfl (okar_cons rfl (okar_cons rfl (okar_cons rfl (okar_cons rfl okar_nil))))) (by decide) (by omega) rfl (fun Qr hQ => ?_)
  refine rw_blk lk_X9_cost_0 ?_
  refine rw_of (fun rr hrr => q_aload_n rfl (q_iload_n rfl hrr)) ?_
  obtain ⟨_, mm1, pp2, hV3, rfl, rfl, rfl⟩ := c_X9_plantOf (S := S) (fz := fz) (m := m) (p := p) (d := d) (by omega) (s) (k) hP hk (by omega) (by omega)
  refine rw_of (fun rr hrr => q_invV hV3 (show SH 1 = (17, 0) from rfl) rfl rfl (okar_cons rfl okar_nil) (Nat.le_of_ble_eq_true rfl) (q_astore (Nat.le_of_ble_eq_true rfl) rfl (q_aload_n rfl (q_aload rfl (q_iload_n rfl (q_iload_n rfl (q_iload rfl hrr))))))) ?_
  obtain ⟨mm4, pp5, hV6, rfl, rfl⟩ := t_X9_goBackQ (S := S) (fz := fz) (m := m) (p := p) (d := d) (by omega) (117 + 12 * s) (n) (q) (r) (l) hP (Or.inr ⟨s, by omega, rfl⟩) hm (by omega) (by omega) (by omega) (by omega)
  refine rw_end (q_invVx hV6 (by decide) (show SH 1 = (17, 0) from rfl) rfl rfl (okar_cons rfl (okar_cons rfl (okar_cons rfl (okar_cons rfl okar_nil)))) (Nat.le_of_ble_eq_true rfl)) ?_
  rw [hQ]
  refine ⟨_, _, rfl, ?_⟩
  exact ⟨rfl, rfl⟩
theorem t_X9_costR {d : Nat} {S : Env} {fz : Bool} {m : M1} {p : M2} (hd : 8 ≤ d) (s k n : Nat) (q r l : Int) (hP : PI p) (hk : m 1 1 = nF k) (hk12 : k ≤ 12) (hsk : s < k) (hm : m (117 + 12 * s) 0 = nF n) (hn0 : 1 ≤ n) (hn : n ≤ 8) (h1 : 0 ≤ q ∧ q ≤ 10006) (hr : (-2147483648 ≤ r ∧ r < 2147483648)) (h : r < 0 ∨ 10006 < r) : Tx d k_X9_cost S fz [.ref (1), .int (iI (((s : Nat) : Int))), .int (iI (q)), .int (iI (r)), .int (iI (l))] m p 1 (fun m' p' => m = m' ∧ p = p') := by
  obtain ⟨d, rfl⟩ : ∃ e, d = e + 1 := ⟨d - 1, by omega⟩
  refine tx_go (lv := [some (.ref (1)), some (.int (iI (((s : Nat) : Int)))), some (.int (iI (q))), some (.int (iI (r))), some (.int (iI (l))), none]) (Nat.le_of_ble_eq_true rfl) (okar_cons rfl (okar_cons rfl (okar_cons rfl (okar_cons rfl (okar_cons rfl okar_nil))))) (by decide) (by omega) rfl (fun Qr hQ => ?_)
  refine rw_blk lk_X9_cost_0 ?_
  refine rw_of (fun rr hrr => q_aload_n rfl (q_iload_n rfl hrr)) ?_
  obtain ⟨_, mm1, pp2, hV3, rfl, rfl, rfl⟩ := c_X9_plantOf (S := S) (fz := fz) (m := m) (p := p) (d := d) (by omega) (s) (k) hP hk (by omega) (by omega)
  refine rw_of (fun rr hrr => q_invV hV3 (show SH 1 = (17, 0) from rfl) rfl rfl (okar_cons rfl okar_nil) (Nat.le_of_ble_eq_true rfl) (q_astore (Nat.le_of_ble_eq_true rfl) rfl (q_aload_n rfl (q_aload rfl (q_iload_n rfl (q_iload_n rfl (q_iload rfl hrr))))))) ?_
  obtain ⟨mm4, pp5, hV6, rfl, rfl⟩ := t_X9_goBackR (S := S) (fz := fz) (m := m) (p := p) (d := d) (by omega) (117 + 12 * s) (n) (q) (r) (l) hP (Or.inr ⟨s, by omega, rfl⟩) hm (by omega) (by omega) (by omega) (by omega) (by omega)
  refine rw_end (q_invVx hV6 (by decide) (show SH 1 = (17, 0) from rfl) rfl rfl (okar_cons rfl (okar_cons rfl (okar_cons rfl (okar_cons rfl okar_nil)))) (Nat.le_of_ble_eq_true rfl)) ?_
  rw [hQ]
  refine ⟨_, _, rfl, ?_⟩
  exact ⟨rfl, rfl⟩
theorem t_X9_costL {d : Nat} {S : Env} {fz : Bool} {m : M1} {p : M2} (hd : 8 ≤ d) (s k n : Nat) (q r l : Int) (hP : PI p) (hk : m 1 1 = nF k) (hk12 : k ≤ 12) (hsk : s < k) (hm : m (117 + 12 * s) 0 = nF n) (hn0 : 1 ≤ n) (hn : n ≤ 8) (h1 : 0 ≤ q ∧ q ≤ 10006) (h2 : 0 ≤ r ∧ r ≤ 10006) (hr : (-2147483648 ≤ l ∧ l < 2147483648)) (h : l < 0 ∨ 20 < l) : Tx d k_X9_cost S fz [.ref (1), .int (iI (((s : Nat) : Int))), .int (iI (q)), .int (iI (r)), .int (iI (l))] m p 1 (fun m' p' => m = m' ∧ p = p') := by
  obtain ⟨d, rfl⟩ : ∃ e, d = e + 1 := ⟨d - 1, by omega⟩
  refine tx_go (lv := [some (.ref (1)), some (.int (iI (((s : Nat) : Int)))), some (.int (iI (q))), some (.int (iI (r))), some (.int (iI (l))), none]) (Nat.le_of_ble_eq_true rfl) (okar_cons rfl (okar_cons rfl (okar_cons rfl (okar_cons rfl (okar_cons rfl okar_nil))))) (by decide) (by omega) rfl (fun Qr hQ => ?_)
  refine rw_blk lk_X9_cost_0 ?_
  refine rw_of (fun rr hrr => q_aload_n rfl (q_iload_n rfl hrr)) ?_
  obtain ⟨_, mm1, pp2, hV3, rfl, rfl, rfl⟩ := c_X9_plantOf (S := S) (fz := fz) (m := m) (p := p) (d := d) (by omega) (s) (k) hP hk (by omega) (by omega)
  refine rw_of (fun rr hrr => q_invV hV3 (show SH 1 = (17, 0) from rfl) rfl rfl (okar_cons rfl okar_nil) (Nat.le_of_ble_eq_true rfl) (q_astore (Nat.le_of_ble_eq_true rfl) rfl (q_aload_n rfl (q_aload rfl (q_iload_n rfl (q_iload_n rfl (q_iload rfl hrr))))))) ?_
  obtain ⟨mm4, pp5, hV6, rfl, rfl⟩ := t_X9_goBackL (S := S) (fz := fz) (m := m) (p := p) (d := d) (by omega) (117 + 12 * s) (n) (q) (r) (l) hP (Or.inr ⟨s, by omega, rfl⟩) hm (by omega) (by omega) (by omega) (by omega) (by omega) (by omega)
  refine rw_end (q_invVx hV6 (by decide) (show SH 1 = (17, 0) from rfl) rfl rfl (okar_cons rfl (okar_cons rfl (okar_cons rfl (okar_cons rfl okar_nil)))) (Nat.le_of_ble_eq_true rfl)) ?_
  rw [hQ]
  refine ⟨_, _, rfl, ?_⟩
  exact ⟨rfl, rfl⟩
theorem t_X9_costAnewM {d : Nat} {S : Env} {fz : Bool} {m : M1} {p : M2} (hd : 8 ≤ d) (s k n l l0 : Nat) (q r : F) (hP : PI p) (hk : m 1 1 = nF k) (hk12 : k ≤ 12) (hsk : s < k) (hm : m (117 + 12 * s) 0 = nF n) (hn0 : 1 ≤ n) (hn : n ≤ 8) (hl : l0 < l ∧ l ≤ 20) (hr : ∀ z, z < l0 → rm n ((rc n (fun z => m (117 + 12 * s + 2 + z)) (m (117 + 12 * s + 10)) (m (117 + 12 * s + 11)) q r) z) (m (117 + 12 * s + 10)) r ≠ 0) (hr0 : rm n ((rc n (fun z => m (117 + 12 * s + 2 + z)) (m (117 + 12 * s + 10)) (m (117 + 12 * s + 11)) q r) l0) (m (117 + 12 * s + 10)) r = 0) : Tx d k_X9_costAnew S fz [.ref (1), .int (iI (((s : Nat) : Int))), .int (iI (vF (q))), .int (iI (vF (r))), .int (iI (((l : Nat) : Int)))] m p 2 (fun m' p' => p = p' ∧ Fr (fun a_ => 7 ≤ a_ ∧ a_ < 117) m m') := by
  obtain ⟨d, rfl⟩ : ∃ e, d = e + 1 := ⟨d - 1, by omega⟩
  refine tx_go (lv := [some (.ref (1)), some (.int (iI (((s : Nat) : Int)))), some (.int (iI (vF (q)))), some (.int (iI (vF (r)))), some (.int (iI (((l : Nat) : Int)))), none]) (Nat.le_of_ble_eq_true rfl) (okar_cons rfl (okar_cons rfl (okar_cons rfl (okar_cons rfl (okar_cons rfl okar_nil))))) (by decide) (by omega) rfl (fun Qr hQ => ?_)
  refine rw_blk lk_X9_costAnew_0 ?_
  refine rw_of (fun rr hrr => q_aload_n rfl (q_iload_n rfl hrr)) ?_
  obtain ⟨_, mm1, pp2, hV3, rfl, rfl, rfl⟩ := c_X9_plantOf (S := S) (fz := fz) (m := m) (p := p) (d := d) (by omega) (s) (k) hP hk (by omega) (by omega)
  refine rw_of (fun rr hrr => q_invV hV3 (show SH 1 = (17, 0) from rfl) rfl rfl (okar_cons rfl okar_nil) (Nat.le_of_ble_eq_true rfl) (q_astore (Nat.le_of_ble_eq_true rfl) rfl (q_aload_n rfl (q_aload rfl (q_iload_n rfl (q_iload_n rfl (q_iload rfl hrr))))))) ?_
  obtain ⟨mm4, pp5, hV6, rfl, hF6⟩ := t_X9_goBackM (S := S) (fz := fz) (m := m) (p := p) (d := d) (by omega) (117 + 12 * s) (n) (l) (l0) (q) (r) hP (Or.inr ⟨s, by omega, rfl⟩) hm (by omega) (by omega) (by omega) (hr) (hr0)
  refine rw_end (q_invVx hV6 (by decide) (show SH 1 = (17, 0) from rfl) rfl rfl (okar_cons rfl (okar_cons rfl (okar_cons rfl (okar_cons rfl okar_nil)))) (Nat.le_of_ble_eq_true rfl)) ?_
  rw [hQ]
  refine ⟨_, _, rfl, ?_⟩
  exact ⟨rfl, hF6⟩
theorem t_X9_costAnewQ {d : Nat} {S : Env} {fz : Bool} {m : M1} {p : M2} (hd : 8 ≤ d) (s k n : Nat) (q r l : Int) (hP : PI p) (hk : m 1 1 = nF k) (hk12 : k ≤ 12) (hsk : s < k) (hm : m (117 + 12 * s) 0 = nF n) (hn0 : 1 ≤ n) (hn : n ≤ 8) (hr : (-2147483648 ≤ q ∧ q < 2147483648)) (h : q < 0 ∨ 10006 < q) : Tx d k_X9_costAnew S fz [.ref (1), .int (iI (((s : Nat) : Int))), .int (iI (q)), .int (iI (r)), .int (iI (l))] m p 1 (fun m' p' => m = m' ∧ p = p') := by
  obtain ⟨d, rfl⟩ : ∃ e, d = e + 1 := ⟨d - 1, by omega⟩
  refine tx_go (lv := [some (.ref (1)), some (.int (iI (((s : Nat) : Int)))), some (.int (iI (q))), some (.int (iI (r))), some (.int (iI (l))), none]) (Nat.le_of_ble_eq_true rfl) (okar_cons rfl (okar_cons rfl (okar_cons rfl (okar_cons rfl (okar_cons rfl okar_nil))))) (by decide) (by omega) rfl (fun Qr hQ => ?_)
  refine rw_blk lk_X9_costAnew_0 ?_
  refine rw_of (fun rr hrr => q_aload_n rfl (q_iload_n rfl hrr)) ?_
  obtain ⟨_, mm1, pp2, hV3, rfl, rfl, rfl⟩ := c_X9_plantOf (S := S) (fz := fz) (m := m) (p := p) (d := d) (by omega) (s) (k) hP hk (by omega) (by omega)
  refine rw_of (fun rr hrr => q_invV hV3 (show SH 1 = (17, 0) from rfl) rfl rfl (okar_cons rfl okar_nil) (Nat.le_of_ble_eq_true rfl) (q_astore (Nat.le_of_ble_eq_true rfl) rfl (q_aload_n rfl (q_aload rfl (q_iload_n rfl (q_iload_n rfl (q_iload rfl hrr))))))) ?_
  obtain ⟨mm4, pp5, hV6, rfl, rfl⟩ := t_X9_goBackQ (S := S) (fz := fz) (m := m) (p := p) (d := d) (by omega) (117 + 12 * s) (n) (q) (r) (l) hP (Or.inr ⟨s, by omega, rfl⟩) hm (by omega) (by omega) (by omega) (by omega)
  refine rw_end (q_invVx hV6 (by decide) (show SH 1 = (17, 0) from rfl) rfl rfl (okar_cons rfl (okar_cons rfl (okar_cons rfl (okar_cons rfl okar_nil)))) (Nat.le_of_ble_eq_true rfl)) ?_
  rw [hQ]
  refine ⟨_, _, rfl, ?_⟩
  exact ⟨rfl, rfl⟩
theorem t_X9_costAnewR {d : Nat} {S : Env} {fz : Bool} {m : M1} {p : M2} (hd : 8 ≤ d) (s k n : Nat) (q r l : Int) (hP : PI p) (hk : m 1 1 = nF k) (hk12 : k ≤ 12) (hsk : s < k) (hm : m (117 + 12 * s) 0 = nF n) (hn0 : 1 ≤ n) (hn : n ≤ 8) (h1 : 0 ≤ q ∧ q ≤ 10006) (hr : (-2147483648 ≤ r ∧ r < 2147483648)) (h : r < 0 ∨ 10006 < r) : Tx d k_X9_costAnew S fz [.ref (1), .int (iI (((s : Nat) : Int))), .int (iI (q)), .int (iI (r)), .int (iI (l))] m p 1 (fun m' p' => m = m' ∧ p = p') := by
  obtain ⟨d, rfl⟩ : ∃ e, d = e + 1 := ⟨d - 1, by omega⟩
  refine tx_go (lv := [some (.ref (1)), some (.int (iI (((s : Nat) : Int)))), some (.int (iI (q))), some (.int (iI (r))), some (.int (iI (l))), none]) (Nat.le_of_ble_eq_true rfl) (okar_cons rfl (okar_cons rfl (okar_cons rfl (okar_cons rfl (okar_cons rfl okar_nil))))) (by decide) (by omega) rfl (fun Qr hQ => ?_)
  refine rw_blk lk_X9_costAnew_0 ?_
  refine rw_of (fun rr hrr => q_aload_n rfl (q_iload_n rfl hrr)) ?_
  obtain ⟨_, mm1, pp2, hV3, rfl, rfl, rfl⟩ := c_X9_plantOf (S := S) (fz := fz) (m := m) (p := p) (d := d) (by omega) (s) (k) hP hk (by omega) (by omega)
  refine rw_of (fun rr hrr => q_invV hV3 (show SH 1 = (17, 0) from rfl) rfl rfl (okar_cons rfl okar_nil) (Nat.le_of_ble_eq_true rfl) (q_astore (Nat.le_of_ble_eq_true rfl) rfl (q_aload_n rfl (q_aload rfl (q_iload_n rfl (q_iload_n rfl (q_iload rfl hrr))))))) ?_
  obtain ⟨mm4, pp5, hV6, rfl, rfl⟩ := t_X9_goBackR (S := S) (fz := fz) (m := m) (p := p) (d := d) (by omega) (117 + 12 * s) (n) (q) (r) (l) hP (Or.inr ⟨s, by omega, rfl⟩) hm (by omega) (by omega) (by omega) (by omega) (by omega)
  refine rw_end (q_invVx hV6 (by decide) (show SH 1 = (17, 0) from rfl) rfl rfl (okar_cons rfl (okar_cons rfl (okar_cons rfl (okar_cons rfl okar_nil)))) (Nat.le_of_ble_eq_true rfl)) ?_
  rw [hQ]
  refine ⟨_, _, rfl, ?_⟩
  exact ⟨rfl, rfl⟩
theorem t_X9_costAnewL {d : Nat} {S : Env} {fz : Bool} {m : M1} {p : M2} (hd : 8 ≤ d) (s k n : Nat) (q r l : Int) (hP : PI p) (hk : m 1 1 = nF k) (hk12 : k ≤ 12) (hsk : s < k) (hm : m (117 + 12 * s) 0 = nF n) (hn0 : 1 ≤ n) (hn : n ≤ 8) (h1 : 0 ≤ q ∧ q ≤ 10006) (h2 : 0 ≤ r ∧ r ≤ 10006) (hr : (-2147483648 ≤ l ∧ l < 2147483648)) (h : l < 0 ∨ 20 < l) : Tx d k_X9_costAnew S fz [.ref (1), .int (iI (((s : Nat) : Int))), .int (iI (q)), .int (iI (r)), .int (iI (l))] m p 1 (fun m' p' => m = m' ∧ p = p') := by
  obtain ⟨d, rfl⟩ : ∃ e, d = e + 1 := ⟨d - 1, by omega⟩
  refine tx_go (lv := [some (.ref (1)), some (.int (iI (((s : Nat) : Int)))), some (.int (iI (q))), some (.int (iI (r))), some (.int (iI (l))), none]) (Nat.le_of_ble_eq_true rfl) (okar_cons rfl (okar_cons rfl (okar_cons rfl (okar_cons rfl (okar_cons rfl okar_nil))))) (by decide) (by omega) rfl (fun Qr hQ => ?_)
  refine rw_blk lk_X9_costAnew_0 ?_
  refine rw_of (fun rr hrr => q_aload_n rfl (q_iload_n rfl hrr)) ?_
  obtain ⟨_, mm1, pp2, hV3, rfl, rfl, rfl⟩ := c_X9_plantOf (S := S) (fz := fz) (m := m) (p := p) (d := d) (by omega) (s) (k) hP hk (by omega) (by omega)
  refine rw_of (fun rr hrr => q_invV hV3 (show SH 1 = (17, 0) from rfl) rfl rfl (okar_cons rfl okar_nil) (Nat.le_of_ble_eq_true rfl) (q_astore (Nat.le_of_ble_eq_true rfl) rfl (q_aload_n rfl (q_aload rfl (q_iload_n rfl (q_iload_n rfl (q_iload rfl hrr))))))) ?_
  obtain ⟨mm4, pp5, hV6, rfl, rfl⟩ := t_X9_goBackL (S := S) (fz := fz) (m := m) (p := p) (d := d) (by omega) (117 + 12 * s) (n) (q) (r) (l) hP (Or.inr ⟨s, by omega, rfl⟩) hm (by omega) (by omega) (by omega) (by omega) (by omega) (by omega)
  refine rw_end (q_invVx hV6 (by decide) (show SH 1 = (17, 0) from rfl) rfl rfl (okar_cons rfl (okar_cons rfl (okar_cons rfl (okar_cons rfl okar_nil)))) (Nat.le_of_ble_eq_true rfl)) ?_
  rw [hQ]
  refine ⟨_, _, rfl, ?_⟩
  exact ⟨rfl, rfl⟩
