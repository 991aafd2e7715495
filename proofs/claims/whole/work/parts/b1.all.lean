/-! ALL together. -/
theorem PI_fin : PI pz_125 := by
  refine ⟨by decide +kernel, by decide +kernel, by unfold PL SQ; decide +kernel, by unfold PL SQ; decide +kernel, by unfold SQ; decide +kernel, by unfold SQ; decide +kernel, by decide +kernel, ⟨fun i => 22 + i, by decide +kernel, by decide +kernel, by decide +kernel, fun i hi => ⟨by show 20 + 2 ≤ 22 + i; omega, by show 22 + i < 20 + 10; omega⟩, fun i j _ _ h => by have h : 22 + i = 22 + j := h; omega⟩, ⟨fun i => 65 + i, by decide +kernel, by decide +kernel, by decide +kernel, fun i hi => ⟨by show 63 + 2 ≤ 65 + i; omega, by show 65 + i < 63 + 10; omega⟩, fun i j _ _ h => by have h : 65 + i = 65 + j := h; omega⟩, by unfold SQ; decide +kernel, by unfold SQ; decide +kernel, ⟨38, 47, by decide +kernel, by decide +kernel, Or.inl ⟨rfl, rfl⟩⟩, ⟨57, 58, by decide +kernel, by decide +kernel, Or.inl ⟨rfl, rfl⟩⟩⟩
theorem m_fin_0 {a j : Nat} (h : ¬ ((a = 3 ∨ a = 5) ∧ j = 2)) : mz_2 a j = 0 := by
  show w1 (w1 mz_0 3 2 16) 5 2 20 a j = 0
  rw [w1_ne (by omega), w1_ne (by omega)]
  rfl
theorem RX_fin : RX mz_2 := by
  refine ⟨0, 0, 0, by omega, by omega, by omega, m_fin_0 (by omega), m_fin_0 (by omega), m_fin_0 (by omega), m_fin_0 (by omega), by decide +kernel, m_fin_0 (by omega), m_fin_0 (by omega), by decide +kernel, fun i hi => absurd hi (Nat.not_lt_zero i), fun i hi => absurd hi (Nat.not_lt_zero i), fun s hs => absurd hs (Nat.not_lt_zero s), fun c h1 h2 j => m_fin_0 (by omega)⟩
theorem rst_0 {L : Nat} {xs : Nat → Int32} {M : Mem} : mh0 L xs = rst 0 (hpM (mI L xs) false M) := by
  unfold mh0 rst
  refine congrArg (fun f => ((0 : Nat), false, f)) (funext fun j => ?_)
  show (if j = 0 then some (mI L xs) else none) = if j ≤ 0 then (if j = 0 then some (mI L xs) else cellM (SH j) M j) else none
  by_cases e : j = 0
  · rw [if_pos e, if_pos (by omega), if_pos e]
  · rw [if_neg e, if_neg (by omega)]
theorem rst_280 {S : MC} {M : Mem} : rst 280 (hpM S false M) = hpM S false M := by
  unfold rst
  show ((280 : Nat), false, _) = (280, false, fun j => if j = 0 then some S else cellM (SH j) M j)
  refine congrArg (fun f => ((280 : Nat), false, f)) (funext fun j => ?_)
  show (if j ≤ 280 then (if j = 0 then some S else cellM (SH j) M j) else none) = if j = 0 then some S else cellM (SH j) M j
  by_cases q : j ≤ 280
  · rw [if_pos q]
  · have e : SH j = (0, 0) := by
      unfold SH
      rw [if_neg (by omega), if_neg (by omega), List.getD_eq_getElem?_getD, List.getElem?_eq_none (by show 20 ≤ j - 261; omega)]
      rfl
    rw [if_neg q, if_neg (by omega), e]
    rfl
theorem law_start {L : Nat} {xs : Nat → Int32} (hL : L ≤ 3072) : Rw (Ev 11) k_L_law (0, [], [some (.ref 0), none, none, none, none, none, none], [], mh0 L xs, 0, 0) (fun r => ∃ h9 c9 s9, r = (.inl (some (.int (iI 1))), h9, c9, s9) ∧ c9 ≤ 601024 ∧ s9 ≤ 7293033) := by
  rw [rst_0 (M := (mz_0, pz_0))]
  refine rw_blk lk_L_law_0 ?_
  refine rw_of (fun rr hrr => rk_new (K := 0) (by decide) rfl dz_0 (q_dup rfl (rk_inv (by decide) (iz_22 (d := 8)) rfl rfl (okar_cons rfl okar_nil) (Nat.le_of_ble_eq_true rfl) hrr))) ?_
  show Rw (Ev 11) k_L_law (_, _, _, _, rst 260 (hpM (mI L xs) false (mz_2, pz_107)), _, _) _
  refine rw_of (fun rr hrr => q_astore_n (Nat.le_of_ble_eq_true rfl) rfl (rk_new (K := 260) (by decide) rfl (Df_mono dz_110 (by decide)) (q_dup rfl (rk_inv (by decide) (iz_23 (d := 10)) rfl rfl (okar_cons rfl okar_nil) (Nat.le_of_ble_eq_true rfl) hrr)))) ?_
  show Rw (Ev 11) k_L_law (_, _, _, _, rst 279 (hpM (mI L xs) false (mz_2, pz_125)), _, _) _
  refine rw_of (fun rr hrr => q_astore_n (Nat.le_of_ble_eq_true rfl) rfl (q_iconst (rk_newaJ (K := 279) (n := 1) (by decide) rfl (Df_mono dz_129 (by decide)) (q_astore_n (Nat.le_of_ble_eq_true rfl) rfl (q_iconst (q_istore (Nat.le_of_ble_eq_true rfl) rfl hrr)))))) ?_
  show Rw (Ev 11) k_L_law (23, [], _, [], rst 280 (hpM (mI L xs) false (mz_2, pz_125)), 280, 3489) _
  rw [rst_280]
  exact law_loop hL 513 (Nat.le_refl _) false _ _ none none _ _ RX_fin PI_fin (by omega) (by omega)
theorem whole_start {p : Program} {e : Env} {s : State} {m : MethodId} {below : List Frame} {meth : Method} {c : Code} (l : Launch) (hflags : l.flags = flags0) {b L : Nat} {xs : Nat → Int32} (hL : L ≤ 3072) (C0 : lw_At p s m meth c b L xs) : W p l e room_1 s m #[Value.ref b] below meth c s.heap [] 0 0 (lw_Z below #[Value.ref b] s) (entryFrame m ([Value.ref b] : List Value).toArray 7) := by
  refine whole_of_run (fun L xs hL => ?_) l hflags hL C0
  obtain ⟨r, hr, h9, c9, s9, rfl, hc, hs⟩ := law_start (xs := xs) hL
  exact ⟨h9, c9, s9, hc, hs, hr⟩
