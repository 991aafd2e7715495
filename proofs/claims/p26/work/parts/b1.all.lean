/-! ALL together. -/
theorem PI_fin : PI pz_107 := by
  refine ⟨by decide +kernel, by decide +kernel, by unfold PL SQ; decide +kernel, by unfold PL SQ; decide +kernel, by unfold SQ; decide +kernel, by unfold SQ; decide +kernel, by decide +kernel, ⟨fun i => 22 + i, by decide +kernel, by decide +kernel, by decide +kernel, fun i hi => ⟨by show 20 + 2 ≤ 22 + i; omega, by show 22 + i < 20 + 10; omega⟩, fun i j _ _ h => by have h : 22 + i = 22 + j := h; omega⟩, ⟨fun i => 65 + i, by decide +kernel, by decide +kernel, by decide +kernel, fun i hi => ⟨by show 63 + 2 ≤ 65 + i; omega, by show 65 + i < 63 + 10; omega⟩, fun i j _ _ h => by have h : 65 + i = 65 + j := h; omega⟩, by unfold SQ; decide +kernel, by unfold SQ; decide +kernel, ⟨38, 47, by decide +kernel, by decide +kernel, Or.inl ⟨rfl, rfl⟩⟩, ⟨57, 58, by decide +kernel, by decide +kernel, Or.inl ⟨rfl, rfl⟩⟩⟩
theorem m_fin_0 {a j : Nat} (h : ¬ ((a = 3 ∨ a = 5) ∧ j = 2)) : mz_2 a j = 0 := by
  show w1 (w1 mz_0 3 2 16) 5 2 20 a j = 0
  rw [w1_ne (by omega), w1_ne (by omega)]
  rfl
theorem CI_fin : CI 0 (fun _ => 0) 0 0 mz_2 pz_107 :=
  ⟨PI_fin, by omega, by omega, by omega, m_fin_0 (by omega), m_fin_0 (by omega), by decide +kernel, m_fin_0 (by omega), by decide +kernel, fun s hs => absurd hs (Nat.not_lt_zero s), fun c h1 h2 j => m_fin_0 (by omega)⟩
theorem rst_0 {L : Nat} {xs : Nat → Int32} {M : Mem} : mh0 L xs = rst 0 (hpM (260, gB (mI L xs) (fun _ => 0) (fun _ _ => 0)) false M) := by
  unfold mh0 rst
  refine congrArg (fun f => ((0 : Nat), false, f)) (funext fun j => ?_)
  show (if j = 0 then some (mI L xs) else none) = if j ≤ 0 then (if 1 ≤ j ∧ j ≤ 260 then cellM (SH j) M j else gB (mI L xs) (fun _ => 0) (fun _ _ => 0) j) else none
  by_cases e : j = 0
  · rw [if_pos e, if_pos (by omega), if_neg (by omega)]
    unfold gB
    rw [if_pos e]
  · rw [if_neg e, if_neg (by omega)]
theorem rst_260 {X : MC} {m : M1} {p : M2} : rst 260 (hpM (260, gB X (fun _ => 0) (fun _ _ => 0)) false (m, p)) = hB X m p 260 (fun _ => 0) (fun _ _ => 0) := by
  unfold rst hB hpM
  refine congrArg (fun f => ((260 : Nat), false, f)) (funext fun j => ?_)
  show (if j ≤ 260 then (if 1 ≤ j ∧ j ≤ 260 then cellM (SH j) (m, p) j else gB X (fun _ => 0) (fun _ _ => 0) j) else none) = if 1 ≤ j ∧ j ≤ 260 then cellM (SH j) (m, p) j else gB X (fun _ => 0) (fun _ _ => 0) j
  by_cases q : j ≤ 260
  · rw [if_pos q]
  · rw [if_neg q, if_neg (by omega)]
    unfold gB
    rw [if_neg (by omega), if_pos rfl]
theorem law_start {L : Nat} {xs : Nat → Int32} (hL : L ≤ 260) : Rw (Ev 11) k_L_law (0, [], [some (.ref 0), none, none, none, none, none, none, none, none, none], [], mh0 L xs, 0, 0) (LQ (mI L xs) 260 (fun _ => 0) 9360 (fun v _ _ _ _ _ => v = some (.int (iI 1)))) := by
  rw [rst_0 (M := (mz_0, pz_0))]
  refine rw_blk lk_L_law_0 ?_
  refine rw_of (fun rr hrr => rk_new (K := 0) (by decide) rfl dz_0 (q_dup rfl (rk_inv (by decide) (iz_22 (d := 8)) rfl rfl (okar_cons rfl okar_nil) (Nat.le_of_ble_eq_true rfl) hrr))) ?_
  show Rw (Ev 11) k_L_law (_, _, _, _, rst 260 (hpM (260, gB (mI L xs) (fun _ => 0) (fun _ _ => 0)) false (mz_2, pz_107)), _, _) _
  rw [rst_260]
  exact law_go (d := 11) (Nat.le_refl _) rfl hL CI_fin _ _ _ rfl
theorem whole_start {p : Program} {e : Jvm.Env} {s : State} {m : MethodId} {below : List Frame} {meth : Method} {c : Code} (l : Launch) (hflags : l.flags = flags0) {b L : Nat} {xs : Nat → Int32} (hL : L ≤ 260) (C0 : lw_At p s m meth c b L xs) : W p l e room_1 s m #[Value.ref b] below meth c s.heap [] 0 0 (lw_Z below #[Value.ref b] s) (entryFrame m ([Value.ref b] : List Value).toArray 10) := by
  refine whole_of_run (fun L xs hL => ?_) l hflags hL C0
  obtain ⟨r, hr, v, m', p', K', sh', n', c, s, rfl, h1, h2, h3, rfl⟩ := law_start (xs := xs) hL
  obtain ⟨f, hf⟩ := id hr
  have g1 := runR_gm (Ev_gm 11) f _ _ hf
  have g2 := runR_gs (Ev_gs 11) f _ _ hf
  have e1 : K' + 0 = 0 + c := (g1.2.2 rfl).2
  have e2 : s + 100 * 0 ≤ 0 + 100 * c := g2
  exact ⟨_, c, s, by omega, by omega, hr⟩
