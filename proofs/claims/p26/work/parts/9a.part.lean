/-! THE LAW's numbers from the script, and any act. -/
theorem andP (x : Int32) : ∃ w : Nat, w < 2147483648 ∧ (x &&& iI 2147483647) = iI (w : Int) := by
  refine ⟨(x &&& iI 2147483647).toBitVec.toNat, ?_, ?_⟩
  · have e : (x &&& iI 2147483647).toBitVec.toNat = x.toBitVec.toNat &&& 2147483647 := by
      rw [Int32.toBitVec_and, BitVec.toNat_and]
      rfl
    rw [e]
    have := Nat.and_le_right (n := x.toBitVec.toNat) (m := 2147483647)
    omega
  · apply Int32.toBitVec_inj.mp
    show _ = (Int32.ofInt _).toBitVec
    rw [Int32.toBitVec_ofInt]
    apply BitVec.eq_of_toNat_eq
    rw [BitVec.toNat_ofInt]
    have := (x &&& iI 2147483647).toBitVec.isLt
    omega
section
variable {C : Nat → List Value → MH → Res → Prop} {k : Nat} {r : Res} {pc x y z : Nat} {is : List Ent} {lv : List (Option Value)} {st : List Value} {c s L : Nat} {xs : Nat → Int32} {X : MC} {m : M1} {p : M2} {K : Nat} {sh : Nat → Nat} {n : N2}
theorem hB_0 : (hB X m p K sh n).2.2 0 = some X := by
  have key : ∀ a, a = 0 → (hB X m p K sh n).2.2 a = some X := fun a ha => by
    show (if 1 ≤ a ∧ a ≤ 260 then _ else gB X sh n a) = _
    rw [if_neg (by omega)]
    unfold gB
    exact if_pos ha
  exact key 0 rfl
theorem q_ald0 {j : Nat} {e : Int} (hX : X = mI L xs) (hj : e = (j : Int)) (hl : j < L) (hL : L ≤ 260) (nn : Rn C k (pc + 1, is, lv, .int (iI (xs j).toInt) :: st, hB X m p K sh n, c, s) r) : Rn C k (pc, (.iaload, 1, x, y, z) :: is, lv, .int (iI e) :: .ref 0 :: st, hB X m p K sh n, c, s) r := rn_next (by
  subst hj
  subst hX
  show s_iald (pc + 1) is lv (.int (iI (j : Int)) :: .ref 0 :: st) (hB (mI L xs) m p K sh n) c s = _
  unfold s_iald
  simp only [hB_0]
  rw [if_neg (iI_in hl (by omega)), iI_clamp (by omega), iI_of]
  rfl) nn
theorem q_alen0 (hX : X = mI L xs) (nn : Rn C k (pc + 1, is, lv, .int (iI (L : Int)) :: st, hB X m p K sh n, c, s) r) : Rn C k (pc, (.arraylength, 1, x, y, z) :: is, lv, .ref 0 :: st, hB X m p K sh n, c, s) r := rn_next (by
  subst hX
  show s_alen (pc + 1) is lv (.ref 0 :: st) (hB (mI L xs) m p K sh n) c s = _
  unfold s_alen
  simp only [hB_0]
  rfl) nn
end
theorem c_L_isAct {d : Nat} {X : MC} {m : M1} {p : M2} {K : Nat} {sh : Nat → Nat} {nn : N2} (hd : 11 ≤ d) (hK : 260 ≤ K) (w : Nat) (hw : w ≤ 9) (rp ur gg one two k cp ci : Nat) (N : Nat → Nat) (hC0 : CI k N cp ci m p) (hpr : Ro K sh rp 32) (hur : Ro K sh ur 20) (hgr : Ro K sh gg 3) (hrg : rp ≠ gg) (hug : ur ≠ gg) (hru : rp ≠ ur) (hLR : LR rp ur gg k cp ci m nn) (h1 : one < 60000) (h2 : two < 60000) (hk1 : w = 0 ∨ 1 ≤ k) : Lc d k_L_isAct X [.ref 1, .ref rp, .ref ur, .ref gg, .int (iI ((w : Nat) : Int)), .int (iI ((one : Nat) : Int)), .int (iI ((two : Nat) : Int))] m p K sh nn (fun v m' p' K' sh' n' => v = some (.int (iI 1)) ∧ ∃ k' cp' ci', ∃ N' : Nat → Nat, k ≤ k' ∧ (w = 0 → 1 ≤ two % 6 ∧ two % 6 ≤ 4 ∧ k < 12 → 1 ≤ k') ∧ CI k' N' cp' ci' m' p' ∧ LR rp ur gg k' cp' ci' m' n') := by
  rcases (show w = 0 ∨ w = 1 ∨ w = 2 ∨ w = 3 ∨ w = 4 ∨ w = 5 ∨ w = 6 ∨ w = 7 ∨ w = 8 ∨ w = 9 by omega) with rfl | rfl | rfl | rfl | rfl | rfl | rfl | rfl | rfl | rfl
  · exact Lc_mono (c_L_isAct0 hd hK rp ur gg one two k cp ci N hC0 hpr hur hgr hrg hug hru hLR h1 h2) (fun v m' p' K' sh' n' _ _ q => by
      obtain ⟨e, k', cp', ci', N', a1, a2, a3, a4⟩ := q
      exact ⟨e, k', cp', ci', N', a1, fun _ => a2, a3, a4⟩)
  · exact Lc_mono (c_L_isAct1 hd hK rp ur gg one two k cp ci N hC0 hpr hur hgr hrg hug hru hLR h1 h2 (by omega)) (fun v m' p' K' sh' n' _ _ q => by
      obtain ⟨e, k', cp', ci', N', a1, a3, a4⟩ := q
      exact ⟨e, k', cp', ci', N', a1, fun h => absurd h (by omega), a3, a4⟩)
  · exact Lc_mono (c_L_isAct2 hd hK rp ur gg one two k cp ci N hC0 hpr hur hgr hrg hug hru hLR h1 h2 (by omega)) (fun v m' p' K' sh' n' _ _ q => by
      obtain ⟨e, k', cp', ci', N', a1, a3, a4⟩ := q
      exact ⟨e, k', cp', ci', N', a1, fun h => absurd h (by omega), a3, a4⟩)
  · exact Lc_mono (c_L_isAct3 hd hK rp ur gg one two k cp ci N hC0 hpr hur hgr hrg hug hru hLR h1 h2 (by omega)) (fun v m' p' K' sh' n' _ _ q => by
      obtain ⟨e, k', cp', ci', N', a1, a3, a4⟩ := q
      exact ⟨e, k', cp', ci', N', a1, fun h => absurd h (by omega), a3, a4⟩)
  · exact Lc_mono (c_L_isAct4 hd hK rp ur gg one two k cp ci N hC0 hpr hur hgr hrg hug hru hLR h1 h2 (by omega)) (fun v m' p' K' sh' n' _ _ q => by
      obtain ⟨e, k', cp', ci', N', a1, a3, a4⟩ := q
      exact ⟨e, k', cp', ci', N', a1, fun h => absurd h (by omega), a3, a4⟩)
  · exact Lc_mono (c_L_isAct5 hd hK rp ur gg one two k cp ci N hC0 hpr hur hgr hrg hug hru hLR h1 h2 (by omega)) (fun v m' p' K' sh' n' _ _ q => by
      obtain ⟨e, k', cp', ci', N', a1, a3, a4⟩ := q
      exact ⟨e, k', cp', ci', N', a1, fun h => absurd h (by omega), a3, a4⟩)
  · exact Lc_mono (c_L_isAct6 hd hK rp ur gg one two k cp ci N hC0 hpr hur hgr hrg hug hru hLR h1 h2 (by omega)) (fun v m' p' K' sh' n' _ _ q => by
      obtain ⟨e, k', cp', ci', N', a1, a3, a4⟩ := q
      exact ⟨e, k', cp', ci', N', a1, fun h => absurd h (by omega), a3, a4⟩)
  · exact Lc_mono (c_L_isAct7 hd hK rp ur gg one two k cp ci N hC0 hpr hur hgr hrg hug hru hLR h1 h2 (by omega)) (fun v m' p' K' sh' n' _ _ q => by
      obtain ⟨e, k', cp', ci', N', a1, a3, a4⟩ := q
      exact ⟨e, k', cp', ci', N', a1, fun h => absurd h (by omega), a3, a4⟩)
  · exact Lc_mono (c_L_isAct8 hd hK rp ur gg one two k cp ci N hC0 hpr hur hgr hrg hug hru hLR h1 h2 (by omega)) (fun v m' p' K' sh' n' _ _ q => by
      obtain ⟨e, k', cp', ci', N', a1, a3, a4⟩ := q
      exact ⟨e, k', cp', ci', N', a1, fun h => absurd h (by omega), a3, a4⟩)
  · exact Lc_mono (c_L_isAct9 hd hK rp ur gg one two k cp ci N hC0 hpr hur hgr hrg hug hru hLR h1 h2 (by omega)) (fun v m' p' K' sh' n' _ _ q => by
      obtain ⟨e, k', cp', ci', N', a1, a3, a4⟩ := q
      exact ⟨e, k', cp', ci', N', a1, fun h => absurd h (by omega), a3, a4⟩)
theorem c_L_part {d : Nat} {X : MC} {m : M1} {p : M2} {K : Nat} {sh : Nat → Nat} {nn : N2} (hd : 1 ≤ d) (hK : 260 ≤ K) (L k n : Nat) (xs : Nat → Int32) (hX : X = mI L xs) (hL : L ≤ 260) (hk : k < 1000) (hn : 0 < n ∧ n ≤ 60000) : Lc d k_L_part X [.ref (0), .int (iI (((k : Nat) : Int))), .int (iI (((n : Nat) : Int)))] m p K sh nn (fun v m' p' K' sh' n' => ∃ j : Nat, j < n ∧ v = some (.int (iI ((j : Nat) : Int))) ∧ m = m' ∧ p = p' ∧ K = K' ∧ nn = n' ∧ sh = sh') := by
  obtain ⟨d, rfl⟩ : ∃ e, d = e + 1 := ⟨d - 1, by omega⟩
  refine lc_go (lv := [some (.ref (0)), some (.int (iI (((k : Nat) : Int)))), some (.int (iI (((n : Nat) : Int)))), none]) (B := 0) (Nat.le_of_ble_eq_true rfl) (okar_cons rfl (okar_cons rfl (okar_cons rfl okar_nil))) rfl rfl (fun Qr hQ => ?_)
  refine rw_blk lk_L_part_0 ?_
  refine rw_of (fun rr hrr => q_iload_n rfl (q_aload_n rfl (q_alen0 hX hrr))) ?_
  have hL25 : ∀ (cc ss : Nat) (y9 : Int) (x25_3 : Option Value), Rw (Ev d) k_L_part (25, [], [some (.ref (0)), some (.int (iI (((k : Nat) : Int)))), some (.int (iI (((n : Nat) : Int)))), x25_3], [.int (iI (y9))], hB X m p K sh nn, cc, ss) Qr := by
    intro cc ss y9 x25_3
    refine rw_blk lk_L_part_25 ?_
    refine rw_of (fun rr hrr => q_istore_n (Nat.le_of_ble_eq_true rfl) rfl hrr) ?_
    obtain ⟨w9, hw9, hw8⟩ := andP (iI y9)
    refine rw_of (fun rr hrr => q_iload_n rfl (q_ldc (v := 2147483647) rfl rfl (q_iand hw8 (q_iload_n rfl (q_irem ⟨by omega, by omega⟩ ⟨by omega, by omega⟩ (by omega) (show (((w9 : Nat) : Int)).tmod (((n : Nat) : Int)) = ((w9 % n : Nat) : Int) by rfl) hrr))))) ?_
    refine lw_end hQ (q_ireturn (Or.inl rfl)) (by omega) (by omega) FrS_rfl ?_
    exact ⟨w9 % n, Nat.mod_lt _ (by omega), rfl, rfl, rfl, rfl, rfl, rfl⟩
  refine rw_icmp_ge ⟨by omega, by omega⟩ ⟨by omega, by omega⟩ (t := 12) rfl (fun hc1 => ?_) (fun hc1 => ?_)
  · skip
    refine rw_blk lk_L_part_12 ?_
    refine rw_of (fun rr hrr => q_sipush rfl (q_iload_n rfl (q_imul (q_sipush rfl (q_iload_n rfl (q_imul (q_iload_n rfl (q_imul (q_iadd hrr))))))))) ?_
    exact rw_casts (hL25 _ _ (((937 * ((k : Nat) : Int)) + ((809 * ((k : Nat) : Int)) * ((k : Nat) : Int)))) none) rfl rfl
  · skip
    refine rw_of (fun rr hrr => q_aload_n rfl (q_iload_n rfl (q_ald0 hX (j := k) rfl (by omega) (by omega) (q_goto (t := 25) rfl hrr)))) ?_
    exact rw_casts (hL25 _ _ ((xs k).toInt) none) rfl rfl
