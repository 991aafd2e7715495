/-! THE LAW's loop. -/
section
variable {C : Nat → List Value → MH → Res → Prop} {k : Nat} {r : Res} {pc x y z : Nat} {is : List Ent} {lv : List (Option Value)} {st : List Value} {c s L : Nat} {xs : Nat → Int32} {fz : Bool} {m : M1} {p : M2}
theorem q_iald0 {j : Nat} {e : Int} (hj : e = (j : Int)) (hl : j < L) (hL : L ≤ 3072) (n : Rn C k (pc + 1, is, lv, .int (iI (xs j).toInt) :: st, hpM (mI L xs) fz (m, p), c, s) r) : Rn C k (pc, (.iaload, 1, x, y, z) :: is, lv, .int (iI e) :: .ref 0 :: st, hpM (mI L xs) fz (m, p), c, s) r := rn_next (by
  subst hj
  show s_iald (pc + 1) is lv (.int (iI (j : Int)) :: .ref 0 :: st) (hpM (mI L xs) fz (m, p)) c s = _
  have e0 : (hpM (mI L xs) fz (m, p)).2.2 0 = some (mI L xs) := by
    show (if (0 : Nat) = 0 then some (mI L xs) else cellM (SH 0) (m, p) 0) = _
    exact if_pos rfl
  unfold s_iald
  simp only [e0]
  rw [if_neg (iI_in hl (by omega)), iI_clamp (by omega), iI_of]
  rfl) n
theorem q_alen0 (n : Rn C k (pc + 1, is, lv, .int (iI (L : Int)) :: st, hpM (mI L xs) fz (m, p), c, s) r) : Rn C k (pc, (.arraylength, 1, x, y, z) :: is, lv, .ref 0 :: st, hpM (mI L xs) fz (m, p), c, s) r := rn_next (by
  show s_alen (pc + 1) is lv (.ref 0 :: st) (hpM (mI L xs) fz (m, p)) c s = _
  have e0 : (hpM (mI L xs) fz (m, p)).2.2 0 = some (mI L xs) := by
    show (if (0 : Nat) = 0 then some (mI L xs) else cellM (SH 0) (m, p) 0) = _
    exact if_pos rfl
  unfold s_alen
  simp only [e0]
  rfl) n
end
theorem and31 (x : Int32) : ∃ w : Nat, w < 32 ∧ (x &&& iI 31) = iI (w : Int) := by
  refine ⟨(x &&& iI 31).toBitVec.toNat, ?_, ?_⟩
  · have e : (x &&& iI 31).toBitVec.toNat = x.toBitVec.toNat &&& 31 := by
      rw [Int32.toBitVec_and, BitVec.toNat_and]
      rfl
    rw [e]
    have := Nat.and_le_right (n := x.toBitVec.toNat) (m := 31)
    omega
  · apply Int32.toBitVec_inj.mp
    show _ = (Int32.ofInt _).toBitVec
    rw [Int32.toBitVec_ofInt]
    apply BitVec.eq_of_toNat_eq
    rw [BitVec.toNat_ofInt]
    have := (x &&& iI 31).toBitVec.isLt
    omega
theorem lg_same (x : Int64) : lg_cmp x x = iI 0 := (lg_cmp_eq x x).mpr rfl
theorem lc_0 {L : Nat} {xs : Nat → Int32} {fz : Bool} {m : M1} {p : M2} {i c s : Nat} {x5 x6 : Option Value} {Q : Res → Prop} (hi : i + 5 < L) (hL : L ≤ 3072) (h : SM (mI L xs) [.ref 1, .int (iI (xs (i + 1)).toInt), .ref 280] [.ref 261, .int (iI (xs (i + 1)).toInt)] k_L_system k_X10_system fz m p) (hn : ∀ fz1 m1 p1 y5 y6 c1 s1, c1 ≤ 1 → s1 ≤ 6 → RX m1 → PI p1 → Rw (Ev 11) k_L_law (1741, [], [some (.ref 0), some (.ref 1), some (.ref 261), some (.ref 280), some (.int (iI (((i : Nat) : Int)))), y5, y6], [], hpM (mI L xs) fz1 (m1, p1), c + c1, s + s1) Q) : Rw (Ev 11) k_L_law (148, [], [some (.ref 0), some (.ref 1), some (.ref 261), some (.ref 280), some (.int (iI (((i : Nat) : Int)))), x5, x6], [], hpM (mI L xs) fz (m, p), c, s) Q := by
  obtain ⟨w, b, m1, p1, m2, fz1, c1, s1, hE1, hc1, hs1, hw, hE2, hbr, ht, hbe, hR, hP⟩ := h
  obtain ⟨v3, m3, p3, hE3, rfl, rfl, rfl⟩ := c_X10_thrown (d := 11) (S := mI L xs) (fz := fz1) (m := m2) (p := p1) (by omega) w hP ht (by omega)
  have hwr : rg (w : Int) := ⟨by omega, by omega⟩
  refine rw_blk lk_L_law_148 ?_
  refine rw_of (fun rr hrr => q_aload_n rfl (q_aload_n rfl (q_iload rfl (q_iconst (q_iadd (q_iald0 (j := i + 1) (by omega) (by omega) hL (q_aload_n rfl (q_invS hE1 rfl rfl (okar_cons rfl (okar_cons rfl (okar_cons rfl okar_nil))) (Nat.le_of_ble_eq_true rfl) (q_istore (Nat.le_of_ble_eq_true rfl) rfl (q_aload_n rfl (q_aload_n rfl (q_iload rfl (q_iconst (q_iadd (q_iald0 (j := i + 1) (by omega) (by omega) hL (q_invV hE2 (show SH 261 = (18, 0) from rfl) rfl rfl (okar_cons rfl okar_nil) (Nat.le_of_ble_eq_true rfl) (q_istore (Nat.le_of_ble_eq_true rfl) rfl (q_aload_n rfl (q_invV hE3 (show SH 261 = (18, 0) from rfl) rfl rfl okar_nil (Nat.le_of_ble_eq_true rfl) (q_iload rfl hrr)))))))))))))))))))) ?_
  refine rw_icmp_eq hwr hwr (t := 184) rfl (fun _ => ?_) (fun hc => absurd rfl hc)
  refine rw_blk lk_L_law_184 ?_
  refine rw_of (fun rr hrr => q_iload rfl hrr) ?_
  have hjoin : Rw (Ev 11) k_L_law (201, [], [some (.ref 0), some (.ref 1), some (.ref 261), some (.ref 280), some (.int (iI (((i : Nat) : Int)))), some (.int (iI (w : Int))), some (.int (iI b))], [], hpM (mI L xs) fz1 (m2, p1), c + c1, s + s1) Q := by
    refine rw_blk lk_L_law_201 ?_
    exact rw_of (fun rr hrr => q_goto (t := 1741) rfl hrr) (hn _ _ _ _ _ _ _ hc1 hs1 hR hP)
  refine rw_if_ne hwr (t := 201) rfl (fun _ => hjoin) (fun hc => ?_)
  have hw0 : w = 0 := (by omega)
  have hbv := hbe hw0
  subst hbv
  refine rw_of (fun rr hrr => q_aload_n rfl (q_iconst (q_lald (j := 0) (w := 1) (show SH 280 = (2, 1) from rfl) rfl Nat.zero_lt_one (q_iload rfl (q_i2l hrr))))) ?_
  refine rw_of (fun rr hrr => q_lcmp hrr) ?_
  rw [lg_same]
  refine rw_if_eq ⟨by omega, by omega⟩ (t := 201) rfl (fun _ => hjoin) (fun hc => absurd rfl hc)
theorem lc_1 {L : Nat} {xs : Nat → Int32} {fz : Bool} {m : M1} {p : M2} {i c s : Nat} {x5 x6 : Option Value} {Q : Res → Prop} (hi : i + 5 < L) (hL : L ≤ 3072) (h : SM (mI L xs) [.ref 1, .int (iI (xs (i + 1)).toInt), .int (iI (xs (i + 2)).toInt), .int (iI (xs (i + 3)).toInt), .int (iI (xs (i + 4)).toInt), .int (iI (xs (i + 5)).toInt), .ref 280] [.ref 261, .int (iI (xs (i + 1)).toInt), .int (iI (xs (i + 2)).toInt), .int (iI (xs (i + 3)).toInt), .int (iI (xs (i + 4)).toInt), .int (iI (xs (i + 5)).toInt)] k_L_set k_X10_set fz m p) (hn : ∀ fz1 m1 p1 y5 y6 c1 s1, c1 ≤ 1 → s1 ≤ 6 → RX m1 → PI p1 → Rw (Ev 11) k_L_law (1741, [], [some (.ref 0), some (.ref 1), some (.ref 261), some (.ref 280), some (.int (iI (((i : Nat) : Int)))), y5, y6], [], hpM (mI L xs) fz1 (m1, p1), c + c1, s + s1) Q) : Rw (Ev 11) k_L_law (204, [], [some (.ref 0), some (.ref 1), some (.ref 261), some (.ref 280), some (.int (iI (((i : Nat) : Int)))), x5, x6], [], hpM (mI L xs) fz (m, p), c, s) Q := by
  obtain ⟨w, b, m1, p1, m2, fz1, c1, s1, hE1, hc1, hs1, hw, hE2, hbr, ht, hbe, hR, hP⟩ := h
  obtain ⟨v3, m3, p3, hE3, rfl, rfl, rfl⟩ := c_X10_thrown (d := 11) (S := mI L xs) (fz := fz1) (m := m2) (p := p1) (by omega) w hP ht (by omega)
  have hwr : rg (w : Int) := ⟨by omega, by omega⟩
  refine rw_blk lk_L_law_204 ?_
  refine rw_of (fun rr hrr => q_aload_n rfl (q_aload_n rfl (q_iload rfl (q_iconst (q_iadd (q_iald0 (j := i + 1) (by omega) (by omega) hL (q_aload_n rfl (q_iload rfl (q_iconst (q_iadd (q_iald0 (j := i + 2) (by omega) (by omega) hL (q_aload_n rfl (q_iload rfl (q_iconst (q_iadd (q_iald0 (j := i + 3) (by omega) (by omega) hL (q_aload_n rfl (q_iload rfl (q_iconst (q_iadd (q_iald0 (j := i + 4) (by omega) (by omega) hL (q_aload_n rfl (q_iload rfl (q_iconst (q_iadd (q_iald0 (j := i + 5) (by omega) (by omega) hL (q_aload_n rfl (q_invS hE1 rfl rfl (okar_cons rfl (okar_cons rfl (okar_cons rfl (okar_cons rfl (okar_cons rfl (okar_cons rfl (okar_cons rfl okar_nil))))))) (Nat.le_of_ble_eq_true rfl) (q_istore (Nat.le_of_ble_eq_true rfl) rfl (q_aload_n rfl (q_aload_n rfl (q_iload rfl (q_iconst (q_iadd (q_iald0 (j := i + 1) (by omega) (by omega) hL (q_aload_n rfl (q_iload rfl (q_iconst (q_iadd (q_iald0 (j := i + 2) (by omega) (by omega) hL (q_aload_n rfl (q_iload rfl (q_iconst (q_iadd (q_iald0 (j := i + 3) (by omega) (by omega) hL (q_aload_n rfl (q_iload rfl (q_iconst (q_iadd (q_iald0 (j := i + 4) (by omega) (by omega) hL (q_aload_n rfl (q_iload rfl (q_iconst (q_iadd (q_iald0 (j := i + 5) (by omega) (by omega) hL (q_invV hE2 (show SH 261 = (18, 0) from rfl) rfl rfl (okar_cons rfl (okar_cons rfl (okar_cons rfl (okar_cons rfl (okar_cons rfl okar_nil))))) (Nat.le_of_ble_eq_true rfl) (q_istore (Nat.le_of_ble_eq_true rfl) rfl (q_aload_n rfl (q_invV hE3 (show SH 261 = (18, 0) from rfl) rfl rfl okar_nil (Nat.le_of_ble_eq_true rfl) (q_iload rfl hrr)))))))))))))))))))))))))))))))))))))))))))))))))))))))))))) ?_
  refine rw_icmp_eq hwr hwr (t := 288) rfl (fun _ => ?_) (fun hc => absurd rfl hc)
  refine rw_blk lk_L_law_288 ?_
  refine rw_of (fun rr hrr => q_iload rfl hrr) ?_
  have hjoin : Rw (Ev 11) k_L_law (305, [], [some (.ref 0), some (.ref 1), some (.ref 261), some (.ref 280), some (.int (iI (((i : Nat) : Int)))), some (.int (iI (w : Int))), some (.int (iI b))], [], hpM (mI L xs) fz1 (m2, p1), c + c1, s + s1) Q := by
    refine rw_blk lk_L_law_305 ?_
    exact rw_of (fun rr hrr => q_goto (t := 1741) rfl hrr) (hn _ _ _ _ _ _ _ hc1 hs1 hR hP)
  refine rw_if_ne hwr (t := 305) rfl (fun _ => hjoin) (fun hc => ?_)
  have hw0 : w = 0 := (by omega)
  have hbv := hbe hw0
  subst hbv
  refine rw_of (fun rr hrr => q_aload_n rfl (q_iconst (q_lald (j := 0) (w := 1) (show SH 280 = (2, 1) from rfl) rfl Nat.zero_lt_one (q_iload rfl (q_i2l hrr))))) ?_
  refine rw_of (fun rr hrr => q_lcmp hrr) ?_
  rw [lg_same]
  refine rw_if_eq ⟨by omega, by omega⟩ (t := 305) rfl (fun _ => hjoin) (fun hc => absurd rfl hc)
theorem lc_2_0 {L : Nat} {xs : Nat → Int32} {fz : Bool} {m : M1} {p : M2} {i c s : Nat} {x5 x6 : Option Value} {Q : Res → Prop} (hi : i + 5 < L) (hL : L ≤ 3072) (hb : (xs (i + 3)).toInt = 0) (h : SM (mI L xs) [.ref 1, .int (iI (xs (i + 1)).toInt), .int (iI (xs (i + 2)).toInt), .int (iI 0), .ref 280] [.ref 261, .int (iI (xs (i + 1)).toInt), .int (iI (xs (i + 2)).toInt), .int (iI 0)] k_L_join k_X10_join fz m p) (hn : ∀ fz1 m1 p1 y5 y6 c1 s1, c1 ≤ 1 → s1 ≤ 6 → RX m1 → PI p1 → Rw (Ev 11) k_L_law (1741, [], [some (.ref 0), some (.ref 1), some (.ref 261), some (.ref 280), some (.int (iI (((i : Nat) : Int)))), y5, y6], [], hpM (mI L xs) fz1 (m1, p1), c + c1, s + s1) Q) : Rw (Ev 11) k_L_law (308, [], [some (.ref 0), some (.ref 1), some (.ref 261), some (.ref 280), some (.int (iI (((i : Nat) : Int)))), x5, x6], [], hpM (mI L xs) fz (m, p), c, s) Q := by
  obtain ⟨w, b, m1, p1, m2, fz1, c1, s1, hE1, hc1, hs1, hw, hE2, hbr, ht, hbe, hR, hP⟩ := h
  obtain ⟨v3, m3, p3, hE3, rfl, rfl, rfl⟩ := c_X10_thrown (d := 11) (S := mI L xs) (fz := fz1) (m := m2) (p := p1) (by omega) w hP ht (by omega)
  have hwr : rg (w : Int) := ⟨by omega, by omega⟩
  refine rw_blk lk_L_law_308 ?_
  refine rw_of (fun rr hrr => q_aload_n rfl (q_aload_n rfl (q_iload rfl (q_iconst (q_iadd (q_iald0 (j := i + 1) (by omega) (by omega) hL (q_aload_n rfl (q_iload rfl (q_iconst (q_iadd (q_iald0 (j := i + 2) (by omega) (by omega) hL (q_aload_n rfl (q_iload rfl (q_iconst (q_iadd (q_iald0 (j := i + 3) (by omega) (by omega) hL hrr)))))))))))))))) ?_
  refine rw_if_eq (rg_of _) (t := 334) rfl (fun _ => ?_) (fun hc => absurd hb hc)
  refine rw_blk lk_L_law_334 ?_
  refine rw_of (fun rr hrr => q_iconst hrr) ?_
  refine rw_blk lk_L_law_335 ?_
  refine rw_of (fun rr hrr => q_aload_n rfl (q_invS hE1 rfl rfl (okar_cons rfl (okar_cons rfl (okar_cons rfl (okar_cons rfl (okar_cons rfl okar_nil))))) (Nat.le_of_ble_eq_true rfl) (q_istore (Nat.le_of_ble_eq_true rfl) rfl (q_aload_n rfl (q_aload_n rfl (q_iload rfl (q_iconst (q_iadd (q_iald0 (j := i + 1) (by omega) (by omega) hL (q_aload_n rfl (q_iload rfl (q_iconst (q_iadd (q_iald0 (j := i + 2) (by omega) (by omega) hL (q_aload_n rfl (q_iload rfl (q_iconst (q_iadd (q_iald0 (j := i + 3) (by omega) (by omega) hL hrr))))))))))))))))))) ?_
  refine rw_if_eq (rg_of _) (t := 367) rfl (fun _ => ?_) (fun hc => absurd hb hc)
  refine rw_blk lk_L_law_367 ?_
  refine rw_of (fun rr hrr => q_iconst hrr) ?_
  refine rw_blk lk_L_law_368 ?_
  refine rw_of (fun rr hrr => q_invV hE2 (show SH 261 = (18, 0) from rfl) rfl rfl (okar_cons rfl (okar_cons rfl (okar_cons rfl okar_nil))) (Nat.le_of_ble_eq_true rfl) (q_istore (Nat.le_of_ble_eq_true rfl) rfl (q_aload_n rfl (q_invV hE3 (show SH 261 = (18, 0) from rfl) rfl rfl okar_nil (Nat.le_of_ble_eq_true rfl) (q_iload rfl hrr))))) ?_
  refine rw_icmp_eq hwr hwr (t := 384) rfl (fun _ => ?_) (fun hc => absurd rfl hc)
  refine rw_blk lk_L_law_384 ?_
  refine rw_of (fun rr hrr => q_iload rfl hrr) ?_
  have hjoin : Rw (Ev 11) k_L_law (401, [], [some (.ref 0), some (.ref 1), some (.ref 261), some (.ref 280), some (.int (iI (((i : Nat) : Int)))), some (.int (iI (w : Int))), some (.int (iI b))], [], hpM (mI L xs) fz1 (m2, p1), c + c1, s + s1) Q := by
    refine rw_blk lk_L_law_401 ?_
    exact rw_of (fun rr hrr => q_goto (t := 1741) rfl hrr) (hn _ _ _ _ _ _ _ hc1 hs1 hR hP)
  refine rw_if_ne hwr (t := 401) rfl (fun _ => hjoin) (fun hc => ?_)
  have hw0 : w = 0 := (by omega)
  have hbv := hbe hw0
  subst hbv
  refine rw_of (fun rr hrr => q_aload_n rfl (q_iconst (q_lald (j := 0) (w := 1) (show SH 280 = (2, 1) from rfl) rfl Nat.zero_lt_one (q_iload rfl (q_i2l hrr))))) ?_
  refine rw_of (fun rr hrr => q_lcmp hrr) ?_
  rw [lg_same]
  refine rw_if_eq ⟨by omega, by omega⟩ (t := 401) rfl (fun _ => hjoin) (fun hc => absurd rfl hc)
theorem lc_2_1 {L : Nat} {xs : Nat → Int32} {fz : Bool} {m : M1} {p : M2} {i c s : Nat} {x5 x6 : Option Value} {Q : Res → Prop} (hi : i + 5 < L) (hL : L ≤ 3072) (hb : (xs (i + 3)).toInt ≠ 0) (h : SM (mI L xs) [.ref 1, .int (iI (xs (i + 1)).toInt), .int (iI (xs (i + 2)).toInt), .int (iI 1), .ref 280] [.ref 261, .int (iI (xs (i + 1)).toInt), .int (iI (xs (i + 2)).toInt), .int (iI 1)] k_L_join k_X10_join fz m p) (hn : ∀ fz1 m1 p1 y5 y6 c1 s1, c1 ≤ 1 → s1 ≤ 6 → RX m1 → PI p1 → Rw (Ev 11) k_L_law (1741, [], [some (.ref 0), some (.ref 1), some (.ref 261), some (.ref 280), some (.int (iI (((i : Nat) : Int)))), y5, y6], [], hpM (mI L xs) fz1 (m1, p1), c + c1, s + s1) Q) : Rw (Ev 11) k_L_law (308, [], [some (.ref 0), some (.ref 1), some (.ref 261), some (.ref 280), some (.int (iI (((i : Nat) : Int)))), x5, x6], [], hpM (mI L xs) fz (m, p), c, s) Q := by
  obtain ⟨w, b, m1, p1, m2, fz1, c1, s1, hE1, hc1, hs1, hw, hE2, hbr, ht, hbe, hR, hP⟩ := h
  obtain ⟨v3, m3, p3, hE3, rfl, rfl, rfl⟩ := c_X10_thrown (d := 11) (S := mI L xs) (fz := fz1) (m := m2) (p := p1) (by omega) w hP ht (by omega)
  have hwr : rg (w : Int) := ⟨by omega, by omega⟩
  refine rw_blk lk_L_law_308 ?_
  refine rw_of (fun rr hrr => q_aload_n rfl (q_aload_n rfl (q_iload rfl (q_iconst (q_iadd (q_iald0 (j := i + 1) (by omega) (by omega) hL (q_aload_n rfl (q_iload rfl (q_iconst (q_iadd (q_iald0 (j := i + 2) (by omega) (by omega) hL (q_aload_n rfl (q_iload rfl (q_iconst (q_iadd (q_iald0 (j := i + 3) (by omega) (by omega) hL hrr)))))))))))))))) ?_
  refine rw_if_eq (rg_of _) (t := 334) rfl (fun hc => absurd hc hb) (fun _ => ?_)
  refine rw_of (fun rr hrr => q_iconst (q_goto (t := 335) rfl hrr)) ?_
  refine rw_blk lk_L_law_335 ?_
  refine rw_of (fun rr hrr => q_aload_n rfl (q_invS hE1 rfl rfl (okar_cons rfl (okar_cons rfl (okar_cons rfl (okar_cons rfl (okar_cons rfl okar_nil))))) (Nat.le_of_ble_eq_true rfl) (q_istore (Nat.le_of_ble_eq_true rfl) rfl (q_aload_n rfl (q_aload_n rfl (q_iload rfl (q_iconst (q_iadd (q_iald0 (j := i + 1) (by omega) (by omega) hL (q_aload_n rfl (q_iload rfl (q_iconst (q_iadd (q_iald0 (j := i + 2) (by omega) (by omega) hL (q_aload_n rfl (q_iload rfl (q_iconst (q_iadd (q_iald0 (j := i + 3) (by omega) (by omega) hL hrr))))))))))))))))))) ?_
  refine rw_if_eq (rg_of _) (t := 367) rfl (fun hc => absurd hc hb) (fun _ => ?_)
  refine rw_of (fun rr hrr => q_iconst (q_goto (t := 368) rfl hrr)) ?_
  refine rw_blk lk_L_law_368 ?_
  refine rw_of (fun rr hrr => q_invV hE2 (show SH 261 = (18, 0) from rfl) rfl rfl (okar_cons rfl (okar_cons rfl (okar_cons rfl okar_nil))) (Nat.le_of_ble_eq_true rfl) (q_istore (Nat.le_of_ble_eq_true rfl) rfl (q_aload_n rfl (q_invV hE3 (show SH 261 = (18, 0) from rfl) rfl rfl okar_nil (Nat.le_of_ble_eq_true rfl) (q_iload rfl hrr))))) ?_
  refine rw_icmp_eq hwr hwr (t := 384) rfl (fun _ => ?_) (fun hc => absurd rfl hc)
  refine rw_blk lk_L_law_384 ?_
  refine rw_of (fun rr hrr => q_iload rfl hrr) ?_
  have hjoin : Rw (Ev 11) k_L_law (401, [], [some (.ref 0), some (.ref 1), some (.ref 261), some (.ref 280), some (.int (iI (((i : Nat) : Int)))), some (.int (iI (w : Int))), some (.int (iI b))], [], hpM (mI L xs) fz1 (m2, p1), c + c1, s + s1) Q := by
    refine rw_blk lk_L_law_401 ?_
    exact rw_of (fun rr hrr => q_goto (t := 1741) rfl hrr) (hn _ _ _ _ _ _ _ hc1 hs1 hR hP)
  refine rw_if_ne hwr (t := 401) rfl (fun _ => hjoin) (fun hc => ?_)
  have hw0 : w = 0 := (by omega)
  have hbv := hbe hw0
  subst hbv
  refine rw_of (fun rr hrr => q_aload_n rfl (q_iconst (q_lald (j := 0) (w := 1) (show SH 280 = (2, 1) from rfl) rfl Nat.zero_lt_one (q_iload rfl (q_i2l hrr))))) ?_
  refine rw_of (fun rr hrr => q_lcmp hrr) ?_
  rw [lg_same]
  refine rw_if_eq ⟨by omega, by omega⟩ (t := 401) rfl (fun _ => hjoin) (fun hc => absurd rfl hc)
theorem lc_3 {L : Nat} {xs : Nat → Int32} {fz : Bool} {m : M1} {p : M2} {i c s : Nat} {x5 x6 : Option Value} {Q : Res → Prop} (hi : i + 5 < L) (hL : L ≤ 3072) (h : SM (mI L xs) [.ref 1, .int (iI (xs (i + 1)).toInt), .int (iI (xs (i + 2)).toInt), .ref 280] [.ref 261, .int (iI (xs (i + 1)).toInt), .int (iI (xs (i + 2)).toInt)] k_L_loop k_X10_loop fz m p) (hn : ∀ fz1 m1 p1 y5 y6 c1 s1, c1 ≤ 1 → s1 ≤ 6 → RX m1 → PI p1 → Rw (Ev 11) k_L_law (1741, [], [some (.ref 0), some (.ref 1), some (.ref 261), some (.ref 280), some (.int (iI (((i : Nat) : Int)))), y5, y6], [], hpM (mI L xs) fz1 (m1, p1), c + c1, s + s1) Q) : Rw (Ev 11) k_L_law (404, [], [some (.ref 0), some (.ref 1), some (.ref 261), some (.ref 280), some (.int (iI (((i : Nat) : Int)))), x5, x6], [], hpM (mI L xs) fz (m, p), c, s) Q := by
  obtain ⟨w, b, m1, p1, m2, fz1, c1, s1, hE1, hc1, hs1, hw, hE2, hbr, ht, hbe, hR, hP⟩ := h
  obtain ⟨v3, m3, p3, hE3, rfl, rfl, rfl⟩ := c_X10_thrown (d := 11) (S := mI L xs) (fz := fz1) (m := m2) (p := p1) (by omega) w hP ht (by omega)
  have hwr : rg (w : Int) := ⟨by omega, by omega⟩
  refine rw_blk lk_L_law_404 ?_
  refine rw_of (fun rr hrr => q_aload_n rfl (q_aload_n rfl (q_iload rfl (q_iconst (q_iadd (q_iald0 (j := i + 1) (by omega) (by omega) hL (q_aload_n rfl (q_iload rfl (q_iconst (q_iadd (q_iald0 (j := i + 2) (by omega) (by omega) hL (q_aload_n rfl (q_invS hE1 rfl rfl (okar_cons rfl (okar_cons rfl (okar_cons rfl (okar_cons rfl okar_nil)))) (Nat.le_of_ble_eq_true rfl) (q_istore (Nat.le_of_ble_eq_true rfl) rfl (q_aload_n rfl (q_aload_n rfl (q_iload rfl (q_iconst (q_iadd (q_iald0 (j := i + 1) (by omega) (by omega) hL (q_aload_n rfl (q_iload rfl (q_iconst (q_iadd (q_iald0 (j := i + 2) (by omega) (by omega) hL (q_invV hE2 (show SH 261 = (18, 0) from rfl) rfl rfl (okar_cons rfl (okar_cons rfl okar_nil)) (Nat.le_of_ble_eq_true rfl) (q_istore (Nat.le_of_ble_eq_true rfl) rfl (q_aload_n rfl (q_invV hE3 (show SH 261 = (18, 0) from rfl) rfl rfl okar_nil (Nat.le_of_ble_eq_true rfl) (q_iload rfl hrr)))))))))))))))))))))))))))))) ?_
  refine rw_icmp_eq hwr hwr (t := 452) rfl (fun _ => ?_) (fun hc => absurd rfl hc)
  refine rw_blk lk_L_law_452 ?_
  refine rw_of (fun rr hrr => q_iload rfl hrr) ?_
  have hjoin : Rw (Ev 11) k_L_law (469, [], [some (.ref 0), some (.ref 1), some (.ref 261), some (.ref 280), some (.int (iI (((i : Nat) : Int)))), some (.int (iI (w : Int))), some (.int (iI b))], [], hpM (mI L xs) fz1 (m2, p1), c + c1, s + s1) Q := by
    refine rw_blk lk_L_law_469 ?_
    exact rw_of (fun rr hrr => q_goto (t := 1741) rfl hrr) (hn _ _ _ _ _ _ _ hc1 hs1 hR hP)
  refine rw_if_ne hwr (t := 469) rfl (fun _ => hjoin) (fun hc => ?_)
  have hw0 : w = 0 := (by omega)
  have hbv := hbe hw0
  subst hbv
  refine rw_of (fun rr hrr => q_aload_n rfl (q_iconst (q_lald (j := 0) (w := 1) (show SH 280 = (2, 1) from rfl) rfl Nat.zero_lt_one (q_iload rfl (q_i2l hrr))))) ?_
  refine rw_of (fun rr hrr => q_lcmp hrr) ?_
  rw [lg_same]
  refine rw_if_eq ⟨by omega, by omega⟩ (t := 469) rfl (fun _ => hjoin) (fun hc => absurd rfl hc)
theorem lc_4 {L : Nat} {xs : Nat → Int32} {fz : Bool} {m : M1} {p : M2} {i c s : Nat} {x5 x6 : Option Value} {Q : Res → Prop} (hi : i + 5 < L) (hL : L ≤ 3072) (h : SM (mI L xs) [.ref 1, .int (iI (xs (i + 1)).toInt), .ref 280] [.ref 261, .int (iI (xs (i + 1)).toInt)] k_L_pole k_X10_pole fz m p) (hn : ∀ fz1 m1 p1 y5 y6 c1 s1, c1 ≤ 1 → s1 ≤ 6 → RX m1 → PI p1 → Rw (Ev 11) k_L_law (1741, [], [some (.ref 0), some (.ref 1), some (.ref 261), some (.ref 280), some (.int (iI (((i : Nat) : Int)))), y5, y6], [], hpM (mI L xs) fz1 (m1, p1), c + c1, s + s1) Q) : Rw (Ev 11) k_L_law (472, [], [some (.ref 0), some (.ref 1), some (.ref 261), some (.ref 280), some (.int (iI (((i : Nat) : Int)))), x5, x6], [], hpM (mI L xs) fz (m, p), c, s) Q := by
  obtain ⟨w, b, m1, p1, m2, fz1, c1, s1, hE1, hc1, hs1, hw, hE2, hbr, ht, hbe, hR, hP⟩ := h
  obtain ⟨v3, m3, p3, hE3, rfl, rfl, rfl⟩ := c_X10_thrown (d := 11) (S := mI L xs) (fz := fz1) (m := m2) (p := p1) (by omega) w hP ht (by omega)
  have hwr : rg (w : Int) := ⟨by omega, by omega⟩
  refine rw_blk lk_L_law_472 ?_
  refine rw_of (fun rr hrr => q_aload_n rfl (q_aload_n rfl (q_iload rfl (q_iconst (q_iadd (q_iald0 (j := i + 1) (by omega) (by omega) hL (q_aload_n rfl (q_invS hE1 rfl rfl (okar_cons rfl (okar_cons rfl (okar_cons rfl okar_nil))) (Nat.le_of_ble_eq_true rfl) (q_istore (Nat.le_of_ble_eq_true rfl) rfl (q_aload_n rfl (q_aload_n rfl (q_iload rfl (q_iconst (q_iadd (q_iald0 (j := i + 1) (by omega) (by omega) hL (q_invV hE2 (show SH 261 = (18, 0) from rfl) rfl rfl (okar_cons rfl okar_nil) (Nat.le_of_ble_eq_true rfl) (q_istore (Nat.le_of_ble_eq_true rfl) rfl (q_aload_n rfl (q_invV hE3 (show SH 261 = (18, 0) from rfl) rfl rfl okar_nil (Nat.le_of_ble_eq_true rfl) (q_iload rfl hrr)))))))))))))))))))) ?_
  refine rw_icmp_eq hwr hwr (t := 508) rfl (fun _ => ?_) (fun hc => absurd rfl hc)
  refine rw_blk lk_L_law_508 ?_
  refine rw_of (fun rr hrr => q_iload rfl hrr) ?_
  have hjoin : Rw (Ev 11) k_L_law (525, [], [some (.ref 0), some (.ref 1), some (.ref 261), some (.ref 280), some (.int (iI (((i : Nat) : Int)))), some (.int (iI (w : Int))), some (.int (iI b))], [], hpM (mI L xs) fz1 (m2, p1), c + c1, s + s1) Q := by
    refine rw_blk lk_L_law_525 ?_
    exact rw_of (fun rr hrr => q_goto (t := 1741) rfl hrr) (hn _ _ _ _ _ _ _ hc1 hs1 hR hP)
  refine rw_if_ne hwr (t := 525) rfl (fun _ => hjoin) (fun hc => ?_)
  have hw0 : w = 0 := (by omega)
  have hbv := hbe hw0
  subst hbv
  refine rw_of (fun rr hrr => q_aload_n rfl (q_iconst (q_lald (j := 0) (w := 1) (show SH 280 = (2, 1) from rfl) rfl Nat.zero_lt_one (q_iload rfl (q_i2l hrr))))) ?_
  refine rw_of (fun rr hrr => q_lcmp hrr) ?_
  rw [lg_same]
  refine rw_if_eq ⟨by omega, by omega⟩ (t := 525) rfl (fun _ => hjoin) (fun hc => absurd rfl hc)
theorem lc_5 {L : Nat} {xs : Nat → Int32} {fz : Bool} {m : M1} {p : M2} {i c s : Nat} {x5 x6 : Option Value} {Q : Res → Prop} (hi : i + 5 < L) (hL : L ≤ 3072) (h : SM (mI L xs) [.ref 1, .int (iI (xs (i + 1)).toInt), .ref 280] [.ref 261, .int (iI (xs (i + 1)).toInt)] k_L_input k_X10_input fz m p) (hn : ∀ fz1 m1 p1 y5 y6 c1 s1, c1 ≤ 1 → s1 ≤ 6 → RX m1 → PI p1 → Rw (Ev 11) k_L_law (1741, [], [some (.ref 0), some (.ref 1), some (.ref 261), some (.ref 280), some (.int (iI (((i : Nat) : Int)))), y5, y6], [], hpM (mI L xs) fz1 (m1, p1), c + c1, s + s1) Q) : Rw (Ev 11) k_L_law (528, [], [some (.ref 0), some (.ref 1), some (.ref 261), some (.ref 280), some (.int (iI (((i : Nat) : Int)))), x5, x6], [], hpM (mI L xs) fz (m, p), c, s) Q := by
  obtain ⟨w, b, m1, p1, m2, fz1, c1, s1, hE1, hc1, hs1, hw, hE2, hbr, ht, hbe, hR, hP⟩ := h
  obtain ⟨v3, m3, p3, hE3, rfl, rfl, rfl⟩ := c_X10_thrown (d := 11) (S := mI L xs) (fz := fz1) (m := m2) (p := p1) (by omega) w hP ht (by omega)
  have hwr : rg (w : Int) := ⟨by omega, by omega⟩
  refine rw_blk lk_L_law_528 ?_
  refine rw_of (fun rr hrr => q_aload_n rfl (q_aload_n rfl (q_iload rfl (q_iconst (q_iadd (q_iald0 (j := i + 1) (by omega) (by omega) hL (q_aload_n rfl (q_invS hE1 rfl rfl (okar_cons rfl (okar_cons rfl (okar_cons rfl okar_nil))) (Nat.le_of_ble_eq_true rfl) (q_istore (Nat.le_of_ble_eq_true rfl) rfl (q_aload_n rfl (q_aload_n rfl (q_iload rfl (q_iconst (q_iadd (q_iald0 (j := i + 1) (by omega) (by omega) hL (q_invV hE2 (show SH 261 = (18, 0) from rfl) rfl rfl (okar_cons rfl okar_nil) (Nat.le_of_ble_eq_true rfl) (q_istore (Nat.le_of_ble_eq_true rfl) rfl (q_aload_n rfl (q_invV hE3 (show SH 261 = (18, 0) from rfl) rfl rfl okar_nil (Nat.le_of_ble_eq_true rfl) (q_iload rfl hrr)))))))))))))))))))) ?_
  refine rw_icmp_eq hwr hwr (t := 564) rfl (fun _ => ?_) (fun hc => absurd rfl hc)
  refine rw_blk lk_L_law_564 ?_
  refine rw_of (fun rr hrr => q_iload rfl hrr) ?_
  have hjoin : Rw (Ev 11) k_L_law (581, [], [some (.ref 0), some (.ref 1), some (.ref 261), some (.ref 280), some (.int (iI (((i : Nat) : Int)))), some (.int (iI (w : Int))), some (.int (iI b))], [], hpM (mI L xs) fz1 (m2, p1), c + c1, s + s1) Q := by
    refine rw_blk lk_L_law_581 ?_
    exact rw_of (fun rr hrr => q_goto (t := 1741) rfl hrr) (hn _ _ _ _ _ _ _ hc1 hs1 hR hP)
  refine rw_if_ne hwr (t := 581) rfl (fun _ => hjoin) (fun hc => ?_)
  have hw0 : w = 0 := (by omega)
  have hbv := hbe hw0
  subst hbv
  refine rw_of (fun rr hrr => q_aload_n rfl (q_iconst (q_lald (j := 0) (w := 1) (show SH 280 = (2, 1) from rfl) rfl Nat.zero_lt_one (q_iload rfl (q_i2l hrr))))) ?_
  refine rw_of (fun rr hrr => q_lcmp hrr) ?_
  rw [lg_same]
  refine rw_if_eq ⟨by omega, by omega⟩ (t := 581) rfl (fun _ => hjoin) (fun hc => absurd rfl hc)
theorem lc_7 {L : Nat} {xs : Nat → Int32} {fz : Bool} {m : M1} {p : M2} {i c s : Nat} {x5 x6 : Option Value} {Q : Res → Prop} (hi : i + 5 < L) (hL : L ≤ 3072) (h : SM (mI L xs) [.ref 1, .int (iI (xs (i + 1)).toInt), .ref 280] [.ref 261, .int (iI (xs (i + 1)).toInt)] k_L_placed k_X10_placed fz m p) (hn : ∀ fz1 m1 p1 y5 y6 c1 s1, c1 ≤ 1 → s1 ≤ 6 → RX m1 → PI p1 → Rw (Ev 11) k_L_law (1741, [], [some (.ref 0), some (.ref 1), some (.ref 261), some (.ref 280), some (.int (iI (((i : Nat) : Int)))), y5, y6], [], hpM (mI L xs) fz1 (m1, p1), c + c1, s + s1) Q) : Rw (Ev 11) k_L_law (597, [], [some (.ref 0), some (.ref 1), some (.ref 261), some (.ref 280), some (.int (iI (((i : Nat) : Int)))), x5, x6], [], hpM (mI L xs) fz (m, p), c, s) Q := by
  obtain ⟨w, b, m1, p1, m2, fz1, c1, s1, hE1, hc1, hs1, hw, hE2, hbr, ht, hbe, hR, hP⟩ := h
  obtain ⟨v3, m3, p3, hE3, rfl, rfl, rfl⟩ := c_X10_thrown (d := 11) (S := mI L xs) (fz := fz1) (m := m2) (p := p1) (by omega) w hP ht (by omega)
  have hwr : rg (w : Int) := ⟨by omega, by omega⟩
  refine rw_blk lk_L_law_597 ?_
  refine rw_of (fun rr hrr => q_aload_n rfl (q_aload_n rfl (q_iload rfl (q_iconst (q_iadd (q_iald0 (j := i + 1) (by omega) (by omega) hL (q_aload_n rfl (q_invS hE1 rfl rfl (okar_cons rfl (okar_cons rfl (okar_cons rfl okar_nil))) (Nat.le_of_ble_eq_true rfl) (q_istore (Nat.le_of_ble_eq_true rfl) rfl (q_aload_n rfl (q_aload_n rfl (q_iload rfl (q_iconst (q_iadd (q_iald0 (j := i + 1) (by omega) (by omega) hL (q_invV hE2 (show SH 261 = (18, 0) from rfl) rfl rfl (okar_cons rfl okar_nil) (Nat.le_of_ble_eq_true rfl) (q_istore (Nat.le_of_ble_eq_true rfl) rfl (q_aload_n rfl (q_invV hE3 (show SH 261 = (18, 0) from rfl) rfl rfl okar_nil (Nat.le_of_ble_eq_true rfl) (q_iload rfl hrr)))))))))))))))))))) ?_
  refine rw_icmp_eq hwr hwr (t := 633) rfl (fun _ => ?_) (fun hc => absurd rfl hc)
  refine rw_blk lk_L_law_633 ?_
  refine rw_of (fun rr hrr => q_iload rfl hrr) ?_
  have hjoin : Rw (Ev 11) k_L_law (650, [], [some (.ref 0), some (.ref 1), some (.ref 261), some (.ref 280), some (.int (iI (((i : Nat) : Int)))), some (.int (iI (w : Int))), some (.int (iI b))], [], hpM (mI L xs) fz1 (m2, p1), c + c1, s + s1) Q := by
    refine rw_blk lk_L_law_650 ?_
    exact rw_of (fun rr hrr => q_goto (t := 1741) rfl hrr) (hn _ _ _ _ _ _ _ hc1 hs1 hR hP)
  refine rw_if_ne hwr (t := 650) rfl (fun _ => hjoin) (fun hc => ?_)
  have hw0 : w = 0 := (by omega)
  have hbv := hbe hw0
  subst hbv
  refine rw_of (fun rr hrr => q_aload_n rfl (q_iconst (q_lald (j := 0) (w := 1) (show SH 280 = (2, 1) from rfl) rfl Nat.zero_lt_one (q_iload rfl (q_i2l hrr))))) ?_
  refine rw_of (fun rr hrr => q_lcmp hrr) ?_
  rw [lg_same]
  refine rw_if_eq ⟨by omega, by omega⟩ (t := 650) rfl (fun _ => hjoin) (fun hc => absurd rfl hc)
theorem lc_8 {L : Nat} {xs : Nat → Int32} {fz : Bool} {m : M1} {p : M2} {i c s : Nat} {x5 x6 : Option Value} {Q : Res → Prop} (hi : i + 5 < L) (hL : L ≤ 3072) (h : SM (mI L xs) [.ref 1, .int (iI (xs (i + 1)).toInt), .ref 280] [.ref 261, .int (iI (xs (i + 1)).toInt)] k_L_joined k_X10_joined fz m p) (hn : ∀ fz1 m1 p1 y5 y6 c1 s1, c1 ≤ 1 → s1 ≤ 6 → RX m1 → PI p1 → Rw (Ev 11) k_L_law (1741, [], [some (.ref 0), some (.ref 1), some (.ref 261), some (.ref 280), some (.int (iI (((i : Nat) : Int)))), y5, y6], [], hpM (mI L xs) fz1 (m1, p1), c + c1, s + s1) Q) : Rw (Ev 11) k_L_law (653, [], [some (.ref 0), some (.ref 1), some (.ref 261), some (.ref 280), some (.int (iI (((i : Nat) : Int)))), x5, x6], [], hpM (mI L xs) fz (m, p), c, s) Q := by
  obtain ⟨w, b, m1, p1, m2, fz1, c1, s1, hE1, hc1, hs1, hw, hE2, hbr, ht, hbe, hR, hP⟩ := h
  obtain ⟨v3, m3, p3, hE3, rfl, rfl, rfl⟩ := c_X10_thrown (d := 11) (S := mI L xs) (fz := fz1) (m := m2) (p := p1) (by omega) w hP ht (by omega)
  have hwr : rg (w : Int) := ⟨by omega, by omega⟩
  refine rw_blk lk_L_law_653 ?_
  refine rw_of (fun rr hrr => q_aload_n rfl (q_aload_n rfl (q_iload rfl (q_iconst (q_iadd (q_iald0 (j := i + 1) (by omega) (by omega) hL (q_aload_n rfl (q_invS hE1 rfl rfl (okar_cons rfl (okar_cons rfl (okar_cons rfl okar_nil))) (Nat.le_of_ble_eq_true rfl) (q_istore (Nat.le_of_ble_eq_true rfl) rfl (q_aload_n rfl (q_aload_n rfl (q_iload rfl (q_iconst (q_iadd (q_iald0 (j := i + 1) (by omega) (by omega) hL (q_invV hE2 (show SH 261 = (18, 0) from rfl) rfl rfl (okar_cons rfl okar_nil) (Nat.le_of_ble_eq_true rfl) (q_istore (Nat.le_of_ble_eq_true rfl) rfl (q_aload_n rfl (q_invV hE3 (show SH 261 = (18, 0) from rfl) rfl rfl okar_nil (Nat.le_of_ble_eq_true rfl) (q_iload rfl hrr)))))))))))))))))))) ?_
  refine rw_icmp_eq hwr hwr (t := 689) rfl (fun _ => ?_) (fun hc => absurd rfl hc)
  refine rw_blk lk_L_law_689 ?_
  refine rw_of (fun rr hrr => q_iload rfl hrr) ?_
  have hjoin : Rw (Ev 11) k_L_law (706, [], [some (.ref 0), some (.ref 1), some (.ref 261), some (.ref 280), some (.int (iI (((i : Nat) : Int)))), some (.int (iI (w : Int))), some (.int (iI b))], [], hpM (mI L xs) fz1 (m2, p1), c + c1, s + s1) Q := by
    refine rw_blk lk_L_law_706 ?_
    exact rw_of (fun rr hrr => q_goto (t := 1741) rfl hrr) (hn _ _ _ _ _ _ _ hc1 hs1 hR hP)
  refine rw_if_ne hwr (t := 706) rfl (fun _ => hjoin) (fun hc => ?_)
  have hw0 : w = 0 := (by omega)
  have hbv := hbe hw0
  subst hbv
  refine rw_of (fun rr hrr => q_aload_n rfl (q_iconst (q_lald (j := 0) (w := 1) (show SH 280 = (2, 1) from rfl) rfl Nat.zero_lt_one (q_iload rfl (q_i2l hrr))))) ?_
  refine rw_of (fun rr hrr => q_lcmp hrr) ?_
  rw [lg_same]
  refine rw_if_eq ⟨by omega, by omega⟩ (t := 706) rfl (fun _ => hjoin) (fun hc => absurd rfl hc)
theorem lc_9 {L : Nat} {xs : Nat → Int32} {fz : Bool} {m : M1} {p : M2} {i c s : Nat} {x5 x6 : Option Value} {Q : Res → Prop} (hi : i + 5 < L) (hL : L ≤ 3072) (h : SM (mI L xs) [.ref 1, .int (iI (xs (i + 1)).toInt), .int (iI (xs (i + 2)).toInt), .int (iI (xs (i + 3)).toInt), .int (iI (xs (i + 4)).toInt), .ref 280] [.ref 261, .int (iI (xs (i + 1)).toInt), .int (iI (xs (i + 2)).toInt), .int (iI (xs (i + 3)).toInt), .int (iI (xs (i + 4)).toInt)] k_L_at k_X10_at fz m p) (hn : ∀ fz1 m1 p1 y5 y6 c1 s1, c1 ≤ 1 → s1 ≤ 6 → RX m1 → PI p1 → Rw (Ev 11) k_L_law (1741, [], [some (.ref 0), some (.ref 1), some (.ref 261), some (.ref 280), some (.int (iI (((i : Nat) : Int)))), y5, y6], [], hpM (mI L xs) fz1 (m1, p1), c + c1, s + s1) Q) : Rw (Ev 11) k_L_law (709, [], [some (.ref 0), some (.ref 1), some (.ref 261), some (.ref 280), some (.int (iI (((i : Nat) : Int)))), x5, x6], [], hpM (mI L xs) fz (m, p), c, s) Q := by
  obtain ⟨w, b, m1, p1, m2, fz1, c1, s1, hE1, hc1, hs1, hw, hE2, hbr, ht, hbe, hR, hP⟩ := h
  obtain ⟨v3, m3, p3, hE3, rfl, rfl, rfl⟩ := c_X10_thrown (d := 11) (S := mI L xs) (fz := fz1) (m := m2) (p := p1) (by omega) w hP ht (by omega)
  have hwr : rg (w : Int) := ⟨by omega, by omega⟩
  refine rw_blk lk_L_law_709 ?_
  refine rw_of (fun rr hrr => q_aload_n rfl (q_aload_n rfl (q_iload rfl (q_iconst (q_iadd (q_iald0 (j := i + 1) (by omega) (by omega) hL (q_aload_n rfl (q_iload rfl (q_iconst (q_iadd (q_iald0 (j := i + 2) (by omega) (by omega) hL (q_aload_n rfl (q_iload rfl (q_iconst (q_iadd (q_iald0 (j := i + 3) (by omega) (by omega) hL (q_aload_n rfl (q_iload rfl (q_iconst (q_iadd (q_iald0 (j := i + 4) (by omega) (by omega) hL (q_aload_n rfl (q_invS hE1 rfl rfl (okar_cons rfl (okar_cons rfl (okar_cons rfl (okar_cons rfl (okar_cons rfl (okar_cons rfl okar_nil)))))) (Nat.le_of_ble_eq_true rfl) (q_istore (Nat.le_of_ble_eq_true rfl) rfl (q_aload_n rfl (q_aload_n rfl (q_iload rfl (q_iconst (q_iadd (q_iald0 (j := i + 1) (by omega) (by omega) hL (q_aload_n rfl (q_iload rfl (q_iconst (q_iadd (q_iald0 (j := i + 2) (by omega) (by omega) hL (q_aload_n rfl (q_iload rfl (q_iconst (q_iadd (q_iald0 (j := i + 3) (by omega) (by omega) hL (q_aload_n rfl (q_iload rfl (q_iconst (q_iadd (q_iald0 (j := i + 4) (by omega) (by omega) hL (q_invV hE2 (show SH 261 = (18, 0) from rfl) rfl rfl (okar_cons rfl (okar_cons rfl (okar_cons rfl (okar_cons rfl okar_nil)))) (Nat.le_of_ble_eq_true rfl) (q_istore (Nat.le_of_ble_eq_true rfl) rfl (q_aload_n rfl (q_invV hE3 (show SH 261 = (18, 0) from rfl) rfl rfl okar_nil (Nat.le_of_ble_eq_true rfl) (q_iload rfl hrr)))))))))))))))))))))))))))))))))))))))))))))))))) ?_
  refine rw_icmp_eq hwr hwr (t := 781) rfl (fun _ => ?_) (fun hc => absurd rfl hc)
  refine rw_blk lk_L_law_781 ?_
  refine rw_of (fun rr hrr => q_iload rfl hrr) ?_
  have hjoin : Rw (Ev 11) k_L_law (798, [], [some (.ref 0), some (.ref 1), some (.ref 261), some (.ref 280), some (.int (iI (((i : Nat) : Int)))), some (.int (iI (w : Int))), some (.int (iI b))], [], hpM (mI L xs) fz1 (m2, p1), c + c1, s + s1) Q := by
    refine rw_blk lk_L_law_798 ?_
    exact rw_of (fun rr hrr => q_goto (t := 1741) rfl hrr) (hn _ _ _ _ _ _ _ hc1 hs1 hR hP)
  refine rw_if_ne hwr (t := 798) rfl (fun _ => hjoin) (fun hc => ?_)
  have hw0 : w = 0 := (by omega)
  have hbv := hbe hw0
  subst hbv
  refine rw_of (fun rr hrr => q_aload_n rfl (q_iconst (q_lald (j := 0) (w := 1) (show SH 280 = (2, 1) from rfl) rfl Nat.zero_lt_one (q_iload rfl (q_i2l hrr))))) ?_
  refine rw_of (fun rr hrr => q_lcmp hrr) ?_
  rw [lg_same]
  refine rw_if_eq ⟨by omega, by omega⟩ (t := 798) rfl (fun _ => hjoin) (fun hc => absurd rfl hc)
theorem lc_10 {L : Nat} {xs : Nat → Int32} {fz : Bool} {m : M1} {p : M2} {i c s : Nat} {x5 x6 : Option Value} {Q : Res → Prop} (hi : i + 5 < L) (hL : L ≤ 3072) (h : SM (mI L xs) [.ref 1, .int (iI (xs (i + 1)).toInt), .ref 280] [.ref 261, .int (iI (xs (i + 1)).toInt)] k_L_order k_X10_order fz m p) (hn : ∀ fz1 m1 p1 y5 y6 c1 s1, c1 ≤ 1 → s1 ≤ 6 → RX m1 → PI p1 → Rw (Ev 11) k_L_law (1741, [], [some (.ref 0), some (.ref 1), some (.ref 261), some (.ref 280), some (.int (iI (((i : Nat) : Int)))), y5, y6], [], hpM (mI L xs) fz1 (m1, p1), c + c1, s + s1) Q) : Rw (Ev 11) k_L_law (801, [], [some (.ref 0), some (.ref 1), some (.ref 261), some (.ref 280), some (.int (iI (((i : Nat) : Int)))), x5, x6], [], hpM (mI L xs) fz (m, p), c, s) Q := by
  obtain ⟨w, b, m1, p1, m2, fz1, c1, s1, hE1, hc1, hs1, hw, hE2, hbr, ht, hbe, hR, hP⟩ := h
  obtain ⟨v3, m3, p3, hE3, rfl, rfl, rfl⟩ := c_X10_thrown (d := 11) (S := mI L xs) (fz := fz1) (m := m2) (p := p1) (by omega) w hP ht (by omega)
  have hwr : rg (w : Int) := ⟨by omega, by omega⟩
  refine rw_blk lk_L_law_801 ?_
  refine rw_of (fun rr hrr => q_aload_n rfl (q_aload_n rfl (q_iload rfl (q_iconst (q_iadd (q_iald0 (j := i + 1) (by omega) (by omega) hL (q_aload_n rfl (q_invS hE1 rfl rfl (okar_cons rfl (okar_cons rfl (okar_cons rfl okar_nil))) (Nat.le_of_ble_eq_true rfl) (q_istore (Nat.le_of_ble_eq_true rfl) rfl (q_aload_n rfl (q_aload_n rfl (q_iload rfl (q_iconst (q_iadd (q_iald0 (j := i + 1) (by omega) (by omega) hL (q_invV hE2 (show SH 261 = (18, 0) from rfl) rfl rfl (okar_cons rfl okar_nil) (Nat.le_of_ble_eq_true rfl) (q_istore (Nat.le_of_ble_eq_true rfl) rfl (q_aload_n rfl (q_invV hE3 (show SH 261 = (18, 0) from rfl) rfl rfl okar_nil (Nat.le_of_ble_eq_true rfl) (q_iload rfl hrr)))))))))))))))))))) ?_
  refine rw_icmp_eq hwr hwr (t := 837) rfl (fun _ => ?_) (fun hc => absurd rfl hc)
  refine rw_blk lk_L_law_837 ?_
  refine rw_of (fun rr hrr => q_iload rfl hrr) ?_
  have hjoin : Rw (Ev 11) k_L_law (854, [], [some (.ref 0), some (.ref 1), some (.ref 261), some (.ref 280), some (.int (iI (((i : Nat) : Int)))), some (.int (iI (w : Int))), some (.int (iI b))], [], hpM (mI L xs) fz1 (m2, p1), c + c1, s + s1) Q := by
    refine rw_blk lk_L_law_854 ?_
    exact rw_of (fun rr hrr => q_goto (t := 1741) rfl hrr) (hn _ _ _ _ _ _ _ hc1 hs1 hR hP)
  refine rw_if_ne hwr (t := 854) rfl (fun _ => hjoin) (fun hc => ?_)
  have hw0 : w = 0 := (by omega)
  have hbv := hbe hw0
  subst hbv
  refine rw_of (fun rr hrr => q_aload_n rfl (q_iconst (q_lald (j := 0) (w := 1) (show SH 280 = (2, 1) from rfl) rfl Nat.zero_lt_one (q_iload rfl (q_i2l hrr))))) ?_
  refine rw_of (fun rr hrr => q_lcmp hrr) ?_
  rw [lg_same]
  refine rw_if_eq ⟨by omega, by omega⟩ (t := 854) rfl (fun _ => hjoin) (fun hc => absurd rfl hc)
theorem lc_11_0 {L : Nat} {xs : Nat → Int32} {fz : Bool} {m : M1} {p : M2} {i c s : Nat} {x5 x6 : Option Value} {Q : Res → Prop} (hi : i + 5 < L) (hL : L ≤ 3072) (hb : (xs (i + 3)).toInt = 0) (h : SM (mI L xs) [.ref 1, .int (iI (xs (i + 1)).toInt), .int (iI (xs (i + 2)).toInt), .int (iI 0), .ref 280] [.ref 261, .int (iI (xs (i + 1)).toInt), .int (iI (xs (i + 2)).toInt), .int (iI 0)] k_L_polynomial k_X10_polynomial fz m p) (hn : ∀ fz1 m1 p1 y5 y6 c1 s1, c1 ≤ 1 → s1 ≤ 6 → RX m1 → PI p1 → Rw (Ev 11) k_L_law (1741, [], [some (.ref 0), some (.ref 1), some (.ref 261), some (.ref 280), some (.int (iI (((i : Nat) : Int)))), y5, y6], [], hpM (mI L xs) fz1 (m1, p1), c + c1, s + s1) Q) : Rw (Ev 11) k_L_law (857, [], [some (.ref 0), some (.ref 1), some (.ref 261), some (.ref 280), some (.int (iI (((i : Nat) : Int)))), x5, x6], [], hpM (mI L xs) fz (m, p), c, s) Q := by
  obtain ⟨w, b, m1, p1, m2, fz1, c1, s1, hE1, hc1, hs1, hw, hE2, hbr, ht, hbe, hR, hP⟩ := h
  obtain ⟨v3, m3, p3, hE3, rfl, rfl, rfl⟩ := c_X10_thrown (d := 11) (S := mI L xs) (fz := fz1) (m := m2) (p := p1) (by omega) w hP ht (by omega)
  have hwr : rg (w : Int) := ⟨by omega, by omega⟩
  refine rw_blk lk_L_law_857 ?_
  refine rw_of (fun rr hrr => q_aload_n rfl (q_aload_n rfl (q_iload rfl (q_iconst (q_iadd (q_iald0 (j := i + 1) (by omega) (by omega) hL (q_aload_n rfl (q_iload rfl (q_iconst (q_iadd (q_iald0 (j := i + 2) (by omega) (by omega) hL (q_aload_n rfl (q_iload rfl (q_iconst (q_iadd (q_iald0 (j := i + 3) (by omega) (by omega) hL hrr)))))))))))))))) ?_
  refine rw_if_eq (rg_of _) (t := 883) rfl (fun _ => ?_) (fun hc => absurd hb hc)
  refine rw_blk lk_L_law_883 ?_
  refine rw_of (fun rr hrr => q_iconst hrr) ?_
  refine rw_blk lk_L_law_884 ?_
  refine rw_of (fun rr hrr => q_aload_n rfl (q_invS hE1 rfl rfl (okar_cons rfl (okar_cons rfl (okar_cons rfl (okar_cons rfl (okar_cons rfl okar_nil))))) (Nat.le_of_ble_eq_true rfl) (q_istore (Nat.le_of_ble_eq_true rfl) rfl (q_aload_n rfl (q_aload_n rfl (q_iload rfl (q_iconst (q_iadd (q_iald0 (j := i + 1) (by omega) (by omega) hL (q_aload_n rfl (q_iload rfl (q_iconst (q_iadd (q_iald0 (j := i + 2) (by omega) (by omega) hL (q_aload_n rfl (q_iload rfl (q_iconst (q_iadd (q_iald0 (j := i + 3) (by omega) (by omega) hL hrr))))))))))))))))))) ?_
  refine rw_if_eq (rg_of _) (t := 916) rfl (fun _ => ?_) (fun hc => absurd hb hc)
  refine rw_blk lk_L_law_916 ?_
  refine rw_of (fun rr hrr => q_iconst hrr) ?_
  refine rw_blk lk_L_law_917 ?_
  refine rw_of (fun rr hrr => q_invV hE2 (show SH 261 = (18, 0) from rfl) rfl rfl (okar_cons rfl (okar_cons rfl (okar_cons rfl okar_nil))) (Nat.le_of_ble_eq_true rfl) (q_istore (Nat.le_of_ble_eq_true rfl) rfl (q_aload_n rfl (q_invV hE3 (show SH 261 = (18, 0) from rfl) rfl rfl okar_nil (Nat.le_of_ble_eq_true rfl) (q_iload rfl hrr))))) ?_
  refine rw_icmp_eq hwr hwr (t := 933) rfl (fun _ => ?_) (fun hc => absurd rfl hc)
  refine rw_blk lk_L_law_933 ?_
  refine rw_of (fun rr hrr => q_iload rfl hrr) ?_
  have hjoin : Rw (Ev 11) k_L_law (950, [], [some (.ref 0), some (.ref 1), some (.ref 261), some (.ref 280), some (.int (iI (((i : Nat) : Int)))), some (.int (iI (w : Int))), some (.int (iI b))], [], hpM (mI L xs) fz1 (m2, p1), c + c1, s + s1) Q := by
    refine rw_blk lk_L_law_950 ?_
    exact rw_of (fun rr hrr => q_goto (t := 1741) rfl hrr) (hn _ _ _ _ _ _ _ hc1 hs1 hR hP)
  refine rw_if_ne hwr (t := 950) rfl (fun _ => hjoin) (fun hc => ?_)
  have hw0 : w = 0 := (by omega)
  have hbv := hbe hw0
  subst hbv
  refine rw_of (fun rr hrr => q_aload_n rfl (q_iconst (q_lald (j := 0) (w := 1) (show SH 280 = (2, 1) from rfl) rfl Nat.zero_lt_one (q_iload rfl (q_i2l hrr))))) ?_
  refine rw_of (fun rr hrr => q_lcmp hrr) ?_
  rw [lg_same]
  refine rw_if_eq ⟨by omega, by omega⟩ (t := 950) rfl (fun _ => hjoin) (fun hc => absurd rfl hc)
theorem lc_11_1 {L : Nat} {xs : Nat → Int32} {fz : Bool} {m : M1} {p : M2} {i c s : Nat} {x5 x6 : Option Value} {Q : Res → Prop} (hi : i + 5 < L) (hL : L ≤ 3072) (hb : (xs (i + 3)).toInt ≠ 0) (h : SM (mI L xs) [.ref 1, .int (iI (xs (i + 1)).toInt), .int (iI (xs (i + 2)).toInt), .int (iI 1), .ref 280] [.ref 261, .int (iI (xs (i + 1)).toInt), .int (iI (xs (i + 2)).toInt), .int (iI 1)] k_L_polynomial k_X10_polynomial fz m p) (hn : ∀ fz1 m1 p1 y5 y6 c1 s1, c1 ≤ 1 → s1 ≤ 6 → RX m1 → PI p1 → Rw (Ev 11) k_L_law (1741, [], [some (.ref 0), some (.ref 1), some (.ref 261), some (.ref 280), some (.int (iI (((i : Nat) : Int)))), y5, y6], [], hpM (mI L xs) fz1 (m1, p1), c + c1, s + s1) Q) : Rw (Ev 11) k_L_law (857, [], [some (.ref 0), some (.ref 1), some (.ref 261), some (.ref 280), some (.int (iI (((i : Nat) : Int)))), x5, x6], [], hpM (mI L xs) fz (m, p), c, s) Q := by
  obtain ⟨w, b, m1, p1, m2, fz1, c1, s1, hE1, hc1, hs1, hw, hE2, hbr, ht, hbe, hR, hP⟩ := h
  obtain ⟨v3, m3, p3, hE3, rfl, rfl, rfl⟩ := c_X10_thrown (d := 11) (S := mI L xs) (fz := fz1) (m := m2) (p := p1) (by omega) w hP ht (by omega)
  have hwr : rg (w : Int) := ⟨by omega, by omega⟩
  refine rw_blk lk_L_law_857 ?_
  refine rw_of (fun rr hrr => q_aload_n rfl (q_aload_n rfl (q_iload rfl (q_iconst (q_iadd (q_iald0 (j := i + 1) (by omega) (by omega) hL (q_aload_n rfl (q_iload rfl (q_iconst (q_iadd (q_iald0 (j := i + 2) (by omega) (by omega) hL (q_aload_n rfl (q_iload rfl (q_iconst (q_iadd (q_iald0 (j := i + 3) (by omega) (by omega) hL hrr)))))))))))))))) ?_
  refine rw_if_eq (rg_of _) (t := 883) rfl (fun hc => absurd hc hb) (fun _ => ?_)
  refine rw_of (fun rr hrr => q_iconst (q_goto (t := 884) rfl hrr)) ?_
  refine rw_blk lk_L_law_884 ?_
  refine rw_of (fun rr hrr => q_aload_n rfl (q_invS hE1 rfl rfl (okar_cons rfl (okar_cons rfl (okar_cons rfl (okar_cons rfl (okar_cons rfl okar_nil))))) (Nat.le_of_ble_eq_true rfl) (q_istore (Nat.le_of_ble_eq_true rfl) rfl (q_aload_n rfl (q_aload_n rfl (q_iload rfl (q_iconst (q_iadd (q_iald0 (j := i + 1) (by omega) (by omega) hL (q_aload_n rfl (q_iload rfl (q_iconst (q_iadd (q_iald0 (j := i + 2) (by omega) (by omega) hL (q_aload_n rfl (q_iload rfl (q_iconst (q_iadd (q_iald0 (j := i + 3) (by omega) (by omega) hL hrr))))))))))))))))))) ?_
  refine rw_if_eq (rg_of _) (t := 916) rfl (fun hc => absurd hc hb) (fun _ => ?_)
  refine rw_of (fun rr hrr => q_iconst (q_goto (t := 917) rfl hrr)) ?_
  refine rw_blk lk_L_law_917 ?_
  refine rw_of (fun rr hrr => q_invV hE2 (show SH 261 = (18, 0) from rfl) rfl rfl (okar_cons rfl (okar_cons rfl (okar_cons rfl okar_nil))) (Nat.le_of_ble_eq_true rfl) (q_istore (Nat.le_of_ble_eq_true rfl) rfl (q_aload_n rfl (q_invV hE3 (show SH 261 = (18, 0) from rfl) rfl rfl okar_nil (Nat.le_of_ble_eq_true rfl) (q_iload rfl hrr))))) ?_
  refine rw_icmp_eq hwr hwr (t := 933) rfl (fun _ => ?_) (fun hc => absurd rfl hc)
  refine rw_blk lk_L_law_933 ?_
  refine rw_of (fun rr hrr => q_iload rfl hrr) ?_
  have hjoin : Rw (Ev 11) k_L_law (950, [], [some (.ref 0), some (.ref 1), some (.ref 261), some (.ref 280), some (.int (iI (((i : Nat) : Int)))), some (.int (iI (w : Int))), some (.int (iI b))], [], hpM (mI L xs) fz1 (m2, p1), c + c1, s + s1) Q := by
    refine rw_blk lk_L_law_950 ?_
    exact rw_of (fun rr hrr => q_goto (t := 1741) rfl hrr) (hn _ _ _ _ _ _ _ hc1 hs1 hR hP)
  refine rw_if_ne hwr (t := 950) rfl (fun _ => hjoin) (fun hc => ?_)
  have hw0 : w = 0 := (by omega)
  have hbv := hbe hw0
  subst hbv
  refine rw_of (fun rr hrr => q_aload_n rfl (q_iconst (q_lald (j := 0) (w := 1) (show SH 280 = (2, 1) from rfl) rfl Nat.zero_lt_one (q_iload rfl (q_i2l hrr))))) ?_
  refine rw_of (fun rr hrr => q_lcmp hrr) ?_
  rw [lg_same]
  refine rw_if_eq ⟨by omega, by omega⟩ (t := 950) rfl (fun _ => hjoin) (fun hc => absurd rfl hc)
theorem lc_12_0 {L : Nat} {xs : Nat → Int32} {fz : Bool} {m : M1} {p : M2} {i c s : Nat} {x5 x6 : Option Value} {Q : Res → Prop} (hi : i + 5 < L) (hL : L ≤ 3072) (hb : (xs (i + 2)).toInt = 0) (h : SM (mI L xs) [.ref 1, .int (iI (xs (i + 1)).toInt), .int (iI 0), .ref 280] [.ref 261, .int (iI (xs (i + 1)).toInt), .int (iI 0)] k_L_rank k_X10_rank fz m p) (hn : ∀ fz1 m1 p1 y5 y6 c1 s1, c1 ≤ 1 → s1 ≤ 6 → RX m1 → PI p1 → Rw (Ev 11) k_L_law (1741, [], [some (.ref 0), some (.ref 1), some (.ref 261), some (.ref 280), some (.int (iI (((i : Nat) : Int)))), y5, y6], [], hpM (mI L xs) fz1 (m1, p1), c + c1, s + s1) Q) : Rw (Ev 11) k_L_law (953, [], [some (.ref 0), some (.ref 1), some (.ref 261), some (.ref 280), some (.int (iI (((i : Nat) : Int)))), x5, x6], [], hpM (mI L xs) fz (m, p), c, s) Q := by
  obtain ⟨w, b, m1, p1, m2, fz1, c1, s1, hE1, hc1, hs1, hw, hE2, hbr, ht, hbe, hR, hP⟩ := h
  obtain ⟨v3, m3, p3, hE3, rfl, rfl, rfl⟩ := c_X10_thrown (d := 11) (S := mI L xs) (fz := fz1) (m := m2) (p := p1) (by omega) w hP ht (by omega)
  have hwr : rg (w : Int) := ⟨by omega, by omega⟩
  refine rw_blk lk_L_law_953 ?_
  refine rw_of (fun rr hrr => q_aload_n rfl (q_aload_n rfl (q_iload rfl (q_iconst (q_iadd (q_iald0 (j := i + 1) (by omega) (by omega) hL (q_aload_n rfl (q_iload rfl (q_iconst (q_iadd (q_iald0 (j := i + 2) (by omega) (by omega) hL hrr))))))))))) ?_
  refine rw_if_eq (rg_of _) (t := 973) rfl (fun _ => ?_) (fun hc => absurd hb hc)
  refine rw_blk lk_L_law_973 ?_
  refine rw_of (fun rr hrr => q_iconst hrr) ?_
  refine rw_blk lk_L_law_974 ?_
  refine rw_of (fun rr hrr => q_aload_n rfl (q_invS hE1 rfl rfl (okar_cons rfl (okar_cons rfl (okar_cons rfl (okar_cons rfl okar_nil)))) (Nat.le_of_ble_eq_true rfl) (q_istore (Nat.le_of_ble_eq_true rfl) rfl (q_aload_n rfl (q_aload_n rfl (q_iload rfl (q_iconst (q_iadd (q_iald0 (j := i + 1) (by omega) (by omega) hL (q_aload_n rfl (q_iload rfl (q_iconst (q_iadd (q_iald0 (j := i + 2) (by omega) (by omega) hL hrr)))))))))))))) ?_
  refine rw_if_eq (rg_of _) (t := 1000) rfl (fun _ => ?_) (fun hc => absurd hb hc)
  refine rw_blk lk_L_law_1000 ?_
  refine rw_of (fun rr hrr => q_iconst hrr) ?_
  refine rw_blk lk_L_law_1001 ?_
  refine rw_of (fun rr hrr => q_invV hE2 (show SH 261 = (18, 0) from rfl) rfl rfl (okar_cons rfl (okar_cons rfl okar_nil)) (Nat.le_of_ble_eq_true rfl) (q_istore (Nat.le_of_ble_eq_true rfl) rfl (q_aload_n rfl (q_invV hE3 (show SH 261 = (18, 0) from rfl) rfl rfl okar_nil (Nat.le_of_ble_eq_true rfl) (q_iload rfl hrr))))) ?_
  refine rw_icmp_eq hwr hwr (t := 1017) rfl (fun _ => ?_) (fun hc => absurd rfl hc)
  refine rw_blk lk_L_law_1017 ?_
  refine rw_of (fun rr hrr => q_iload rfl hrr) ?_
  have hjoin : Rw (Ev 11) k_L_law (1034, [], [some (.ref 0), some (.ref 1), some (.ref 261), some (.ref 280), some (.int (iI (((i : Nat) : Int)))), some (.int (iI (w : Int))), some (.int (iI b))], [], hpM (mI L xs) fz1 (m2, p1), c + c1, s + s1) Q := by
    refine rw_blk lk_L_law_1034 ?_
    exact rw_of (fun rr hrr => q_goto (t := 1741) rfl hrr) (hn _ _ _ _ _ _ _ hc1 hs1 hR hP)
  refine rw_if_ne hwr (t := 1034) rfl (fun _ => hjoin) (fun hc => ?_)
  have hw0 : w = 0 := (by omega)
  have hbv := hbe hw0
  subst hbv
  refine rw_of (fun rr hrr => q_aload_n rfl (q_iconst (q_lald (j := 0) (w := 1) (show SH 280 = (2, 1) from rfl) rfl Nat.zero_lt_one (q_iload rfl (q_i2l hrr))))) ?_
  refine rw_of (fun rr hrr => q_lcmp hrr) ?_
  rw [lg_same]
  refine rw_if_eq ⟨by omega, by omega⟩ (t := 1034) rfl (fun _ => hjoin) (fun hc => absurd rfl hc)
theorem lc_12_1 {L : Nat} {xs : Nat → Int32} {fz : Bool} {m : M1} {p : M2} {i c s : Nat} {x5 x6 : Option Value} {Q : Res → Prop} (hi : i + 5 < L) (hL : L ≤ 3072) (hb : (xs (i + 2)).toInt ≠ 0) (h : SM (mI L xs) [.ref 1, .int (iI (xs (i + 1)).toInt), .int (iI 1), .ref 280] [.ref 261, .int (iI (xs (i + 1)).toInt), .int (iI 1)] k_L_rank k_X10_rank fz m p) (hn : ∀ fz1 m1 p1 y5 y6 c1 s1, c1 ≤ 1 → s1 ≤ 6 → RX m1 → PI p1 → Rw (Ev 11) k_L_law (1741, [], [some (.ref 0), some (.ref 1), some (.ref 261), some (.ref 280), some (.int (iI (((i : Nat) : Int)))), y5, y6], [], hpM (mI L xs) fz1 (m1, p1), c + c1, s + s1) Q) : Rw (Ev 11) k_L_law (953, [], [some (.ref 0), some (.ref 1), some (.ref 261), some (.ref 280), some (.int (iI (((i : Nat) : Int)))), x5, x6], [], hpM (mI L xs) fz (m, p), c, s) Q := by
  obtain ⟨w, b, m1, p1, m2, fz1, c1, s1, hE1, hc1, hs1, hw, hE2, hbr, ht, hbe, hR, hP⟩ := h
  obtain ⟨v3, m3, p3, hE3, rfl, rfl, rfl⟩ := c_X10_thrown (d := 11) (S := mI L xs) (fz := fz1) (m := m2) (p := p1) (by omega) w hP ht (by omega)
  have hwr : rg (w : Int) := ⟨by omega, by omega⟩
  refine rw_blk lk_L_law_953 ?_
  refine rw_of (fun rr hrr => q_aload_n rfl (q_aload_n rfl (q_iload rfl (q_iconst (q_iadd (q_iald0 (j := i + 1) (by omega) (by omega) hL (q_aload_n rfl (q_iload rfl (q_iconst (q_iadd (q_iald0 (j := i + 2) (by omega) (by omega) hL hrr))))))))))) ?_
  refine rw_if_eq (rg_of _) (t := 973) rfl (fun hc => absurd hc hb) (fun _ => ?_)
  refine rw_of (fun rr hrr => q_iconst (q_goto (t := 974) rfl hrr)) ?_
  refine rw_blk lk_L_law_974 ?_
  refine rw_of (fun rr hrr => q_aload_n rfl (q_invS hE1 rfl rfl (okar_cons rfl (okar_cons rfl (okar_cons rfl (okar_cons rfl okar_nil)))) (Nat.le_of_ble_eq_true rfl) (q_istore (Nat.le_of_ble_eq_true rfl) rfl (q_aload_n rfl (q_aload_n rfl (q_iload rfl (q_iconst (q_iadd (q_iald0 (j := i + 1) (by omega) (by omega) hL (q_aload_n rfl (q_iload rfl (q_iconst (q_iadd (q_iald0 (j := i + 2) (by omega) (by omega) hL hrr)))))))))))))) ?_
  refine rw_if_eq (rg_of _) (t := 1000) rfl (fun hc => absurd hc hb) (fun _ => ?_)
  refine rw_of (fun rr hrr => q_iconst (q_goto (t := 1001) rfl hrr)) ?_
  refine rw_blk lk_L_law_1001 ?_
  refine rw_of (fun rr hrr => q_invV hE2 (show SH 261 = (18, 0) from rfl) rfl rfl (okar_cons rfl (okar_cons rfl okar_nil)) (Nat.le_of_ble_eq_true rfl) (q_istore (Nat.le_of_ble_eq_true rfl) rfl (q_aload_n rfl (q_invV hE3 (show SH 261 = (18, 0) from rfl) rfl rfl okar_nil (Nat.le_of_ble_eq_true rfl) (q_iload rfl hrr))))) ?_
  refine rw_icmp_eq hwr hwr (t := 1017) rfl (fun _ => ?_) (fun hc => absurd rfl hc)
  refine rw_blk lk_L_law_1017 ?_
  refine rw_of (fun rr hrr => q_iload rfl hrr) ?_
  have hjoin : Rw (Ev 11) k_L_law (1034, [], [some (.ref 0), some (.ref 1), some (.ref 261), some (.ref 280), some (.int (iI (((i : Nat) : Int)))), some (.int (iI (w : Int))), some (.int (iI b))], [], hpM (mI L xs) fz1 (m2, p1), c + c1, s + s1) Q := by
    refine rw_blk lk_L_law_1034 ?_
    exact rw_of (fun rr hrr => q_goto (t := 1741) rfl hrr) (hn _ _ _ _ _ _ _ hc1 hs1 hR hP)
  refine rw_if_ne hwr (t := 1034) rfl (fun _ => hjoin) (fun hc => ?_)
  have hw0 : w = 0 := (by omega)
  have hbv := hbe hw0
  subst hbv
  refine rw_of (fun rr hrr => q_aload_n rfl (q_iconst (q_lald (j := 0) (w := 1) (show SH 280 = (2, 1) from rfl) rfl Nat.zero_lt_one (q_iload rfl (q_i2l hrr))))) ?_
  refine rw_of (fun rr hrr => q_lcmp hrr) ?_
  rw [lg_same]
  refine rw_if_eq ⟨by omega, by omega⟩ (t := 1034) rfl (fun _ => hjoin) (fun hc => absurd rfl hc)
theorem lc_13 {L : Nat} {xs : Nat → Int32} {fz : Bool} {m : M1} {p : M2} {i c s : Nat} {x5 x6 : Option Value} {Q : Res → Prop} (hi : i + 5 < L) (hL : L ≤ 3072) (h : SM (mI L xs) [.ref 1, .int (iI (xs (i + 1)).toInt), .int (iI (xs (i + 2)).toInt), .ref 280] [.ref 261, .int (iI (xs (i + 1)).toInt), .int (iI (xs (i + 2)).toInt)] k_L_number k_X10_number fz m p) (hn : ∀ fz1 m1 p1 y5 y6 c1 s1, c1 ≤ 1 → s1 ≤ 6 → RX m1 → PI p1 → Rw (Ev 11) k_L_law (1741, [], [some (.ref 0), some (.ref 1), some (.ref 261), some (.ref 280), some (.int (iI (((i : Nat) : Int)))), y5, y6], [], hpM (mI L xs) fz1 (m1, p1), c + c1, s + s1) Q) : Rw (Ev 11) k_L_law (1037, [], [some (.ref 0), some (.ref 1), some (.ref 261), some (.ref 280), some (.int (iI (((i : Nat) : Int)))), x5, x6], [], hpM (mI L xs) fz (m, p), c, s) Q := by
  obtain ⟨w, b, m1, p1, m2, fz1, c1, s1, hE1, hc1, hs1, hw, hE2, hbr, ht, hbe, hR, hP⟩ := h
  obtain ⟨v3, m3, p3, hE3, rfl, rfl, rfl⟩ := c_X10_thrown (d := 11) (S := mI L xs) (fz := fz1) (m := m2) (p := p1) (by omega) w hP ht (by omega)
  have hwr : rg (w : Int) := ⟨by omega, by omega⟩
  refine rw_blk lk_L_law_1037 ?_
  refine rw_of (fun rr hrr => q_aload_n rfl (q_aload_n rfl (q_iload rfl (q_iconst (q_iadd (q_iald0 (j := i + 1) (by omega) (by omega) hL (q_aload_n rfl (q_iload rfl (q_iconst (q_iadd (q_iald0 (j := i + 2) (by omega) (by omega) hL (q_aload_n rfl (q_invS hE1 rfl rfl (okar_cons rfl (okar_cons rfl (okar_cons rfl (okar_cons rfl okar_nil)))) (Nat.le_of_ble_eq_true rfl) (q_istore (Nat.le_of_ble_eq_true rfl) rfl (q_aload_n rfl (q_aload_n rfl (q_iload rfl (q_iconst (q_iadd (q_iald0 (j := i + 1) (by omega) (by omega) hL (q_aload_n rfl (q_iload rfl (q_iconst (q_iadd (q_iald0 (j := i + 2) (by omega) (by omega) hL (q_invV hE2 (show SH 261 = (18, 0) from rfl) rfl rfl (okar_cons rfl (okar_cons rfl okar_nil)) (Nat.le_of_ble_eq_true rfl) (q_istore (Nat.le_of_ble_eq_true rfl) rfl (q_aload_n rfl (q_invV hE3 (show SH 261 = (18, 0) from rfl) rfl rfl okar_nil (Nat.le_of_ble_eq_true rfl) (q_iload rfl hrr)))))))))))))))))))))))))))))) ?_
  refine rw_icmp_eq hwr hwr (t := 1085) rfl (fun _ => ?_) (fun hc => absurd rfl hc)
  refine rw_blk lk_L_law_1085 ?_
  refine rw_of (fun rr hrr => q_iload rfl hrr) ?_
  have hjoin : Rw (Ev 11) k_L_law (1102, [], [some (.ref 0), some (.ref 1), some (.ref 261), some (.ref 280), some (.int (iI (((i : Nat) : Int)))), some (.int (iI (w : Int))), some (.int (iI b))], [], hpM (mI L xs) fz1 (m2, p1), c + c1, s + s1) Q := by
    refine rw_blk lk_L_law_1102 ?_
    exact rw_of (fun rr hrr => q_goto (t := 1741) rfl hrr) (hn _ _ _ _ _ _ _ hc1 hs1 hR hP)
  refine rw_if_ne hwr (t := 1102) rfl (fun _ => hjoin) (fun hc => ?_)
  have hw0 : w = 0 := (by omega)
  have hbv := hbe hw0
  subst hbv
  refine rw_of (fun rr hrr => q_aload_n rfl (q_iconst (q_lald (j := 0) (w := 1) (show SH 280 = (2, 1) from rfl) rfl Nat.zero_lt_one (q_iload rfl (q_i2l hrr))))) ?_
  refine rw_of (fun rr hrr => q_lcmp hrr) ?_
  rw [lg_same]
  refine rw_if_eq ⟨by omega, by omega⟩ (t := 1102) rfl (fun _ => hjoin) (fun hc => absurd rfl hc)
theorem lc_14 {L : Nat} {xs : Nat → Int32} {fz : Bool} {m : M1} {p : M2} {i c s : Nat} {x5 x6 : Option Value} {Q : Res → Prop} (hi : i + 5 < L) (hL : L ≤ 3072) (h : SM (mI L xs) [.ref 1, .int (iI (xs (i + 1)).toInt), .int (iI (xs (i + 2)).toInt), .ref 280] [.ref 261, .int (iI (xs (i + 1)).toInt), .int (iI (xs (i + 2)).toInt)] k_L_output k_X10_output fz m p) (hn : ∀ fz1 m1 p1 y5 y6 c1 s1, c1 ≤ 1 → s1 ≤ 6 → RX m1 → PI p1 → Rw (Ev 11) k_L_law (1741, [], [some (.ref 0), some (.ref 1), some (.ref 261), some (.ref 280), some (.int (iI (((i : Nat) : Int)))), y5, y6], [], hpM (mI L xs) fz1 (m1, p1), c + c1, s + s1) Q) : Rw (Ev 11) k_L_law (1105, [], [some (.ref 0), some (.ref 1), some (.ref 261), some (.ref 280), some (.int (iI (((i : Nat) : Int)))), x5, x6], [], hpM (mI L xs) fz (m, p), c, s) Q := by
  obtain ⟨w, b, m1, p1, m2, fz1, c1, s1, hE1, hc1, hs1, hw, hE2, hbr, ht, hbe, hR, hP⟩ := h
  obtain ⟨v3, m3, p3, hE3, rfl, rfl, rfl⟩ := c_X10_thrown (d := 11) (S := mI L xs) (fz := fz1) (m := m2) (p := p1) (by omega) w hP ht (by omega)
  have hwr : rg (w : Int) := ⟨by omega, by omega⟩
  refine rw_blk lk_L_law_1105 ?_
  refine rw_of (fun rr hrr => q_aload_n rfl (q_aload_n rfl (q_iload rfl (q_iconst (q_iadd (q_iald0 (j := i + 1) (by omega) (by omega) hL (q_aload_n rfl (q_iload rfl (q_iconst (q_iadd (q_iald0 (j := i + 2) (by omega) (by omega) hL (q_aload_n rfl (q_invS hE1 rfl rfl (okar_cons rfl (okar_cons rfl (okar_cons rfl (okar_cons rfl okar_nil)))) (Nat.le_of_ble_eq_true rfl) (q_istore (Nat.le_of_ble_eq_true rfl) rfl (q_aload_n rfl (q_aload_n rfl (q_iload rfl (q_iconst (q_iadd (q_iald0 (j := i + 1) (by omega) (by omega) hL (q_aload_n rfl (q_iload rfl (q_iconst (q_iadd (q_iald0 (j := i + 2) (by omega) (by omega) hL (q_invV hE2 (show SH 261 = (18, 0) from rfl) rfl rfl (okar_cons rfl (okar_cons rfl okar_nil)) (Nat.le_of_ble_eq_true rfl) (q_istore (Nat.le_of_ble_eq_true rfl) rfl (q_aload_n rfl (q_invV hE3 (show SH 261 = (18, 0) from rfl) rfl rfl okar_nil (Nat.le_of_ble_eq_true rfl) (q_iload rfl hrr)))))))))))))))))))))))))))))) ?_
  refine rw_icmp_eq hwr hwr (t := 1153) rfl (fun _ => ?_) (fun hc => absurd rfl hc)
  refine rw_blk lk_L_law_1153 ?_
  refine rw_of (fun rr hrr => q_iload rfl hrr) ?_
  have hjoin : Rw (Ev 11) k_L_law (1170, [], [some (.ref 0), some (.ref 1), some (.ref 261), some (.ref 280), some (.int (iI (((i : Nat) : Int)))), some (.int (iI (w : Int))), some (.int (iI b))], [], hpM (mI L xs) fz1 (m2, p1), c + c1, s + s1) Q := by
    refine rw_blk lk_L_law_1170 ?_
    exact rw_of (fun rr hrr => q_goto (t := 1741) rfl hrr) (hn _ _ _ _ _ _ _ hc1 hs1 hR hP)
  refine rw_if_ne hwr (t := 1170) rfl (fun _ => hjoin) (fun hc => ?_)
  have hw0 : w = 0 := (by omega)
  have hbv := hbe hw0
  subst hbv
  refine rw_of (fun rr hrr => q_aload_n rfl (q_iconst (q_lald (j := 0) (w := 1) (show SH 280 = (2, 1) from rfl) rfl Nat.zero_lt_one (q_iload rfl (q_i2l hrr))))) ?_
  refine rw_of (fun rr hrr => q_lcmp hrr) ?_
  rw [lg_same]
  refine rw_if_eq ⟨by omega, by omega⟩ (t := 1170) rfl (fun _ => hjoin) (fun hc => absurd rfl hc)
theorem lc_15 {L : Nat} {xs : Nat → Int32} {fz : Bool} {m : M1} {p : M2} {i c s : Nat} {x5 x6 : Option Value} {Q : Res → Prop} (hi : i + 5 < L) (hL : L ≤ 3072) (h : SM (mI L xs) [.ref 1, .int (iI (xs (i + 1)).toInt), .int (iI (xs (i + 2)).toInt), .ref 280] [.ref 261, .int (iI (xs (i + 1)).toInt), .int (iI (xs (i + 2)).toInt)] k_L_outputAnew k_X10_outputAnew fz m p) (hn : ∀ fz1 m1 p1 y5 y6 c1 s1, c1 ≤ 1 → s1 ≤ 6 → RX m1 → PI p1 → Rw (Ev 11) k_L_law (1741, [], [some (.ref 0), some (.ref 1), some (.ref 261), some (.ref 280), some (.int (iI (((i : Nat) : Int)))), y5, y6], [], hpM (mI L xs) fz1 (m1, p1), c + c1, s + s1) Q) : Rw (Ev 11) k_L_law (1173, [], [some (.ref 0), some (.ref 1), some (.ref 261), some (.ref 280), some (.int (iI (((i : Nat) : Int)))), x5, x6], [], hpM (mI L xs) fz (m, p), c, s) Q := by
  obtain ⟨w, b, m1, p1, m2, fz1, c1, s1, hE1, hc1, hs1, hw, hE2, hbr, ht, hbe, hR, hP⟩ := h
  obtain ⟨v3, m3, p3, hE3, rfl, rfl, rfl⟩ := c_X10_thrown (d := 11) (S := mI L xs) (fz := fz1) (m := m2) (p := p1) (by omega) w hP ht (by omega)
  have hwr : rg (w : Int) := ⟨by omega, by omega⟩
  refine rw_blk lk_L_law_1173 ?_
  refine rw_of (fun rr hrr => q_aload_n rfl (q_aload_n rfl (q_iload rfl (q_iconst (q_iadd (q_iald0 (j := i + 1) (by omega) (by omega) hL (q_aload_n rfl (q_iload rfl (q_iconst (q_iadd (q_iald0 (j := i + 2) (by omega) (by omega) hL (q_aload_n rfl (q_invS hE1 rfl rfl (okar_cons rfl (okar_cons rfl (okar_cons rfl (okar_cons rfl okar_nil)))) (Nat.le_of_ble_eq_true rfl) (q_istore (Nat.le_of_ble_eq_true rfl) rfl (q_aload_n rfl (q_aload_n rfl (q_iload rfl (q_iconst (q_iadd (q_iald0 (j := i + 1) (by omega) (by omega) hL (q_aload_n rfl (q_iload rfl (q_iconst (q_iadd (q_iald0 (j := i + 2) (by omega) (by omega) hL (q_invV hE2 (show SH 261 = (18, 0) from rfl) rfl rfl (okar_cons rfl (okar_cons rfl okar_nil)) (Nat.le_of_ble_eq_true rfl) (q_istore (Nat.le_of_ble_eq_true rfl) rfl (q_aload_n rfl (q_invV hE3 (show SH 261 = (18, 0) from rfl) rfl rfl okar_nil (Nat.le_of_ble_eq_true rfl) (q_iload rfl hrr)))))))))))))))))))))))))))))) ?_
  refine rw_icmp_eq hwr hwr (t := 1221) rfl (fun _ => ?_) (fun hc => absurd rfl hc)
  refine rw_blk lk_L_law_1221 ?_
  refine rw_of (fun rr hrr => q_iload rfl hrr) ?_
  have hjoin : Rw (Ev 11) k_L_law (1238, [], [some (.ref 0), some (.ref 1), some (.ref 261), some (.ref 280), some (.int (iI (((i : Nat) : Int)))), some (.int (iI (w : Int))), some (.int (iI b))], [], hpM (mI L xs) fz1 (m2, p1), c + c1, s + s1) Q := by
    refine rw_blk lk_L_law_1238 ?_
    exact rw_of (fun rr hrr => q_goto (t := 1741) rfl hrr) (hn _ _ _ _ _ _ _ hc1 hs1 hR hP)
  refine rw_if_ne hwr (t := 1238) rfl (fun _ => hjoin) (fun hc => ?_)
  have hw0 : w = 0 := (by omega)
  have hbv := hbe hw0
  subst hbv
  refine rw_of (fun rr hrr => q_aload_n rfl (q_iconst (q_lald (j := 0) (w := 1) (show SH 280 = (2, 1) from rfl) rfl Nat.zero_lt_one (q_iload rfl (q_i2l hrr))))) ?_
  refine rw_of (fun rr hrr => q_lcmp hrr) ?_
  rw [lg_same]
  refine rw_if_eq ⟨by omega, by omega⟩ (t := 1238) rfl (fun _ => hjoin) (fun hc => absurd rfl hc)
theorem lc_16 {L : Nat} {xs : Nat → Int32} {fz : Bool} {m : M1} {p : M2} {i c s : Nat} {x5 x6 : Option Value} {Q : Res → Prop} (hi : i + 5 < L) (hL : L ≤ 3072) (h : SM (mI L xs) [.ref 1, .int (iI (xs (i + 1)).toInt), .int (iI (xs (i + 2)).toInt), .ref 280] [.ref 261, .int (iI (xs (i + 1)).toInt), .int (iI (xs (i + 2)).toInt)] k_L_gain k_X10_gain fz m p) (hn : ∀ fz1 m1 p1 y5 y6 c1 s1, c1 ≤ 1 → s1 ≤ 6 → RX m1 → PI p1 → Rw (Ev 11) k_L_law (1741, [], [some (.ref 0), some (.ref 1), some (.ref 261), some (.ref 280), some (.int (iI (((i : Nat) : Int)))), y5, y6], [], hpM (mI L xs) fz1 (m1, p1), c + c1, s + s1) Q) : Rw (Ev 11) k_L_law (1241, [], [some (.ref 0), some (.ref 1), some (.ref 261), some (.ref 280), some (.int (iI (((i : Nat) : Int)))), x5, x6], [], hpM (mI L xs) fz (m, p), c, s) Q := by
  obtain ⟨w, b, m1, p1, m2, fz1, c1, s1, hE1, hc1, hs1, hw, hE2, hbr, ht, hbe, hR, hP⟩ := h
  obtain ⟨v3, m3, p3, hE3, rfl, rfl, rfl⟩ := c_X10_thrown (d := 11) (S := mI L xs) (fz := fz1) (m := m2) (p := p1) (by omega) w hP ht (by omega)
  have hwr : rg (w : Int) := ⟨by omega, by omega⟩
  refine rw_blk lk_L_law_1241 ?_
  refine rw_of (fun rr hrr => q_aload_n rfl (q_aload_n rfl (q_iload rfl (q_iconst (q_iadd (q_iald0 (j := i + 1) (by omega) (by omega) hL (q_aload_n rfl (q_iload rfl (q_iconst (q_iadd (q_iald0 (j := i + 2) (by omega) (by omega) hL (q_aload_n rfl (q_invS hE1 rfl rfl (okar_cons rfl (okar_cons rfl (okar_cons rfl (okar_cons rfl okar_nil)))) (Nat.le_of_ble_eq_true rfl) (q_istore (Nat.le_of_ble_eq_true rfl) rfl (q_aload_n rfl (q_aload_n rfl (q_iload rfl (q_iconst (q_iadd (q_iald0 (j := i + 1) (by omega) (by omega) hL (q_aload_n rfl (q_iload rfl (q_iconst (q_iadd (q_iald0 (j := i + 2) (by omega) (by omega) hL (q_invV hE2 (show SH 261 = (18, 0) from rfl) rfl rfl (okar_cons rfl (okar_cons rfl okar_nil)) (Nat.le_of_ble_eq_true rfl) (q_istore (Nat.le_of_ble_eq_true rfl) rfl (q_aload_n rfl (q_invV hE3 (show SH 261 = (18, 0) from rfl) rfl rfl okar_nil (Nat.le_of_ble_eq_true rfl) (q_iload rfl hrr)))))))))))))))))))))))))))))) ?_
  refine rw_icmp_eq hwr hwr (t := 1289) rfl (fun _ => ?_) (fun hc => absurd rfl hc)
  refine rw_blk lk_L_law_1289 ?_
  refine rw_of (fun rr hrr => q_iload rfl hrr) ?_
  have hjoin : Rw (Ev 11) k_L_law (1306, [], [some (.ref 0), some (.ref 1), some (.ref 261), some (.ref 280), some (.int (iI (((i : Nat) : Int)))), some (.int (iI (w : Int))), some (.int (iI b))], [], hpM (mI L xs) fz1 (m2, p1), c + c1, s + s1) Q := by
    refine rw_blk lk_L_law_1306 ?_
    exact rw_of (fun rr hrr => q_goto (t := 1741) rfl hrr) (hn _ _ _ _ _ _ _ hc1 hs1 hR hP)
  refine rw_if_ne hwr (t := 1306) rfl (fun _ => hjoin) (fun hc => ?_)
  have hw0 : w = 0 := (by omega)
  have hbv := hbe hw0
  subst hbv
  refine rw_of (fun rr hrr => q_aload_n rfl (q_iconst (q_lald (j := 0) (w := 1) (show SH 280 = (2, 1) from rfl) rfl Nat.zero_lt_one (q_iload rfl (q_i2l hrr))))) ?_
  refine rw_of (fun rr hrr => q_lcmp hrr) ?_
  rw [lg_same]
  refine rw_if_eq ⟨by omega, by omega⟩ (t := 1306) rfl (fun _ => hjoin) (fun hc => absurd rfl hc)
theorem lc_17 {L : Nat} {xs : Nat → Int32} {fz : Bool} {m : M1} {p : M2} {i c s : Nat} {x5 x6 : Option Value} {Q : Res → Prop} (hi : i + 5 < L) (hL : L ≤ 3072) (h : SM (mI L xs) [.ref 1, .int (iI (xs (i + 1)).toInt), .int (iI (xs (i + 2)).toInt), .ref 280] [.ref 261, .int (iI (xs (i + 1)).toInt), .int (iI (xs (i + 2)).toInt)] k_L_gainAnew k_X10_gainAnew fz m p) (hn : ∀ fz1 m1 p1 y5 y6 c1 s1, c1 ≤ 1 → s1 ≤ 6 → RX m1 → PI p1 → Rw (Ev 11) k_L_law (1741, [], [some (.ref 0), some (.ref 1), some (.ref 261), some (.ref 280), some (.int (iI (((i : Nat) : Int)))), y5, y6], [], hpM (mI L xs) fz1 (m1, p1), c + c1, s + s1) Q) : Rw (Ev 11) k_L_law (1309, [], [some (.ref 0), some (.ref 1), some (.ref 261), some (.ref 280), some (.int (iI (((i : Nat) : Int)))), x5, x6], [], hpM (mI L xs) fz (m, p), c, s) Q := by
  obtain ⟨w, b, m1, p1, m2, fz1, c1, s1, hE1, hc1, hs1, hw, hE2, hbr, ht, hbe, hR, hP⟩ := h
  obtain ⟨v3, m3, p3, hE3, rfl, rfl, rfl⟩ := c_X10_thrown (d := 11) (S := mI L xs) (fz := fz1) (m := m2) (p := p1) (by omega) w hP ht (by omega)
  have hwr : rg (w : Int) := ⟨by omega, by omega⟩
  refine rw_blk lk_L_law_1309 ?_
  refine rw_of (fun rr hrr => q_aload_n rfl (q_aload_n rfl (q_iload rfl (q_iconst (q_iadd (q_iald0 (j := i + 1) (by omega) (by omega) hL (q_aload_n rfl (q_iload rfl (q_iconst (q_iadd (q_iald0 (j := i + 2) (by omega) (by omega) hL (q_aload_n rfl (q_invS hE1 rfl rfl (okar_cons rfl (okar_cons rfl (okar_cons rfl (okar_cons rfl okar_nil)))) (Nat.le_of_ble_eq_true rfl) (q_istore (Nat.le_of_ble_eq_true rfl) rfl (q_aload_n rfl (q_aload_n rfl (q_iload rfl (q_iconst (q_iadd (q_iald0 (j := i + 1) (by omega) (by omega) hL (q_aload_n rfl (q_iload rfl (q_iconst (q_iadd (q_iald0 (j := i + 2) (by omega) (by omega) hL (q_invV hE2 (show SH 261 = (18, 0) from rfl) rfl rfl (okar_cons rfl (okar_cons rfl okar_nil)) (Nat.le_of_ble_eq_true rfl) (q_istore (Nat.le_of_ble_eq_true rfl) rfl (q_aload_n rfl (q_invV hE3 (show SH 261 = (18, 0) from rfl) rfl rfl okar_nil (Nat.le_of_ble_eq_true rfl) (q_iload rfl hrr)))))))))))))))))))))))))))))) ?_
  refine rw_icmp_eq hwr hwr (t := 1357) rfl (fun _ => ?_) (fun hc => absurd rfl hc)
  refine rw_blk lk_L_law_1357 ?_
  refine rw_of (fun rr hrr => q_iload rfl hrr) ?_
  have hjoin : Rw (Ev 11) k_L_law (1374, [], [some (.ref 0), some (.ref 1), some (.ref 261), some (.ref 280), some (.int (iI (((i : Nat) : Int)))), some (.int (iI (w : Int))), some (.int (iI b))], [], hpM (mI L xs) fz1 (m2, p1), c + c1, s + s1) Q := by
    refine rw_blk lk_L_law_1374 ?_
    exact rw_of (fun rr hrr => q_goto (t := 1741) rfl hrr) (hn _ _ _ _ _ _ _ hc1 hs1 hR hP)
  refine rw_if_ne hwr (t := 1374) rfl (fun _ => hjoin) (fun hc => ?_)
  have hw0 : w = 0 := (by omega)
  have hbv := hbe hw0
  subst hbv
  refine rw_of (fun rr hrr => q_aload_n rfl (q_iconst (q_lald (j := 0) (w := 1) (show SH 280 = (2, 1) from rfl) rfl Nat.zero_lt_one (q_iload rfl (q_i2l hrr))))) ?_
  refine rw_of (fun rr hrr => q_lcmp hrr) ?_
  rw [lg_same]
  refine rw_if_eq ⟨by omega, by omega⟩ (t := 1374) rfl (fun _ => hjoin) (fun hc => absurd rfl hc)
theorem lc_18 {L : Nat} {xs : Nat → Int32} {fz : Bool} {m : M1} {p : M2} {i c s : Nat} {x5 x6 : Option Value} {Q : Res → Prop} (hi : i + 5 < L) (hL : L ≤ 3072) (h : SM (mI L xs) [.ref 1, .int (iI (xs (i + 1)).toInt), .int (iI (xs (i + 2)).toInt), .ref 280] [.ref 261, .int (iI (xs (i + 1)).toInt), .int (iI (xs (i + 2)).toInt)] k_L_observer k_X10_observer fz m p) (hn : ∀ fz1 m1 p1 y5 y6 c1 s1, c1 ≤ 1 → s1 ≤ 6 → RX m1 → PI p1 → Rw (Ev 11) k_L_law (1741, [], [some (.ref 0), some (.ref 1), some (.ref 261), some (.ref 280), some (.int (iI (((i : Nat) : Int)))), y5, y6], [], hpM (mI L xs) fz1 (m1, p1), c + c1, s + s1) Q) : Rw (Ev 11) k_L_law (1377, [], [some (.ref 0), some (.ref 1), some (.ref 261), some (.ref 280), some (.int (iI (((i : Nat) : Int)))), x5, x6], [], hpM (mI L xs) fz (m, p), c, s) Q := by
  obtain ⟨w, b, m1, p1, m2, fz1, c1, s1, hE1, hc1, hs1, hw, hE2, hbr, ht, hbe, hR, hP⟩ := h
  obtain ⟨v3, m3, p3, hE3, rfl, rfl, rfl⟩ := c_X10_thrown (d := 11) (S := mI L xs) (fz := fz1) (m := m2) (p := p1) (by omega) w hP ht (by omega)
  have hwr : rg (w : Int) := ⟨by omega, by omega⟩
  refine rw_blk lk_L_law_1377 ?_
  refine rw_of (fun rr hrr => q_aload_n rfl (q_aload_n rfl (q_iload rfl (q_iconst (q_iadd (q_iald0 (j := i + 1) (by omega) (by omega) hL (q_aload_n rfl (q_iload rfl (q_iconst (q_iadd (q_iald0 (j := i + 2) (by omega) (by omega) hL (q_aload_n rfl (q_invS hE1 rfl rfl (okar_cons rfl (okar_cons rfl (okar_cons rfl (okar_cons rfl okar_nil)))) (Nat.le_of_ble_eq_true rfl) (q_istore (Nat.le_of_ble_eq_true rfl) rfl (q_aload_n rfl (q_aload_n rfl (q_iload rfl (q_iconst (q_iadd (q_iald0 (j := i + 1) (by omega) (by omega) hL (q_aload_n rfl (q_iload rfl (q_iconst (q_iadd (q_iald0 (j := i + 2) (by omega) (by omega) hL (q_invV hE2 (show SH 261 = (18, 0) from rfl) rfl rfl (okar_cons rfl (okar_cons rfl okar_nil)) (Nat.le_of_ble_eq_true rfl) (q_istore (Nat.le_of_ble_eq_true rfl) rfl (q_aload_n rfl (q_invV hE3 (show SH 261 = (18, 0) from rfl) rfl rfl okar_nil (Nat.le_of_ble_eq_true rfl) (q_iload rfl hrr)))))))))))))))))))))))))))))) ?_
  refine rw_icmp_eq hwr hwr (t := 1425) rfl (fun _ => ?_) (fun hc => absurd rfl hc)
  refine rw_blk lk_L_law_1425 ?_
  refine rw_of (fun rr hrr => q_iload rfl hrr) ?_
  have hjoin : Rw (Ev 11) k_L_law (1442, [], [some (.ref 0), some (.ref 1), some (.ref 261), some (.ref 280), some (.int (iI (((i : Nat) : Int)))), some (.int (iI (w : Int))), some (.int (iI b))], [], hpM (mI L xs) fz1 (m2, p1), c + c1, s + s1) Q := by
    refine rw_blk lk_L_law_1442 ?_
    exact rw_of (fun rr hrr => q_goto (t := 1741) rfl hrr) (hn _ _ _ _ _ _ _ hc1 hs1 hR hP)
  refine rw_if_ne hwr (t := 1442) rfl (fun _ => hjoin) (fun hc => ?_)
  have hw0 : w = 0 := (by omega)
  have hbv := hbe hw0
  subst hbv
  refine rw_of (fun rr hrr => q_aload_n rfl (q_iconst (q_lald (j := 0) (w := 1) (show SH 280 = (2, 1) from rfl) rfl Nat.zero_lt_one (q_iload rfl (q_i2l hrr))))) ?_
  refine rw_of (fun rr hrr => q_lcmp hrr) ?_
  rw [lg_same]
  refine rw_if_eq ⟨by omega, by omega⟩ (t := 1442) rfl (fun _ => hjoin) (fun hc => absurd rfl hc)
theorem lc_19 {L : Nat} {xs : Nat → Int32} {fz : Bool} {m : M1} {p : M2} {i c s : Nat} {x5 x6 : Option Value} {Q : Res → Prop} (hi : i + 5 < L) (hL : L ≤ 3072) (h : SM (mI L xs) [.ref 1, .int (iI (xs (i + 1)).toInt), .int (iI (xs (i + 2)).toInt), .int (iI (xs (i + 3)).toInt), .int (iI (xs (i + 4)).toInt), .ref 280] [.ref 261, .int (iI (xs (i + 1)).toInt), .int (iI (xs (i + 2)).toInt), .int (iI (xs (i + 3)).toInt), .int (iI (xs (i + 4)).toInt)] k_L_cost k_X10_cost fz m p) (hn : ∀ fz1 m1 p1 y5 y6 c1 s1, c1 ≤ 1 → s1 ≤ 6 → RX m1 → PI p1 → Rw (Ev 11) k_L_law (1741, [], [some (.ref 0), some (.ref 1), some (.ref 261), some (.ref 280), some (.int (iI (((i : Nat) : Int)))), y5, y6], [], hpM (mI L xs) fz1 (m1, p1), c + c1, s + s1) Q) : Rw (Ev 11) k_L_law (1445, [], [some (.ref 0), some (.ref 1), some (.ref 261), some (.ref 280), some (.int (iI (((i : Nat) : Int)))), x5, x6], [], hpM (mI L xs) fz (m, p), c, s) Q := by
  obtain ⟨w, b, m1, p1, m2, fz1, c1, s1, hE1, hc1, hs1, hw, hE2, hbr, ht, hbe, hR, hP⟩ := h
  obtain ⟨v3, m3, p3, hE3, rfl, rfl, rfl⟩ := c_X10_thrown (d := 11) (S := mI L xs) (fz := fz1) (m := m2) (p := p1) (by omega) w hP ht (by omega)
  have hwr : rg (w : Int) := ⟨by omega, by omega⟩
  refine rw_blk lk_L_law_1445 ?_
  refine rw_of (fun rr hrr => q_aload_n rfl (q_aload_n rfl (q_iload rfl (q_iconst (q_iadd (q_iald0 (j := i + 1) (by omega) (by omega) hL (q_aload_n rfl (q_iload rfl (q_iconst (q_iadd (q_iald0 (j := i + 2) (by omega) (by omega) hL (q_aload_n rfl (q_iload rfl (q_iconst (q_iadd (q_iald0 (j := i + 3) (by omega) (by omega) hL (q_aload_n rfl (q_iload rfl (q_iconst (q_iadd (q_iald0 (j := i + 4) (by omega) (by omega) hL (q_aload_n rfl (q_invS hE1 rfl rfl (okar_cons rfl (okar_cons rfl (okar_cons rfl (okar_cons rfl (okar_cons rfl (okar_cons rfl okar_nil)))))) (Nat.le_of_ble_eq_true rfl) (q_istore (Nat.le_of_ble_eq_true rfl) rfl (q_aload_n rfl (q_aload_n rfl (q_iload rfl (q_iconst (q_iadd (q_iald0 (j := i + 1) (by omega) (by omega) hL (q_aload_n rfl (q_iload rfl (q_iconst (q_iadd (q_iald0 (j := i + 2) (by omega) (by omega) hL (q_aload_n rfl (q_iload rfl (q_iconst (q_iadd (q_iald0 (j := i + 3) (by omega) (by omega) hL (q_aload_n rfl (q_iload rfl (q_iconst (q_iadd (q_iald0 (j := i + 4) (by omega) (by omega) hL (q_invV hE2 (show SH 261 = (18, 0) from rfl) rfl rfl (okar_cons rfl (okar_cons rfl (okar_cons rfl (okar_cons rfl okar_nil)))) (Nat.le_of_ble_eq_true rfl) (q_istore (Nat.le_of_ble_eq_true rfl) rfl (q_aload_n rfl (q_invV hE3 (show SH 261 = (18, 0) from rfl) rfl rfl okar_nil (Nat.le_of_ble_eq_true rfl) (q_iload rfl hrr)))))))))))))))))))))))))))))))))))))))))))))))))) ?_
  refine rw_icmp_eq hwr hwr (t := 1517) rfl (fun _ => ?_) (fun hc => absurd rfl hc)
  refine rw_blk lk_L_law_1517 ?_
  refine rw_of (fun rr hrr => q_iload rfl hrr) ?_
  have hjoin : Rw (Ev 11) k_L_law (1534, [], [some (.ref 0), some (.ref 1), some (.ref 261), some (.ref 280), some (.int (iI (((i : Nat) : Int)))), some (.int (iI (w : Int))), some (.int (iI b))], [], hpM (mI L xs) fz1 (m2, p1), c + c1, s + s1) Q := by
    refine rw_blk lk_L_law_1534 ?_
    exact rw_of (fun rr hrr => q_goto (t := 1741) rfl hrr) (hn _ _ _ _ _ _ _ hc1 hs1 hR hP)
  refine rw_if_ne hwr (t := 1534) rfl (fun _ => hjoin) (fun hc => ?_)
  have hw0 : w = 0 := (by omega)
  have hbv := hbe hw0
  subst hbv
  refine rw_of (fun rr hrr => q_aload_n rfl (q_iconst (q_lald (j := 0) (w := 1) (show SH 280 = (2, 1) from rfl) rfl Nat.zero_lt_one (q_iload rfl (q_i2l hrr))))) ?_
  refine rw_of (fun rr hrr => q_lcmp hrr) ?_
  rw [lg_same]
  refine rw_if_eq ⟨by omega, by omega⟩ (t := 1534) rfl (fun _ => hjoin) (fun hc => absurd rfl hc)
theorem lc_20 {L : Nat} {xs : Nat → Int32} {fz : Bool} {m : M1} {p : M2} {i c s : Nat} {x5 x6 : Option Value} {Q : Res → Prop} (hi : i + 5 < L) (hL : L ≤ 3072) (h : SM (mI L xs) [.ref 1, .int (iI (xs (i + 1)).toInt), .int (iI (xs (i + 2)).toInt), .int (iI (xs (i + 3)).toInt), .int (iI (xs (i + 4)).toInt), .ref 280] [.ref 261, .int (iI (xs (i + 1)).toInt), .int (iI (xs (i + 2)).toInt), .int (iI (xs (i + 3)).toInt), .int (iI (xs (i + 4)).toInt)] k_L_costAnew k_X10_costAnew fz m p) (hn : ∀ fz1 m1 p1 y5 y6 c1 s1, c1 ≤ 1 → s1 ≤ 6 → RX m1 → PI p1 → Rw (Ev 11) k_L_law (1741, [], [some (.ref 0), some (.ref 1), some (.ref 261), some (.ref 280), some (.int (iI (((i : Nat) : Int)))), y5, y6], [], hpM (mI L xs) fz1 (m1, p1), c + c1, s + s1) Q) : Rw (Ev 11) k_L_law (1537, [], [some (.ref 0), some (.ref 1), some (.ref 261), some (.ref 280), some (.int (iI (((i : Nat) : Int)))), x5, x6], [], hpM (mI L xs) fz (m, p), c, s) Q := by
  obtain ⟨w, b, m1, p1, m2, fz1, c1, s1, hE1, hc1, hs1, hw, hE2, hbr, ht, hbe, hR, hP⟩ := h
  obtain ⟨v3, m3, p3, hE3, rfl, rfl, rfl⟩ := c_X10_thrown (d := 11) (S := mI L xs) (fz := fz1) (m := m2) (p := p1) (by omega) w hP ht (by omega)
  have hwr : rg (w : Int) := ⟨by omega, by omega⟩
  refine rw_blk lk_L_law_1537 ?_
  refine rw_of (fun rr hrr => q_aload_n rfl (q_aload_n rfl (q_iload rfl (q_iconst (q_iadd (q_iald0 (j := i + 1) (by omega) (by omega) hL (q_aload_n rfl (q_iload rfl (q_iconst (q_iadd (q_iald0 (j := i + 2) (by omega) (by omega) hL (q_aload_n rfl (q_iload rfl (q_iconst (q_iadd (q_iald0 (j := i + 3) (by omega) (by omega) hL (q_aload_n rfl (q_iload rfl (q_iconst (q_iadd (q_iald0 (j := i + 4) (by omega) (by omega) hL (q_aload_n rfl (q_invS hE1 rfl rfl (okar_cons rfl (okar_cons rfl (okar_cons rfl (okar_cons rfl (okar_cons rfl (okar_cons rfl okar_nil)))))) (Nat.le_of_ble_eq_true rfl) (q_istore (Nat.le_of_ble_eq_true rfl) rfl (q_aload_n rfl (q_aload_n rfl (q_iload rfl (q_iconst (q_iadd (q_iald0 (j := i + 1) (by omega) (by omega) hL (q_aload_n rfl (q_iload rfl (q_iconst (q_iadd (q_iald0 (j := i + 2) (by omega) (by omega) hL (q_aload_n rfl (q_iload rfl (q_iconst (q_iadd (q_iald0 (j := i + 3) (by omega) (by omega) hL (q_aload_n rfl (q_iload rfl (q_iconst (q_iadd (q_iald0 (j := i + 4) (by omega) (by omega) hL (q_invV hE2 (show SH 261 = (18, 0) from rfl) rfl rfl (okar_cons rfl (okar_cons rfl (okar_cons rfl (okar_cons rfl okar_nil)))) (Nat.le_of_ble_eq_true rfl) (q_istore (Nat.le_of_ble_eq_true rfl) rfl (q_aload_n rfl (q_invV hE3 (show SH 261 = (18, 0) from rfl) rfl rfl okar_nil (Nat.le_of_ble_eq_true rfl) (q_iload rfl hrr)))))))))))))))))))))))))))))))))))))))))))))))))) ?_
  refine rw_icmp_eq hwr hwr (t := 1609) rfl (fun _ => ?_) (fun hc => absurd rfl hc)
  refine rw_blk lk_L_law_1609 ?_
  refine rw_of (fun rr hrr => q_iload rfl hrr) ?_
  have hjoin : Rw (Ev 11) k_L_law (1626, [], [some (.ref 0), some (.ref 1), some (.ref 261), some (.ref 280), some (.int (iI (((i : Nat) : Int)))), some (.int (iI (w : Int))), some (.int (iI b))], [], hpM (mI L xs) fz1 (m2, p1), c + c1, s + s1) Q := by
    refine rw_blk lk_L_law_1626 ?_
    exact rw_of (fun rr hrr => q_goto (t := 1741) rfl hrr) (hn _ _ _ _ _ _ _ hc1 hs1 hR hP)
  refine rw_if_ne hwr (t := 1626) rfl (fun _ => hjoin) (fun hc => ?_)
  have hw0 : w = 0 := (by omega)
  have hbv := hbe hw0
  subst hbv
  refine rw_of (fun rr hrr => q_aload_n rfl (q_iconst (q_lald (j := 0) (w := 1) (show SH 280 = (2, 1) from rfl) rfl Nat.zero_lt_one (q_iload rfl (q_i2l hrr))))) ?_
  refine rw_of (fun rr hrr => q_lcmp hrr) ?_
  rw [lg_same]
  refine rw_if_eq ⟨by omega, by omega⟩ (t := 1626) rfl (fun _ => hjoin) (fun hc => absurd rfl hc)
theorem lc_21 {L : Nat} {xs : Nat → Int32} {fz : Bool} {m : M1} {p : M2} {i c s : Nat} {x5 x6 : Option Value} {Q : Res → Prop} (hi : i + 5 < L) (hL : L ≤ 3072) (h : SM (mI L xs) [.ref 1, .int (iI (xs (i + 1)).toInt), .ref 280] [.ref 261, .int (iI (xs (i + 1)).toInt)] k_L_least k_X10_least fz m p) (hn : ∀ fz1 m1 p1 y5 y6 c1 s1, c1 ≤ 1 → s1 ≤ 6 → RX m1 → PI p1 → Rw (Ev 11) k_L_law (1741, [], [some (.ref 0), some (.ref 1), some (.ref 261), some (.ref 280), some (.int (iI (((i : Nat) : Int)))), y5, y6], [], hpM (mI L xs) fz1 (m1, p1), c + c1, s + s1) Q) : Rw (Ev 11) k_L_law (1629, [], [some (.ref 0), some (.ref 1), some (.ref 261), some (.ref 280), some (.int (iI (((i : Nat) : Int)))), x5, x6], [], hpM (mI L xs) fz (m, p), c, s) Q := by
  obtain ⟨w, b, m1, p1, m2, fz1, c1, s1, hE1, hc1, hs1, hw, hE2, hbr, ht, hbe, hR, hP⟩ := h
  obtain ⟨v3, m3, p3, hE3, rfl, rfl, rfl⟩ := c_X10_thrown (d := 11) (S := mI L xs) (fz := fz1) (m := m2) (p := p1) (by omega) w hP ht (by omega)
  have hwr : rg (w : Int) := ⟨by omega, by omega⟩
  refine rw_blk lk_L_law_1629 ?_
  refine rw_of (fun rr hrr => q_aload_n rfl (q_aload_n rfl (q_iload rfl (q_iconst (q_iadd (q_iald0 (j := i + 1) (by omega) (by omega) hL (q_aload_n rfl (q_invS hE1 rfl rfl (okar_cons rfl (okar_cons rfl (okar_cons rfl okar_nil))) (Nat.le_of_ble_eq_true rfl) (q_istore (Nat.le_of_ble_eq_true rfl) rfl (q_aload_n rfl (q_aload_n rfl (q_iload rfl (q_iconst (q_iadd (q_iald0 (j := i + 1) (by omega) (by omega) hL (q_invV hE2 (show SH 261 = (18, 0) from rfl) rfl rfl (okar_cons rfl okar_nil) (Nat.le_of_ble_eq_true rfl) (q_istore (Nat.le_of_ble_eq_true rfl) rfl (q_aload_n rfl (q_invV hE3 (show SH 261 = (18, 0) from rfl) rfl rfl okar_nil (Nat.le_of_ble_eq_true rfl) (q_iload rfl hrr)))))))))))))))))))) ?_
  refine rw_icmp_eq hwr hwr (t := 1665) rfl (fun _ => ?_) (fun hc => absurd rfl hc)
  refine rw_blk lk_L_law_1665 ?_
  refine rw_of (fun rr hrr => q_iload rfl hrr) ?_
  have hjoin : Rw (Ev 11) k_L_law (1682, [], [some (.ref 0), some (.ref 1), some (.ref 261), some (.ref 280), some (.int (iI (((i : Nat) : Int)))), some (.int (iI (w : Int))), some (.int (iI b))], [], hpM (mI L xs) fz1 (m2, p1), c + c1, s + s1) Q := by
    refine rw_blk lk_L_law_1682 ?_
    exact rw_of (fun rr hrr => q_goto (t := 1741) rfl hrr) (hn _ _ _ _ _ _ _ hc1 hs1 hR hP)
  refine rw_if_ne hwr (t := 1682) rfl (fun _ => hjoin) (fun hc => ?_)
  have hw0 : w = 0 := (by omega)
  have hbv := hbe hw0
  subst hbv
  refine rw_of (fun rr hrr => q_aload_n rfl (q_iconst (q_lald (j := 0) (w := 1) (show SH 280 = (2, 1) from rfl) rfl Nat.zero_lt_one (q_iload rfl (q_i2l hrr))))) ?_
  refine rw_of (fun rr hrr => q_lcmp hrr) ?_
  rw [lg_same]
  refine rw_if_eq ⟨by omega, by omega⟩ (t := 1682) rfl (fun _ => hjoin) (fun hc => absurd rfl hc)
theorem lc_22 {L : Nat} {xs : Nat → Int32} {fz : Bool} {m : M1} {p : M2} {i c s : Nat} {x5 x6 : Option Value} {Q : Res → Prop} (hi : i + 5 < L) (hL : L ≤ 3072) (h : SM (mI L xs) [.ref 1, .int (iI (xs (i + 1)).toInt), .ref 280] [.ref 261, .int (iI (xs (i + 1)).toInt)] k_L_leastAnew k_X10_leastAnew fz m p) (hn : ∀ fz1 m1 p1 y5 y6 c1 s1, c1 ≤ 1 → s1 ≤ 6 → RX m1 → PI p1 → Rw (Ev 11) k_L_law (1741, [], [some (.ref 0), some (.ref 1), some (.ref 261), some (.ref 280), some (.int (iI (((i : Nat) : Int)))), y5, y6], [], hpM (mI L xs) fz1 (m1, p1), c + c1, s + s1) Q) : Rw (Ev 11) k_L_law (1685, [], [some (.ref 0), some (.ref 1), some (.ref 261), some (.ref 280), some (.int (iI (((i : Nat) : Int)))), x5, x6], [], hpM (mI L xs) fz (m, p), c, s) Q := by
  obtain ⟨w, b, m1, p1, m2, fz1, c1, s1, hE1, hc1, hs1, hw, hE2, hbr, ht, hbe, hR, hP⟩ := h
  obtain ⟨v3, m3, p3, hE3, rfl, rfl, rfl⟩ := c_X10_thrown (d := 11) (S := mI L xs) (fz := fz1) (m := m2) (p := p1) (by omega) w hP ht (by omega)
  have hwr : rg (w : Int) := ⟨by omega, by omega⟩
  refine rw_blk lk_L_law_1685 ?_
  refine rw_of (fun rr hrr => q_aload_n rfl (q_aload_n rfl (q_iload rfl (q_iconst (q_iadd (q_iald0 (j := i + 1) (by omega) (by omega) hL (q_aload_n rfl (q_invS hE1 rfl rfl (okar_cons rfl (okar_cons rfl (okar_cons rfl okar_nil))) (Nat.le_of_ble_eq_true rfl) (q_istore (Nat.le_of_ble_eq_true rfl) rfl (q_aload_n rfl (q_aload_n rfl (q_iload rfl (q_iconst (q_iadd (q_iald0 (j := i + 1) (by omega) (by omega) hL (q_invV hE2 (show SH 261 = (18, 0) from rfl) rfl rfl (okar_cons rfl okar_nil) (Nat.le_of_ble_eq_true rfl) (q_istore (Nat.le_of_ble_eq_true rfl) rfl (q_aload_n rfl (q_invV hE3 (show SH 261 = (18, 0) from rfl) rfl rfl okar_nil (Nat.le_of_ble_eq_true rfl) (q_iload rfl hrr)))))))))))))))))))) ?_
  refine rw_icmp_eq hwr hwr (t := 1721) rfl (fun _ => ?_) (fun hc => absurd rfl hc)
  refine rw_blk lk_L_law_1721 ?_
  refine rw_of (fun rr hrr => q_iload rfl hrr) ?_
  have hjoin : Rw (Ev 11) k_L_law (1738, [], [some (.ref 0), some (.ref 1), some (.ref 261), some (.ref 280), some (.int (iI (((i : Nat) : Int)))), some (.int (iI (w : Int))), some (.int (iI b))], [], hpM (mI L xs) fz1 (m2, p1), c + c1, s + s1) Q := by
    refine rw_blk lk_L_law_1738 ?_
    exact rw_of (fun rr hrr => q_goto (t := 1741) rfl hrr) (hn _ _ _ _ _ _ _ hc1 hs1 hR hP)
  refine rw_if_ne hwr (t := 1738) rfl (fun _ => hjoin) (fun hc => ?_)
  have hw0 : w = 0 := (by omega)
  have hbv := hbe hw0
  subst hbv
  refine rw_of (fun rr hrr => q_aload_n rfl (q_iconst (q_lald (j := 0) (w := 1) (show SH 280 = (2, 1) from rfl) rfl Nat.zero_lt_one (q_iload rfl (q_i2l hrr))))) ?_
  refine rw_of (fun rr hrr => q_lcmp hrr) ?_
  rw [lg_same]
  refine rw_if_eq ⟨by omega, by omega⟩ (t := 1738) rfl (fun _ => hjoin) (fun hc => absurd rfl hc)
theorem lc_6 {L : Nat} {xs : Nat → Int32} {fz : Bool} {m : M1} {p : M2} {i c s : Nat} {x5 x6 : Option Value} {Q : Res → Prop} (hP : PI p) (h : SMc (mI L xs) fz m p) (hn : ∀ fz1 m1 p1 y5 y6 c1 s1, c1 ≤ 1 → s1 ≤ 6 → RX m1 → PI p1 → Rw (Ev 11) k_L_law (1741, [], [some (.ref 0), some (.ref 1), some (.ref 261), some (.ref 280), some (.int (iI (((i : Nat) : Int)))), y5, y6], [], hpM (mI L xs) fz1 (m1, p1), c + c1, s + s1) Q) : Rw (Ev 11) k_L_law (584, [], [some (.ref 0), some (.ref 1), some (.ref 261), some (.ref 280), some (.int (iI (((i : Nat) : Int)))), x5, x6], [], hpM (mI L xs) fz (m, p), c, s) Q := by
  obtain ⟨b, m1, m2, hE1, hE2, hb, hR⟩ := h
  refine rw_blk lk_L_law_584 ?_
  refine rw_of (fun rr hrr => q_aload_n rfl (q_invV hE1 (show SH 1 = (17, 0) from rfl) rfl rfl okar_nil (Nat.le_of_ble_eq_true rfl) (q_aload_n rfl (q_invV hE2 (show SH 261 = (18, 0) from rfl) rfl rfl okar_nil (Nat.le_of_ble_eq_true rfl) hrr)))) ?_
  exact rw_icmp_eq hb hb (t := 1741) rfl (fun _ => hn _ _ _ _ _ 0 0 (Nat.zero_le _) (Nat.zero_le _) hR hP) (fun hc => absurd rfl hc)
/-- one turn -/
theorem law_turn {L : Nat} {xs : Nat → Int32} {fz : Bool} {m : M1} {p : M2} {i c s : Nat} {x5 x6 : Option Value} {Q : Res → Prop} (hi : i + 5 < L) (hL : L ≤ 3072) (hR : RX m) (hP : PI p) (hn : ∀ fz1 m1 p1 y5 y6 c1 s1, c1 ≤ 1 → s1 ≤ 6 → RX m1 → PI p1 → Rw (Ev 11) k_L_law (1741, [], [some (.ref 0), some (.ref 1), some (.ref 261), some (.ref 280), some (.int (iI (((i : Nat) : Int)))), y5, y6], [], hpM (mI L xs) fz1 (m1, p1), c + c1, s + s1) Q) : Rw (Ev 11) k_L_law (23, [], [some (.ref 0), some (.ref 1), some (.ref 261), some (.ref 280), some (.int (iI (((i : Nat) : Int)))), x5, x6], [], hpM (mI L xs) fz (m, p), c, s) Q := by
  obtain ⟨w, hw, hx⟩ := and31 (iI (xs (i + 0)).toInt)
  have hg : ∀ j, rg (xs j).toInt := fun j => rg_of _
  obtain ⟨kk, cp, ci, hRS⟩ := hR
  refine rw_blk lk_L_law_23 ?_
  refine rw_of (fun rr hrr => q_iload rfl (q_aload_n rfl (q_alen0 (q_bipush rfl (q_isub hrr))))) ?_
  refine rw_icmp_gt ⟨by omega, by omega⟩ ⟨by omega, by omega⟩ (t := 1747) rfl (fun hc => ?_) (fun _ => ?_)
  · exfalso
    omega
  refine rw_of (fun rr hrr => q_aload_n rfl (q_iload rfl (q_iald0 (j := i + 0) (by omega) (by omega) hL (q_bipush rfl (q_iand hx hrr))))) ?_
  rcases (show w = 0 ∨ w = 1 ∨ w = 2 ∨ w = 3 ∨ w = 4 ∨ w = 5 ∨ w = 6 ∨ w = 7 ∨ w = 8 ∨ w = 9 ∨ w = 10 ∨ w = 11 ∨ w = 12 ∨ w = 13 ∨ w = 14 ∨ w = 15 ∨ w = 16 ∨ w = 17 ∨ w = 18 ∨ w = 19 ∨ w = 20 ∨ w = 21 ∨ w = 22 ∨ 23 ≤ w by omega) with rfl | rfl | rfl | rfl | rfl | rfl | rfl | rfl | rfl | rfl | rfl | rfl | rfl | rfl | rfl | rfl | rfl | rfl | rfl | rfl | rfl | rfl | rfl | hw23
  · refine rw_of (fun rr hrr => q_table (v := iI ((0 : Nat) : Int)) (t := 148) rfl hrr) ?_
    exact lc_0 hi hL (sm_system hRS hP (xs (i + 1)).toInt (hg _)) hn
  · refine rw_of (fun rr hrr => q_table (v := iI ((1 : Nat) : Int)) (t := 204) rfl hrr) ?_
    exact lc_1 hi hL (sm_set hRS hP (xs (i + 1)).toInt (xs (i + 2)).toInt (xs (i + 3)).toInt (xs (i + 4)).toInt (xs (i + 5)).toInt (hg _) (hg _) (hg _) (hg _) (hg _)) hn
  · refine rw_of (fun rr hrr => q_table (v := iI ((2 : Nat) : Int)) (t := 308) rfl hrr) ?_
    by_cases hb : (xs (i + 3)).toInt = 0
    · exact lc_2_0 hi hL hb (sm_join0 hRS hP (xs (i + 1)).toInt (xs (i + 2)).toInt (hg _) (hg _)) hn
    · exact lc_2_1 hi hL hb (sm_join1 hRS hP (xs (i + 1)).toInt (xs (i + 2)).toInt (hg _) (hg _)) hn
  · refine rw_of (fun rr hrr => q_table (v := iI ((3 : Nat) : Int)) (t := 404) rfl hrr) ?_
    exact lc_3 hi hL (sm_loop hRS hP (xs (i + 1)).toInt (xs (i + 2)).toInt (hg _) (hg _)) hn
  · refine rw_of (fun rr hrr => q_table (v := iI ((4 : Nat) : Int)) (t := 472) rfl hrr) ?_
    exact lc_4 hi hL (sm_pole hRS hP (xs (i + 1)).toInt (hg _)) hn
  · refine rw_of (fun rr hrr => q_table (v := iI ((5 : Nat) : Int)) (t := 528) rfl hrr) ?_
    exact lc_5 hi hL (sm_input hRS hP (xs (i + 1)).toInt (hg _)) hn
  · refine rw_of (fun rr hrr => q_table (v := iI ((6 : Nat) : Int)) (t := 584) rfl hrr) ?_
    exact lc_6 hP (sm_clear hRS hP) hn
  · refine rw_of (fun rr hrr => q_table (v := iI ((7 : Nat) : Int)) (t := 597) rfl hrr) ?_
    exact lc_7 hi hL (sm_placed hRS hP (xs (i + 1)).toInt (hg _)) hn
  · refine rw_of (fun rr hrr => q_table (v := iI ((8 : Nat) : Int)) (t := 653) rfl hrr) ?_
    exact lc_8 hi hL (sm_joined hRS hP (xs (i + 1)).toInt (hg _)) hn
  · refine rw_of (fun rr hrr => q_table (v := iI ((9 : Nat) : Int)) (t := 709) rfl hrr) ?_
    exact lc_9 hi hL (sm_at hRS hP (xs (i + 1)).toInt (xs (i + 2)).toInt (xs (i + 3)).toInt (xs (i + 4)).toInt (hg _) (hg _) (hg _) (hg _)) hn
  · refine rw_of (fun rr hrr => q_table (v := iI ((10 : Nat) : Int)) (t := 801) rfl hrr) ?_
    exact lc_10 hi hL (sm_order hRS hP (xs (i + 1)).toInt (hg _)) hn
  · refine rw_of (fun rr hrr => q_table (v := iI ((11 : Nat) : Int)) (t := 857) rfl hrr) ?_
    by_cases hb : (xs (i + 3)).toInt = 0
    · exact lc_11_0 hi hL hb (sm_polynomial0 hRS hP (xs (i + 1)).toInt (xs (i + 2)).toInt (hg _) (hg _)) hn
    · exact lc_11_1 hi hL hb (sm_polynomial1 hRS hP (xs (i + 1)).toInt (xs (i + 2)).toInt (hg _) (hg _)) hn
  · refine rw_of (fun rr hrr => q_table (v := iI ((12 : Nat) : Int)) (t := 953) rfl hrr) ?_
    by_cases hb : (xs (i + 2)).toInt = 0
    · exact lc_12_0 hi hL hb (sm_rank0 hRS hP (xs (i + 1)).toInt (hg _)) hn
    · exact lc_12_1 hi hL hb (sm_rank1 hRS hP (xs (i + 1)).toInt (hg _)) hn
  · refine rw_of (fun rr hrr => q_table (v := iI ((13 : Nat) : Int)) (t := 1037) rfl hrr) ?_
    exact lc_13 hi hL (sm_number hRS hP (xs (i + 1)).toInt (xs (i + 2)).toInt (hg _) (hg _)) hn
  · refine rw_of (fun rr hrr => q_table (v := iI ((14 : Nat) : Int)) (t := 1105) rfl hrr) ?_
    exact lc_14 hi hL (sm_output hRS hP (xs (i + 1)).toInt (xs (i + 2)).toInt (hg _) (hg _)) hn
  · refine rw_of (fun rr hrr => q_table (v := iI ((15 : Nat) : Int)) (t := 1173) rfl hrr) ?_
    exact lc_15 hi hL (sm_outputAnew hRS hP (xs (i + 1)).toInt (xs (i + 2)).toInt (hg _) (hg _)) hn
  · refine rw_of (fun rr hrr => q_table (v := iI ((16 : Nat) : Int)) (t := 1241) rfl hrr) ?_
    exact lc_16 hi hL (sm_gain hRS hP (xs (i + 1)).toInt (xs (i + 2)).toInt (hg _) (hg _)) hn
  · refine rw_of (fun rr hrr => q_table (v := iI ((17 : Nat) : Int)) (t := 1309) rfl hrr) ?_
    exact lc_17 hi hL (sm_gainAnew hRS hP (xs (i + 1)).toInt (xs (i + 2)).toInt (hg _) (hg _)) hn
  · refine rw_of (fun rr hrr => q_table (v := iI ((18 : Nat) : Int)) (t := 1377) rfl hrr) ?_
    exact lc_18 hi hL (sm_observer hRS hP (xs (i + 1)).toInt (xs (i + 2)).toInt (hg _) (hg _)) hn
  · refine rw_of (fun rr hrr => q_table (v := iI ((19 : Nat) : Int)) (t := 1445) rfl hrr) ?_
    exact lc_19 hi hL (sm_cost hRS hP (xs (i + 1)).toInt (xs (i + 2)).toInt (xs (i + 3)).toInt (xs (i + 4)).toInt (hg _) (hg _) (hg _) (hg _)) hn
  · refine rw_of (fun rr hrr => q_table (v := iI ((20 : Nat) : Int)) (t := 1537) rfl hrr) ?_
    exact lc_20 hi hL (sm_costAnew hRS hP (xs (i + 1)).toInt (xs (i + 2)).toInt (xs (i + 3)).toInt (xs (i + 4)).toInt (hg _) (hg _) (hg _) (hg _)) hn
  · refine rw_of (fun rr hrr => q_table (v := iI ((21 : Nat) : Int)) (t := 1629) rfl hrr) ?_
    exact lc_21 hi hL (sm_least hRS hP (xs (i + 1)).toInt (hg _)) hn
  · refine rw_of (fun rr hrr => q_table (v := iI ((22 : Nat) : Int)) (t := 1685) rfl hrr) ?_
    exact lc_22 hi hL (sm_leastAnew hRS hP (xs (i + 1)).toInt (hg _)) hn
  · have hw9 : ∀ w : Fin 32, 23 ≤ (w : Nat) → (if (iI ((w : Nat) : Int)).toInt < 0 ∨ 22 < (iI ((w : Nat) : Int)).toInt then mk_tg 40 1701 else ((#[108, 164, 268, 364, 432, 488, 544, 557, 613, 669, 761, 817, 913, 997, 1065, 1133, 1201, 1269, 1337, 1405, 1497, 1589, 1645] : Array Int)[((iI ((w : Nat) : Int)).toInt - 0).toNat]?).bind (mk_tg 40)) = some 1741 := by decide
    refine rw_of (fun rr hrr => q_table (v := iI (w : Int)) (t := 1741) (hw9 ⟨w, hw⟩ hw23) hrr) ?_
    exact hn _ _ _ _ _ 0 0 (Nat.zero_le _) (Nat.zero_le _) ⟨kk, cp, ci, hRS⟩ hP
theorem law_loop {L : Nat} {xs : Nat → Int32} (hL : L ≤ 3072) {CC DD : Nat} (t : Nat) : t ≤ 513 → ∀ (fz : Bool) (m : M1) (p : M2) (x5 x6 : Option Value) (c s : Nat), RX m → PI p → c + t ≤ CC → s + 6 * t ≤ DD → Rw (Ev 11) k_L_law (23, [], [some (.ref 0), some (.ref 1), some (.ref 261), some (.ref 280), some (.int (iI (((6 * (513 - t) : Nat) : Int)))), x5, x6], [], hpM (mI L xs) fz (m, p), c, s) (fun r => ∃ h9 c9 s9, r = (.inl (some (.int (iI 1))), h9, c9, s9) ∧ c9 ≤ CC ∧ s9 ≤ DD) := by
  induction t with
  | zero =>
    intro _ fz m p x5 x6 c s hR hP hc hs
    refine rw_blk lk_L_law_23 ?_
    refine rw_of (fun rr hrr => q_iload rfl (q_aload_n rfl (q_alen0 (q_bipush rfl (q_isub hrr))))) ?_
    refine rw_icmp_gt ⟨by omega, by omega⟩ ⟨by omega, by omega⟩ (t := 1747) rfl (fun hc => ?_) (fun hc => absurd hc (by omega))
    refine rw_blk lk_L_law_1747 ?_
    exact rw_end (q_iconst (q_ireturn (Or.inr (Or.inr rfl)))) ⟨_, _, _, rfl, by omega, by omega⟩
  | succ t ih =>
    intro ht fz m p x5 x6 c s hR hP hc hs
    by_cases q : 6 * (513 - (t + 1)) + 5 < L
    · refine law_turn q hL hR hP (fun fz1 m1 p1 y5 y6 c1 s1 h1 h2 hR1 hP1 => ?_)
      refine rw_blk lk_L_law_1741 ?_
      refine rw_of (fun rr hrr => q_iinc rfl rfl (q_goto (t := 23) rfl hrr)) ?_
      have h9 := ih (by omega) fz1 m1 p1 y5 y6 (c + c1) (s + s1) hR1 hP1 (by omega) (by omega)
      rw [show ((6 * (513 - t) : Nat) : Int) = ((6 * (513 - (t + 1)) : Nat) : Int) + 6 by omega] at h9
      exact h9
    · refine rw_blk lk_L_law_23 ?_
      refine rw_of (fun rr hrr => q_iload rfl (q_aload_n rfl (q_alen0 (q_bipush rfl (q_isub hrr))))) ?_
      refine rw_icmp_gt ⟨by omega, by omega⟩ ⟨by omega, by omega⟩ (t := 1747) rfl (fun hc => ?_) (fun hc => absurd hc (by omega))
      refine rw_blk lk_L_law_1747 ?_
      exact rw_end (q_iconst (q_ireturn (Or.inr (Or.inr rfl)))) ⟨_, _, _, rfl, by omega, by omega⟩
