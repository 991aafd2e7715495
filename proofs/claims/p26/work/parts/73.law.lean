/-- what 'at' answers -/
def dta (n : Nat) (W : Nat → Nat → F) : Int := if drk n W = n then dtv n W else 0
def trp (A : Nat → Nat → F) : Nat → Nat → F := fun i j => A j i
theorem c_L_rank {d : Nat} {X : MC} {m : M1} {p : M2} {K : Nat} {sh : Nat → Nat} {nn : N2} (hd : 4 ≤ d) (hK : 260 ≤ K) (w n : Nat) (W : Nat → Nat → F) (hw : Ro K sh w 64) (hn : n ≤ 8) (hW : Mv nn w n W) : Lc d k_L_rank X [.ref (w), .int (iI (((n : Nat) : Int)))] m p K sh nn (fun v m' p' K' sh' n' => v = some (.int (iI ((drk n W : Nat) : Int))) ∧ m = m' ∧ p = p' ∧ FrN (fun a_ => K < a_ ∨ a_ = w) nn n') := by
  obtain ⟨d, rfl⟩ : ∃ e, d = e + 1 := ⟨d - 1, by omega⟩
  have hw8 := hw.1; have hw9 := hw.2.1
  have h9 := dtv_rg (W := W) hn
  refine lc_go (lv := [some (.ref (w)), some (.int (iI (((n : Nat) : Int)))), none]) (B := 0) (Nat.le_of_ble_eq_true rfl) (okar_cons rfl (okar_cons rfl okar_nil)) rfl rfl (fun Qr hQ => ?_)
  refine rw_blk lk_L_rank_0 ?_
  refine rw_of (fun rr hrr => q_aload_n rfl (q_iload_n rfl hrr)) ?_
  obtain ⟨_, mm1, pp1, K1, sh1, e1, cc1, ss1, hV1, hK1, hKB1, hS1, rfl, rfl, rfl, hF1⟩ := c_L_determinant (X := X) (m := m) (p := p) (K := K) (sh := sh) (nn := nn) (d := d) (by omega) (by omega) w n W (hw) hn hW
  have hKB1 : K1 ≤ K + 0 := hKB1
  refine rw_of (fun rr hrr => q_invS hV1 rfl rfl (okar_cons rfl (okar_cons rfl okar_nil)) (Nat.le_of_ble_eq_true rfl) (q_istore_n (Nat.le_of_ble_eq_true rfl) rfl (q_iload_n rfl hrr))) ?_
  refine rw_if_ge ⟨by omega, by omega⟩ (t := 17) rfl (fun hc2 => ?_) (fun hc2 => ?_)
  · skip
    refine rw_blk lk_L_rank_17 ?_
    refine rw_of (fun rr hrr => q_iload_n rfl hrr) ?_
    refine rw_blk lk_L_rank_18 ?_
    refine lw_end hQ (q_ireturn (Or.inl rfl)) (by omega) (by omega) (FrS_tr (by omega) FrS_rfl hS1) ?_
    refine ⟨lvI (by omega), rfl, rfl, fun a9 h9 => (hF1 a9 (by show ¬ (K < a9 ∨ a9 = w); omega))⟩
  · skip
    refine rw_of (fun rr hrr => q_iload_n rfl (q_ldc (v := 1000000) rfl rfl (q_iadd (q_goto (t := 18) rfl hrr)))) ?_
    refine rw_blk lk_L_rank_18 ?_
    refine lw_end hQ (q_ireturn (Or.inl rfl)) (by omega) (by omega) (FrS_tr (by omega) FrS_rfl hS1) ?_
    refine ⟨lvI (by omega), rfl, rfl, fun a9 h9 => (hF1 a9 (by show ¬ (K < a9 ∨ a9 = w); omega))⟩
theorem c_L_value {d : Nat} {X : MC} {m : M1} {p : M2} {K : Nat} {sh : Nat → Nat} {nn : N2} (hd : 1 ≤ d) (hK : 260 ≤ K) (c n : Nat) (x : F) (C : Nat → F) (hc : Ro K sh c 9) (hn : n ≤ 8) (hcv : ∀ i, i < n + 1 → nn c i = vF (C i)) : Lc d k_L_value X [.ref (c), .int (iI (((n : Nat) : Int))), .int (iI (vF (x)))] m p K sh nn (fun v m' p' K' sh' n' => v = some (.int (iI (vF (hor n C x (n + 1))))) ∧ m = m' ∧ p = p' ∧ FrN (fun a_ => K < a_) nn n') := by
  obtain ⟨d, rfl⟩ : ∃ e, d = e + 1 := ⟨d - 1, by omega⟩
  have hc8 := hc.1; have hc9 := hc.2.1
  refine lc_go (lv := [some (.ref (c)), some (.int (iI (((n : Nat) : Int)))), some (.int (iI (vF (x)))), none, none]) (B := 0) (Nat.le_of_ble_eq_true rfl) (okar_cons rfl (okar_cons rfl (okar_cons rfl okar_nil))) rfl rfl (fun Qr hQ => ?_)
  refine rw_blk lk_L_value_0 ?_
  refine rw_of (fun rr hrr => q_iconst (q_istore_n (Nat.le_of_ble_eq_true rfl) rfl (q_iload_n rfl (q_istore (Nat.le_of_ble_eq_true rfl) rfl hrr)))) ?_
  have hL5 : ∀ t, t ≤ n + 1 → ∀ (cc ss : Nat) , Rw (Ev d) k_L_value (5, [], [some (.ref (c)), some (.int (iI (((n : Nat) : Int)))), some (.int (iI (vF (x)))), some (.int (iI (vF (hor n C x t)))), some (.int (iI ((((n : Nat) : Int) - ((t : Nat) : Int)))))], [], hB X m p K sh nn, cc, ss) Qr := by
    refine loop_any (fun t hi5 ih5 => ?_)
    intro cc ss
    refine rw_blk lk_L_value_5 ?_
    refine rw_of (fun rr hrr => q_iload rfl hrr) ?_
    refine rw_if_lt ⟨by omega, by omega⟩ (t := 29) rfl (fun hc1 => ?_) (fun hc1 => ?_)
    · skip
      refine rw_blk lk_L_value_29 ?_
      refine rw_of (fun rr hrr => q_iload_n rfl hrr) ?_
      refine lw_end hQ (q_ireturn (Or.inl rfl)) (by omega) (by omega) FrS_rfl ?_
      have hz : t = n + 1 := by omega
      subst hz
      exact ⟨rfl, rfl, rfl, fun a9 h9 => rfl⟩
    · skip
      refine rw_of (fun rr hrr => q_iload_n rfl (q_iload_n rfl (q_imul (q_aload_n rfl (q_iload rfl (q_lald (j := n - t) hc (by omega) (by omega) (hcv (n - t) (by omega)) (q_iadd (q_sipush rfl (q_irem (by have := vF_ge (hor n C x t); have := vF_lt (hor n C x t); have := vF_ge x; have := vF_lt x; have := vF_ge (C (n - t)); have := vF_lt (C (n - t)); have := vF_mul_lt (hor n C x t) x; have := Int.mul_nonneg (vF_ge (hor n C x t)) (vF_ge x); exact ⟨by omega, by omega⟩) ⟨by omega, by omega⟩ (by omega) (remF (by have := vF_ge (hor n C x t); have := vF_lt (hor n C x t); have := vF_ge x; have := vF_lt x; have := vF_ge (C (n - t)); have := vF_lt (C (n - t)); have := vF_mul_lt (hor n C x t) x; have := Int.mul_nonneg (vF_ge (hor n C x t)) (vF_ge x); omega) (show toF (((vF (hor n C x t) * vF (x)) + vF (C (n - t)))) = (((hor n C x t) * (x)) + (C (n - t))) by simp only [toF_add, toF_mul, toF_sub, toF_neg, toF_vF, toF_nat, toF_0, toF_1, toF_M, F_add0, F_0sub])) (q_istore_n (Nat.le_of_ble_eq_true rfl) rfl (q_iinc rfl rfl (q_goto (t := 5) rfl hrr)))))))))))) ?_
      exact rw_cast (ih5 (by omega) _ _) (lcons rfl (lcons rfl (lcons rfl (lcons (lvI (by exact congrArg vF (by first | rfl | grind))) (lcons (lvI (by omega)) rfl))))) rfl
  exact rw_cast (hL5 0 (by omega) _ _) (lcons rfl (lcons rfl (lcons rfl (lcons (lvI (by rfl)) (lcons (lvI (by omega)) rfl))))) rfl
theorem c_L_at0 {d : Nat} {X : MC} {m : M1} {p : M2} {K : Nat} {sh : Nat → Nat} {nn : N2} (hd : 4 ≤ d) (hK : 260 ≤ K) (a b n : Nat) (x : F) (A : Nat → Nat → F) (B C : Nat → F) (ha : Ro K sh a 64) (hb : Ro K sh b 18) (hn : n ≤ 8) (hA : Mv nn a n A) (hbv : ∀ i, i < n → nn b i = vF (B i)) (hcv : ∀ i, i < n → nn b (8 + i) = vF (C i)) (hbn : nn b 17 = (n : Int)) : Lc d k_L_at X [.ref (a), .ref (b), .int (iI (vF (x))), .int (iI (0))] m p K sh nn (fun v m' p' K' sh' n' => v = some (.int (iI (dta n (atM A B C x 0)))) ∧ m = m' ∧ p = p' ∧ FrN (fun a_ => K < a_) nn n') := by
  obtain ⟨d, rfl⟩ : ∃ e, d = e + 1 := ⟨d - 1, by omega⟩
  have ha8 := ha.1; have ha9 := ha.2.1
  have hb8 := hb.1; have hb9 := hb.2.1
  have h9 := dtv_rg (W := atM A B C x 0) hn
  have h8 : K + 1 ≠ a := by omega
  have h7 : K + 1 ≠ b := by omega
  refine lc_go (lv := [some (.ref (a)), some (.ref (b)), some (.int (iI (vF (x)))), some (.int (iI (0))), none, none, none, none]) (B := 1) (Nat.le_of_ble_eq_true rfl) (okar_cons rfl (okar_cons rfl (okar_cons rfl (okar_cons rfl okar_nil)))) rfl rfl (fun Qr hQ => ?_)
  refine rw_blk lk_L_at_0 ?_
  refine rw_of (fun rr hrr => q_bipush rfl (q_lnew (l := 64) (by omega) rfl (by omega) hrr)) ?_
  generalize hu1 : nU nn (K + 1) = e2
  refine rw_of (fun rr hrr => q_astore (Nat.le_of_ble_eq_true rfl) rfl (q_aload_n rfl (q_bipush rfl (q_lald (j := 17) (Ro_new hb) rfl (by omega) ((congrFun (kU hu1 (by omega)) _).trans hbn) (q_istore (Nat.le_of_ble_eq_true rfl) rfl (q_iconst (q_istore (Nat.le_of_ble_eq_true rfl) rfl hrr))))))) ?_
  have hL15 : ∀ i, i ≤ n → ∀ (cc ss : Nat) (nn15 : N2) (x15_7 : Option Value), (FrN (fun a_ => a_ = K + 1) e2 nn15 ∧ (∀ z, z < i → ∀ c, c < n → nn15 (K + 1) (8 * z + c) = vF (atM A B C x 0 z c))) → Rw (Ev d) k_L_at (15, [], [some (.ref (a)), some (.ref (b)), some (.int (iI (vF (x)))), some (.int (iI (0))), some (.ref (K + 1)), some (.int (iI (((n : Nat) : Int)))), some (.int (iI (((i : Nat) : Int)))), x15_7], [], hB X m p (K + 1) (shU sh (K + 1) 64) nn15, cc, ss) Qr := by
    refine loop_any (fun i hi15 ih15 => ?_)
    intro cc ss nn15 x15_7
    intro hI
    obtain ⟨hF15, hI15⟩ := hI
    refine rw_blk lk_L_at_15 ?_
    refine rw_of (fun rr hrr => q_iload rfl (q_iload rfl hrr)) ?_
    refine rw_icmp_ge ⟨by omega, by omega⟩ ⟨by omega, by omega⟩ (t := 100) rfl (fun hc3 => ?_) (fun hc3 => ?_)
    · skip
      refine rw_blk lk_L_at_100 ?_
      refine rw_of (fun rr hrr => q_aload rfl (q_iload rfl hrr)) ?_
      obtain ⟨_, mm4, pp4, K4, sh4, e4, cc4, ss4, hV4, hK4, hKB4, hS4, rfl, rfl, rfl, hF4⟩ := c_L_determinant (X := X) (m := m) (p := p) (K := K + 1) (sh := shU sh (K + 1) 64) (nn := nn15) (d := d) (by omega) (by omega) (K + 1) n (atM A B C x 0) ((Ro_made (by omega))) hn (fun r hr c hc => hI15 r (by omega) c hc)
      have hKB4 : K4 ≤ K + 1 + 0 := hKB4
      refine rw_of (fun rr hrr => q_invS hV4 rfl rfl (okar_cons rfl (okar_cons rfl okar_nil)) (Nat.le_of_ble_eq_true rfl) (q_istore (Nat.le_of_ble_eq_true rfl) rfl (q_iload rfl hrr))) ?_
      refine rw_if_ge ⟨by omega, by omega⟩ (t := 118) rfl (fun hc5 => ?_) (fun hc5 => ?_)
      · skip
        refine rw_blk lk_L_at_118 ?_
        refine rw_of (fun rr hrr => q_iload rfl hrr) ?_
        refine rw_blk lk_L_at_120 ?_
        refine lw_end hQ (q_ireturn (Or.inl rfl)) (by omega) (by omega) (FrS_tr (by omega) (FrS_tr (by omega) FrS_rfl FrS_new) hS4) ?_
        refine ⟨lvI ?_, rfl, rfl, fun a9 h9 => ((hF4 a9 (by show ¬ (K + 1 < a9 ∨ a9 = K + 1); omega)).trans ((hF15 a9 (by show ¬ (a9 = K + 1); omega)).trans (kU hu1 (by omega))))⟩
        unfold dta
        first | (rw [if_pos (by omega)]; done) | (rw [if_neg (by omega)]; done)
      · skip
        refine rw_of (fun rr hrr => q_iconst (q_goto (t := 120) rfl hrr)) ?_
        refine rw_blk lk_L_at_120 ?_
        refine lw_end hQ (q_ireturn (Or.inl rfl)) (by omega) (by omega) (FrS_tr (by omega) (FrS_tr (by omega) FrS_rfl FrS_new) hS4) ?_
        refine ⟨lvI ?_, rfl, rfl, fun a9 h9 => ((hF4 a9 (by show ¬ (K + 1 < a9 ∨ a9 = K + 1); omega)).trans ((hF15 a9 (by show ¬ (a9 = K + 1); omega)).trans (kU hu1 (by omega))))⟩
        unfold dta
        first | (rw [if_pos (by omega)]; done) | (rw [if_neg (by omega)]; done)
    · skip
      refine rw_of (fun rr hrr => q_iconst (q_istore (Nat.le_of_ble_eq_true rfl) rfl hrr)) ?_
      have hL25 : ∀ j, j ≤ n → ∀ (cc ss : Nat) (nn25 : N2), (FrN (fun a_ => a_ = K + 1) nn15 nn25 ∧ (∀ z c, c < n → (z < i ∨ z = i ∧ c < j) → nn25 (K + 1) (8 * z + c) = vF (atM A B C x 0 z c))) → Rw (Ev d) k_L_at (25, [], [some (.ref (a)), some (.ref (b)), some (.int (iI (vF (x)))), some (.int (iI (0))), some (.ref (K + 1)), some (.int (iI (((n : Nat) : Int)))), some (.int (iI (((i : Nat) : Int)))), some (.int (iI (((j : Nat) : Int))))], [], hB X m p (K + 1) (shU sh (K + 1) 64) nn25, cc, ss) Qr := by
        refine loop_any (fun j hi25 ih25 => ?_)
        intro cc ss nn25
        intro hI
        obtain ⟨hF25, hI25⟩ := hI
        refine rw_blk lk_L_at_25 ?_
        refine rw_of (fun rr hrr => q_iload rfl (q_iload rfl hrr)) ?_
        refine rw_icmp_ge ⟨by omega, by omega⟩ ⟨by omega, by omega⟩ (t := 94) rfl (fun hc6 => ?_) (fun hc6 => ?_)
        · skip
          refine rw_blk lk_L_at_94 ?_
          refine rw_of (fun rr hrr => q_iinc rfl rfl (q_goto (t := 15) rfl hrr)) ?_
          have hA7 : ∀ z, z < (i + 1) → ∀ c, c < n → nn25 (K + 1) (8 * z + c) = vF (atM A B C x 0 z c) := by
            exact fun z hz c hc => hI25 z c hc (by omega)
          exact rw_cast (ih15 (by omega) _ _ nn25 (some (.int (iI (((j : Nat) : Int))))) ⟨(fun a9 h9 => ((hF25 a9 (by show ¬ (a9 = K + 1); omega)).trans (hF15 a9 (by show ¬ (a9 = K + 1); omega)))), hA7⟩) (lcons rfl (lcons rfl (lcons rfl (lcons rfl (lcons rfl (lcons rfl (lcons (lvI (by omega)) (lcons rfl rfl)))))))) rfl
        · skip
          refine rw_of (fun rr hrr => q_aload rfl (q_bipush rfl (q_iload rfl (q_imul (q_iload rfl (q_iadd (q_iload rfl (q_iload rfl hrr)))))))) ?_
          refine rw_icmp_ne ⟨by omega, by omega⟩ ⟨by omega, by omega⟩ (t := 53) rfl (fun hc8 => ?_) (fun hc8 => ?_)
          · skip
            refine rw_blk lk_L_at_53 ?_
            refine rw_of (fun rr hrr => q_iconst hrr) ?_
            refine rw_blk lk_L_at_54 ?_
            refine rw_of (fun rr hrr => q_aload_n rfl (q_bipush rfl (q_iload rfl (q_imul (q_iload rfl (q_iadd (q_lald (j := 8 * i + j) (Ro_new ha) (by omega) (by omega) (((congrFun (hF25 a (by show ¬ (a = K + 1); omega)) _).trans ((congrFun (hF15 a (by show ¬ (a = K + 1); omega)) _).trans (congrFun (kU hu1 (by omega)) _))).trans (hA i (by omega) j (by omega))) (q_isub (q_iload_n rfl (q_aload_n rfl (q_iload rfl (q_lald (j := i) (Ro_new hb) rfl (by omega) (((congrFun (hF25 b (by show ¬ (b = K + 1); omega)) _).trans ((congrFun (hF15 b (by show ¬ (b = K + 1); omega)) _).trans (congrFun (kU hu1 (by omega)) _))).trans (hbv i (by omega))) (q_imul (q_eqv (Int.zero_mul _) (q_aload_n rfl (q_bipush rfl (q_iload rfl (q_iadd (q_lald (j := 8 + j) (Ro_new hb) (by omega) (by omega) (((congrFun (hF25 b (by show ¬ (b = K + 1); omega)) _).trans ((congrFun (hF15 b (by show ¬ (b = K + 1); omega)) _).trans (congrFun (kU hu1 (by omega)) _))).trans (hcv j (by omega))) (q_imul (q_eqv (Int.zero_mul _) (q_sipush rfl (q_irem ⟨by omega, by omega⟩ ⟨by omega, by omega⟩ (by omega) (show (0 : Int).tmod 10007 = 0 from rfl) (q_iadd hrr)))))))))))))))))))))))) ?_
            obtain ⟨_, _, _, hV9, rfl, rfl, rfl⟩ := c_L_rest (S := (K + 1, gB X (shU sh (K + 1) 64) nn25)) (fz := false) (m := m) (p := p) (d := d) (by omega) (((0 - vF (A i j)) + 0)) (((0 - (A i j)) + 0)) ⟨by have := vF_ge (A i j); have := vF_lt (A i j); omega, by have := vF_ge (A i j); have := vF_lt (A i j); omega⟩ (by simp only [toF_add, toF_mul, toF_sub, toF_neg, toF_vF, toF_nat, toF_0, toF_1, toF_M, F_add0, F_0sub])
            refine rw_of (fun rr hrr => q_invS hV9 rfl rfl (okar_cons rfl okar_nil) (Nat.le_of_ble_eq_true rfl) (q_last (j := 8 * i + j) (Ro_made (by omega)) (by omega) (by omega) hrr)) ?_
            generalize hm10 : wI nn25 (K + 1) (8 * i + j) (vF (((0 - (A i j)) + 0))) = e11
            refine rw_of (fun rr hrr => q_iinc rfl rfl (q_goto (t := 25) rfl hrr)) ?_
            have hA12 : ∀ z c, c < n → (z < i ∨ z = i ∧ c < (j + 1)) → e11 (K + 1) (8 * z + c) = vF (atM A B C x 0 z c) := by
              intro z c hc hz
              by_cases q : z = i ∧ c = j
              · rw [q.1, q.2, kA hm10]
                refine congrArg vF ?_
                unfold atM
                first | (rw [if_pos (by omega)]; grind) | (rw [if_neg (by omega)]; grind)
              · rw [kB hm10 (by omega)]
                exact hI25 z c hc (by omega)
            exact rw_cast (ih25 (by omega) _ _ e11 ⟨(fun a9 h9 => ((kN hm10 (by omega)).trans (hF25 a9 (by show ¬ (a9 = K + 1); omega)))), hA12⟩) (lcons rfl (lcons rfl (lcons rfl (lcons rfl (lcons rfl (lcons rfl (lcons rfl (lcons (lvI (by omega)) rfl)))))))) rfl
          · skip
            refine rw_of (fun rr hrr => q_iload_n rfl (q_goto (t := 54) rfl hrr)) ?_
            refine rw_blk lk_L_at_54 ?_
            refine rw_of (fun rr hrr => q_aload_n rfl (q_bipush rfl (q_iload rfl (q_imul (q_iload rfl (q_iadd (q_lald (j := 8 * i + j) (Ro_new ha) (by omega) (by omega) (((congrFun (hF25 a (by show ¬ (a = K + 1); omega)) _).trans ((congrFun (hF15 a (by show ¬ (a = K + 1); omega)) _).trans (congrFun (kU hu1 (by omega)) _))).trans (hA i (by omega) j (by omega))) (q_isub (q_iload_n rfl (q_aload_n rfl (q_iload rfl (q_lald (j := i) (Ro_new hb) rfl (by omega) (((congrFun (hF25 b (by show ¬ (b = K + 1); omega)) _).trans ((congrFun (hF15 b (by show ¬ (b = K + 1); omega)) _).trans (congrFun (kU hu1 (by omega)) _))).trans (hbv i (by omega))) (q_imul (q_eqv (Int.zero_mul _) (q_aload_n rfl (q_bipush rfl (q_iload rfl (q_iadd (q_lald (j := 8 + j) (Ro_new hb) (by omega) (by omega) (((congrFun (hF25 b (by show ¬ (b = K + 1); omega)) _).trans ((congrFun (hF15 b (by show ¬ (b = K + 1); omega)) _).trans (congrFun (kU hu1 (by omega)) _))).trans (hcv j (by omega))) (q_imul (q_eqv (Int.zero_mul _) (q_sipush rfl (q_irem ⟨by omega, by omega⟩ ⟨by omega, by omega⟩ (by omega) (show (0 : Int).tmod 10007 = 0 from rfl) (q_iadd hrr)))))))))))))))))))))))) ?_
            obtain ⟨_, _, _, hV13, rfl, rfl, rfl⟩ := c_L_rest (S := (K + 1, gB X (shU sh (K + 1) 64) nn25)) (fz := false) (m := m) (p := p) (d := d) (by omega) (((vF (x) - vF (A i j)) + 0)) ((((x) - (A i j)) + 0)) ⟨by have := vF_ge x; have := vF_lt x; have := vF_ge (A i j); have := vF_lt (A i j); omega, by have := vF_ge x; have := vF_lt x; have := vF_ge (A i j); have := vF_lt (A i j); omega⟩ (by simp only [toF_add, toF_mul, toF_sub, toF_neg, toF_vF, toF_nat, toF_0, toF_1, toF_M, F_add0, F_0sub])
            refine rw_of (fun rr hrr => q_invS hV13 rfl rfl (okar_cons rfl okar_nil) (Nat.le_of_ble_eq_true rfl) (q_last (j := 8 * i + j) (Ro_made (by omega)) (by omega) (by omega) hrr)) ?_
            generalize hm14 : wI nn25 (K + 1) (8 * i + j) (vF ((((x) - (A i j)) + 0))) = e16
            refine rw_of (fun rr hrr => q_iinc rfl rfl (q_goto (t := 25) rfl hrr)) ?_
            have hA17 : ∀ z c, c < n → (z < i ∨ z = i ∧ c < (j + 1)) → e16 (K + 1) (8 * z + c) = vF (atM A B C x 0 z c) := by
              intro z c hc hz
              by_cases q : z = i ∧ c = j
              · rw [q.1, q.2, kA hm14]
                refine congrArg vF ?_
                unfold atM
                first | (rw [if_pos (by omega)]; grind) | (rw [if_neg (by omega)]; grind)
              · rw [kB hm14 (by omega)]
                exact hI25 z c hc (by omega)
            exact rw_cast (ih25 (by omega) _ _ e16 ⟨(fun a9 h9 => ((kN hm14 (by omega)).trans (hF25 a9 (by show ¬ (a9 = K + 1); omega)))), hA17⟩) (lcons rfl (lcons rfl (lcons rfl (lcons rfl (lcons rfl (lcons rfl (lcons rfl (lcons (lvI (by omega)) rfl)))))))) rfl
      have hA18 : ∀ z c, c < n → (z < i ∨ z = i ∧ c < 0) → nn15 (K + 1) (8 * z + c) = vF (atM A B C x 0 z c) := by
        exact fun z c hc hz => hI15 z (by omega) c hc
      exact rw_cast (hL25 0 (by omega) _ _ nn15 ⟨(fun _ _ => rfl), hA18⟩) (lcons rfl (lcons rfl (lcons rfl (lcons rfl (lcons rfl (lcons rfl (lcons rfl (lcons (lvI (by omega)) rfl)))))))) rfl
  have hA19 : ∀ z, z < 0 → ∀ c, c < n → e2 (K + 1) (8 * z + c) = vF (atM A B C x 0 z c) := by
    exact fun z hz => absurd hz (Nat.not_lt_zero z)
  exact rw_cast (hL15 0 (by omega) _ _ e2 none ⟨(fun _ _ => rfl), hA19⟩) (lcons rfl (lcons rfl (lcons rfl (lcons rfl (lcons rfl (lcons rfl (lcons (lvI (by omega)) (lcons rfl rfl)))))))) rfl
theorem c_L_at1 {d : Nat} {X : MC} {m : M1} {p : M2} {K : Nat} {sh : Nat → Nat} {nn : N2} (hd : 4 ≤ d) (hK : 260 ≤ K) (a b n : Nat) (x : F) (A : Nat → Nat → F) (B C : Nat → F) (ha : Ro K sh a 64) (hb : Ro K sh b 18) (hn : n ≤ 8) (hA : Mv nn a n A) (hbv : ∀ i, i < n → nn b i = vF (B i)) (hcv : ∀ i, i < n → nn b (8 + i) = vF (C i)) (hbn : nn b 17 = (n : Int)) : Lc d k_L_at X [.ref (a), .ref (b), .int (iI (vF (x))), .int (iI (1))] m p K sh nn (fun v m' p' K' sh' n' => v = some (.int (iI (dta n (atM A B C x 1)))) ∧ m = m' ∧ p = p' ∧ FrN (fun a_ => K < a_) nn n') := by
  obtain ⟨d, rfl⟩ : ∃ e, d = e + 1 := ⟨d - 1, by omega⟩
  have ha8 := ha.1; have ha9 := ha.2.1
  have hb8 := hb.1; have hb9 := hb.2.1
  have h9 := dtv_rg (W := atM A B C x 1) hn
  have h8 : K + 1 ≠ a := by omega
  have h7 : K + 1 ≠ b := by omega
  refine lc_go (lv := [some (.ref (a)), some (.ref (b)), some (.int (iI (vF (x)))), some (.int (iI (1))), none, none, none, none]) (B := 1) (Nat.le_of_ble_eq_true rfl) (okar_cons rfl (okar_cons rfl (okar_cons rfl (okar_cons rfl okar_nil)))) rfl rfl (fun Qr hQ => ?_)
  refine rw_blk lk_L_at_0 ?_
  refine rw_of (fun rr hrr => q_bipush rfl (q_lnew (l := 64) (by omega) rfl (by omega) hrr)) ?_
  generalize hu1 : nU nn (K + 1) = e2
  refine rw_of (fun rr hrr => q_astore (Nat.le_of_ble_eq_true rfl) rfl (q_aload_n rfl (q_bipush rfl (q_lald (j := 17) (Ro_new hb) rfl (by omega) ((congrFun (kU hu1 (by omega)) _).trans hbn) (q_istore (Nat.le_of_ble_eq_true rfl) rfl (q_iconst (q_istore (Nat.le_of_ble_eq_true rfl) rfl hrr))))))) ?_
  have hL15 : ∀ i, i ≤ n → ∀ (cc ss : Nat) (nn15 : N2) (x15_7 : Option Value), (FrN (fun a_ => a_ = K + 1) e2 nn15 ∧ (∀ z, z < i → ∀ c, c < n → nn15 (K + 1) (8 * z + c) = vF (atM A B C x 1 z c))) → Rw (Ev d) k_L_at (15, [], [some (.ref (a)), some (.ref (b)), some (.int (iI (vF (x)))), some (.int (iI (1))), some (.ref (K + 1)), some (.int (iI (((n : Nat) : Int)))), some (.int (iI (((i : Nat) : Int)))), x15_7], [], hB X m p (K + 1) (shU sh (K + 1) 64) nn15, cc, ss) Qr := by
    refine loop_any (fun i hi15 ih15 => ?_)
    intro cc ss nn15 x15_7
    intro hI
    obtain ⟨hF15, hI15⟩ := hI
    refine rw_blk lk_L_at_15 ?_
    refine rw_of (fun rr hrr => q_iload rfl (q_iload rfl hrr)) ?_
    refine rw_icmp_ge ⟨by omega, by omega⟩ ⟨by omega, by omega⟩ (t := 100) rfl (fun hc3 => ?_) (fun hc3 => ?_)
    · skip
      refine rw_blk lk_L_at_100 ?_
      refine rw_of (fun rr hrr => q_aload rfl (q_iload rfl hrr)) ?_
      obtain ⟨_, mm4, pp4, K4, sh4, e4, cc4, ss4, hV4, hK4, hKB4, hS4, rfl, rfl, rfl, hF4⟩ := c_L_determinant (X := X) (m := m) (p := p) (K := K + 1) (sh := shU sh (K + 1) 64) (nn := nn15) (d := d) (by omega) (by omega) (K + 1) n (atM A B C x 1) ((Ro_made (by omega))) hn (fun r hr c hc => hI15 r (by omega) c hc)
      have hKB4 : K4 ≤ K + 1 + 0 := hKB4
      refine rw_of (fun rr hrr => q_invS hV4 rfl rfl (okar_cons rfl (okar_cons rfl okar_nil)) (Nat.le_of_ble_eq_true rfl) (q_istore (Nat.le_of_ble_eq_true rfl) rfl (q_iload rfl hrr))) ?_
      refine rw_if_ge ⟨by omega, by omega⟩ (t := 118) rfl (fun hc5 => ?_) (fun hc5 => ?_)
      · skip
        refine rw_blk lk_L_at_118 ?_
        refine rw_of (fun rr hrr => q_iload rfl hrr) ?_
        refine rw_blk lk_L_at_120 ?_
        refine lw_end hQ (q_ireturn (Or.inl rfl)) (by omega) (by omega) (FrS_tr (by omega) (FrS_tr (by omega) FrS_rfl FrS_new) hS4) ?_
        refine ⟨lvI ?_, rfl, rfl, fun a9 h9 => ((hF4 a9 (by show ¬ (K + 1 < a9 ∨ a9 = K + 1); omega)).trans ((hF15 a9 (by show ¬ (a9 = K + 1); omega)).trans (kU hu1 (by omega))))⟩
        unfold dta
        first | (rw [if_pos (by omega)]; done) | (rw [if_neg (by omega)]; done)
      · skip
        refine rw_of (fun rr hrr => q_iconst (q_goto (t := 120) rfl hrr)) ?_
        refine rw_blk lk_L_at_120 ?_
        refine lw_end hQ (q_ireturn (Or.inl rfl)) (by omega) (by omega) (FrS_tr (by omega) (FrS_tr (by omega) FrS_rfl FrS_new) hS4) ?_
        refine ⟨lvI ?_, rfl, rfl, fun a9 h9 => ((hF4 a9 (by show ¬ (K + 1 < a9 ∨ a9 = K + 1); omega)).trans ((hF15 a9 (by show ¬ (a9 = K + 1); omega)).trans (kU hu1 (by omega))))⟩
        unfold dta
        first | (rw [if_pos (by omega)]; done) | (rw [if_neg (by omega)]; done)
    · skip
      refine rw_of (fun rr hrr => q_iconst (q_istore (Nat.le_of_ble_eq_true rfl) rfl hrr)) ?_
      have hL25 : ∀ j, j ≤ n → ∀ (cc ss : Nat) (nn25 : N2), (FrN (fun a_ => a_ = K + 1) nn15 nn25 ∧ (∀ z c, c < n → (z < i ∨ z = i ∧ c < j) → nn25 (K + 1) (8 * z + c) = vF (atM A B C x 1 z c))) → Rw (Ev d) k_L_at (25, [], [some (.ref (a)), some (.ref (b)), some (.int (iI (vF (x)))), some (.int (iI (1))), some (.ref (K + 1)), some (.int (iI (((n : Nat) : Int)))), some (.int (iI (((i : Nat) : Int)))), some (.int (iI (((j : Nat) : Int))))], [], hB X m p (K + 1) (shU sh (K + 1) 64) nn25, cc, ss) Qr := by
        refine loop_any (fun j hi25 ih25 => ?_)
        intro cc ss nn25
        intro hI
        obtain ⟨hF25, hI25⟩ := hI
        refine rw_blk lk_L_at_25 ?_
        refine rw_of (fun rr hrr => q_iload rfl (q_iload rfl hrr)) ?_
        refine rw_icmp_ge ⟨by omega, by omega⟩ ⟨by omega, by omega⟩ (t := 94) rfl (fun hc6 => ?_) (fun hc6 => ?_)
        · skip
          refine rw_blk lk_L_at_94 ?_
          refine rw_of (fun rr hrr => q_iinc rfl rfl (q_goto (t := 15) rfl hrr)) ?_
          have hA7 : ∀ z, z < (i + 1) → ∀ c, c < n → nn25 (K + 1) (8 * z + c) = vF (atM A B C x 1 z c) := by
            exact fun z hz c hc => hI25 z c hc (by omega)
          exact rw_cast (ih15 (by omega) _ _ nn25 (some (.int (iI (((j : Nat) : Int))))) ⟨(fun a9 h9 => ((hF25 a9 (by show ¬ (a9 = K + 1); omega)).trans (hF15 a9 (by show ¬ (a9 = K + 1); omega)))), hA7⟩) (lcons rfl (lcons rfl (lcons rfl (lcons rfl (lcons rfl (lcons rfl (lcons (lvI (by omega)) (lcons rfl rfl)))))))) rfl
        · skip
          refine rw_of (fun rr hrr => q_aload rfl (q_bipush rfl (q_iload rfl (q_imul (q_iload rfl (q_iadd (q_iload rfl (q_iload rfl hrr)))))))) ?_
          refine rw_icmp_ne ⟨by omega, by omega⟩ ⟨by omega, by omega⟩ (t := 53) rfl (fun hc8 => ?_) (fun hc8 => ?_)
          · skip
            refine rw_blk lk_L_at_53 ?_
            refine rw_of (fun rr hrr => q_iconst hrr) ?_
            refine rw_blk lk_L_at_54 ?_
            refine rw_of (fun rr hrr => q_aload_n rfl (q_bipush rfl (q_iload rfl (q_imul (q_iload rfl (q_iadd (q_lald (j := 8 * i + j) (Ro_new ha) (by omega) (by omega) (((congrFun (hF25 a (by show ¬ (a = K + 1); omega)) _).trans ((congrFun (hF15 a (by show ¬ (a = K + 1); omega)) _).trans (congrFun (kU hu1 (by omega)) _))).trans (hA i (by omega) j (by omega))) (q_isub (q_iload_n rfl (q_aload_n rfl (q_iload rfl (q_lald (j := i) (Ro_new hb) rfl (by omega) (((congrFun (hF25 b (by show ¬ (b = K + 1); omega)) _).trans ((congrFun (hF15 b (by show ¬ (b = K + 1); omega)) _).trans (congrFun (kU hu1 (by omega)) _))).trans (hbv i (by omega))) (q_imul (q_eqv (Int.one_mul _) (q_aload_n rfl (q_bipush rfl (q_iload rfl (q_iadd (q_lald (j := 8 + j) (Ro_new hb) (by omega) (by omega) (((congrFun (hF25 b (by show ¬ (b = K + 1); omega)) _).trans ((congrFun (hF15 b (by show ¬ (b = K + 1); omega)) _).trans (congrFun (kU hu1 (by omega)) _))).trans (hcv j (by omega))) (q_imul (q_sipush rfl (q_irem (rg_times _ _) ⟨by omega, by omega⟩ (by omega) (remF (Int.mul_nonneg (vF_ge _) (vF_ge _)) (show toF ((vF (B i) * vF (C j))) = ((B i) * (C j)) by simp only [toF_add, toF_mul, toF_sub, toF_neg, toF_vF, toF_nat, toF_0, toF_1, toF_M, F_add0, F_0sub])) (q_iadd hrr))))))))))))))))))))))) ?_
            obtain ⟨_, _, _, hV9, rfl, rfl, rfl⟩ := c_L_rest (S := (K + 1, gB X (shU sh (K + 1) 64) nn25)) (fz := false) (m := m) (p := p) (d := d) (by omega) (((0 - vF (A i j)) + vF (((B i) * (C j))))) (((0 - (A i j)) + (((B i) * (C j))))) ⟨by have := vF_ge (A i j); have := vF_lt (A i j); have := vF_ge (((B i) * (C j))); have := vF_lt (((B i) * (C j))); omega, by have := vF_ge (A i j); have := vF_lt (A i j); have := vF_ge (((B i) * (C j))); have := vF_lt (((B i) * (C j))); omega⟩ (by simp only [toF_add, toF_mul, toF_sub, toF_neg, toF_vF, toF_nat, toF_0, toF_1, toF_M, F_add0, F_0sub])
            refine rw_of (fun rr hrr => q_invS hV9 rfl rfl (okar_cons rfl okar_nil) (Nat.le_of_ble_eq_true rfl) (q_last (j := 8 * i + j) (Ro_made (by omega)) (by omega) (by omega) hrr)) ?_
            generalize hm10 : wI nn25 (K + 1) (8 * i + j) (vF (((0 - (A i j)) + (((B i) * (C j)))))) = e11
            refine rw_of (fun rr hrr => q_iinc rfl rfl (q_goto (t := 25) rfl hrr)) ?_
            have hA12 : ∀ z c, c < n → (z < i ∨ z = i ∧ c < (j + 1)) → e11 (K + 1) (8 * z + c) = vF (atM A B C x 1 z c) := by
              intro z c hc hz
              by_cases q : z = i ∧ c = j
              · rw [q.1, q.2, kA hm10]
                refine congrArg vF ?_
                unfold atM
                first | (rw [if_pos (by omega)]; grind) | (rw [if_neg (by omega)]; grind)
              · rw [kB hm10 (by omega)]
                exact hI25 z c hc (by omega)
            exact rw_cast (ih25 (by omega) _ _ e11 ⟨(fun a9 h9 => ((kN hm10 (by omega)).trans (hF25 a9 (by show ¬ (a9 = K + 1); omega)))), hA12⟩) (lcons rfl (lcons rfl (lcons rfl (lcons rfl (lcons rfl (lcons rfl (lcons rfl (lcons (lvI (by omega)) rfl)))))))) rfl
          · skip
            refine rw_of (fun rr hrr => q_iload_n rfl (q_goto (t := 54) rfl hrr)) ?_
            refine rw_blk lk_L_at_54 ?_
            refine rw_of (fun rr hrr => q_aload_n rfl (q_bipush rfl (q_iload rfl (q_imul (q_iload rfl (q_iadd (q_lald (j := 8 * i + j) (Ro_new ha) (by omega) (by omega) (((congrFun (hF25 a (by show ¬ (a = K + 1); omega)) _).trans ((congrFun (hF15 a (by show ¬ (a = K + 1); omega)) _).trans (congrFun (kU hu1 (by omega)) _))).trans (hA i (by omega) j (by omega))) (q_isub (q_iload_n rfl (q_aload_n rfl (q_iload rfl (q_lald (j := i) (Ro_new hb) rfl (by omega) (((congrFun (hF25 b (by show ¬ (b = K + 1); omega)) _).trans ((congrFun (hF15 b (by show ¬ (b = K + 1); omega)) _).trans (congrFun (kU hu1 (by omega)) _))).trans (hbv i (by omega))) (q_imul (q_eqv (Int.one_mul _) (q_aload_n rfl (q_bipush rfl (q_iload rfl (q_iadd (q_lald (j := 8 + j) (Ro_new hb) (by omega) (by omega) (((congrFun (hF25 b (by show ¬ (b = K + 1); omega)) _).trans ((congrFun (hF15 b (by show ¬ (b = K + 1); omega)) _).trans (congrFun (kU hu1 (by omega)) _))).trans (hcv j (by omega))) (q_imul (q_sipush rfl (q_irem (rg_times _ _) ⟨by omega, by omega⟩ (by omega) (remF (Int.mul_nonneg (vF_ge _) (vF_ge _)) (show toF ((vF (B i) * vF (C j))) = ((B i) * (C j)) by simp only [toF_add, toF_mul, toF_sub, toF_neg, toF_vF, toF_nat, toF_0, toF_1, toF_M, F_add0, F_0sub])) (q_iadd hrr))))))))))))))))))))))) ?_
            obtain ⟨_, _, _, hV13, rfl, rfl, rfl⟩ := c_L_rest (S := (K + 1, gB X (shU sh (K + 1) 64) nn25)) (fz := false) (m := m) (p := p) (d := d) (by omega) (((vF (x) - vF (A i j)) + vF (((B i) * (C j))))) ((((x) - (A i j)) + (((B i) * (C j))))) ⟨by have := vF_ge x; have := vF_lt x; have := vF_ge (A i j); have := vF_lt (A i j); have := vF_ge (((B i) * (C j))); have := vF_lt (((B i) * (C j))); omega, by have := vF_ge x; have := vF_lt x; have := vF_ge (A i j); have := vF_lt (A i j); have := vF_ge (((B i) * (C j))); have := vF_lt (((B i) * (C j))); omega⟩ (by simp only [toF_add, toF_mul, toF_sub, toF_neg, toF_vF, toF_nat, toF_0, toF_1, toF_M, F_add0, F_0sub])
            refine rw_of (fun rr hrr => q_invS hV13 rfl rfl (okar_cons rfl okar_nil) (Nat.le_of_ble_eq_true rfl) (q_last (j := 8 * i + j) (Ro_made (by omega)) (by omega) (by omega) hrr)) ?_
            generalize hm14 : wI nn25 (K + 1) (8 * i + j) (vF ((((x) - (A i j)) + (((B i) * (C j)))))) = e16
            refine rw_of (fun rr hrr => q_iinc rfl rfl (q_goto (t := 25) rfl hrr)) ?_
            have hA17 : ∀ z c, c < n → (z < i ∨ z = i ∧ c < (j + 1)) → e16 (K + 1) (8 * z + c) = vF (atM A B C x 1 z c) := by
              intro z c hc hz
              by_cases q : z = i ∧ c = j
              · rw [q.1, q.2, kA hm14]
                refine congrArg vF ?_
                unfold atM
                first | (rw [if_pos (by omega)]; grind) | (rw [if_neg (by omega)]; grind)
              · rw [kB hm14 (by omega)]
                exact hI25 z c hc (by omega)
            exact rw_cast (ih25 (by omega) _ _ e16 ⟨(fun a9 h9 => ((kN hm14 (by omega)).trans (hF25 a9 (by show ¬ (a9 = K + 1); omega)))), hA17⟩) (lcons rfl (lcons rfl (lcons rfl (lcons rfl (lcons rfl (lcons rfl (lcons rfl (lcons (lvI (by omega)) rfl)))))))) rfl
      have hA18 : ∀ z c, c < n → (z < i ∨ z = i ∧ c < 0) → nn15 (K + 1) (8 * z + c) = vF (atM A B C x 1 z c) := by
        exact fun z c hc hz => hI15 z (by omega) c hc
      exact rw_cast (hL25 0 (by omega) _ _ nn15 ⟨(fun _ _ => rfl), hA18⟩) (lcons rfl (lcons rfl (lcons rfl (lcons rfl (lcons rfl (lcons rfl (lcons rfl (lcons (lvI (by omega)) rfl)))))))) rfl
  have hA19 : ∀ z, z < 0 → ∀ c, c < n → e2 (K + 1) (8 * z + c) = vF (atM A B C x 1 z c) := by
    exact fun z hz => absurd hz (Nat.not_lt_zero z)
  exact rw_cast (hL15 0 (by omega) _ _ e2 none ⟨(fun _ _ => rfl), hA19⟩) (lcons rfl (lcons rfl (lcons rfl (lcons rfl (lcons rfl (lcons rfl (lcons (lvI (by omega)) (lcons rfl rfl)))))))) rfl
theorem c_L_goes0 {d : Nat} {X : MC} {m : M1} {p : M2} {K : Nat} {sh : Nat → Nat} {nn : N2} (hd : 1 ≤ d) (hK : 260 ≤ K) (a n x : Nat) (A : Nat → Nat → F) (g : Nat → F) (ha : Ro K sh a 64) (hx : Ro K sh x 8) (hax : a ≠ x) (hn : n ≤ 8) (hA : Mv nn a n A) (hg : ∀ i, i < n → nn x i = vF (g i)) : Lc d k_L_goes X [.ref (a), .int (iI (((n : Nat) : Int))), .ref (x), .int (iI (0))] m p K sh nn (fun v m' p' K' sh' n' => v = none ∧ m = m' ∧ p = p' ∧ FrN (fun a_ => K < a_ ∨ a_ = x) nn n' ∧ ∀ i, i < n → n' x i = vF (dot n (A i) g)) := by
  obtain ⟨d, rfl⟩ : ∃ e, d = e + 1 := ⟨d - 1, by omega⟩
  have ha8 := ha.1; have ha9 := ha.2.1
  have hx8 := hx.1; have hx9 := hx.2.1
  refine lc_go (lv := [some (.ref (a)), some (.int (iI (((n : Nat) : Int)))), some (.ref (x)), some (.int (iI (0))), none, none, none]) (B := 1) (Nat.le_of_ble_eq_true rfl) (okar_cons rfl (okar_cons rfl (okar_cons rfl (okar_cons rfl okar_nil)))) rfl rfl (fun Qr hQ => ?_)
  refine rw_blk lk_L_goes_0 ?_
  refine rw_of (fun rr hrr => q_bipush rfl (q_lnew (l := 8) (by omega) rfl (by omega) hrr)) ?_
  generalize hu1 : nU nn (K + 1) = e2
  refine rw_of (fun rr hrr => q_astore (Nat.le_of_ble_eq_true rfl) rfl (q_iconst (q_istore (Nat.le_of_ble_eq_true rfl) rfl hrr))) ?_
  have hL9 : ∀ i, i ≤ n → ∀ (cc ss : Nat) (nn9 : N2) (x9_6 : Option Value), (FrN (fun a_ => a_ = K + 1) e2 nn9 ∧ ((∀ z, z < i → nn9 (K + 1) z = vF (dot n (A z) g)) ∧ ∀ z, i ≤ z → nn9 (K + 1) z = 0)) → Rw (Ev d) k_L_goes (9, [], [some (.ref (a)), some (.int (iI (((n : Nat) : Int)))), some (.ref (x)), some (.int (iI (0))), some (.ref (K + 1)), some (.int (iI (((i : Nat) : Int)))), x9_6], [], hB X m p (K + 1) (shU sh (K + 1) 8) nn9, cc, ss) Qr := by
    refine loop_any (fun i hi9 ih9 => ?_)
    intro cc ss nn9 x9_6
    intro hI
    obtain ⟨hF9, ⟨hv9, hz9⟩⟩ := hI
    refine rw_blk lk_L_goes_9 ?_
    refine rw_of (fun rr hrr => q_iload rfl (q_iload_n rfl hrr)) ?_
    refine rw_icmp_ge ⟨by omega, by omega⟩ ⟨by omega, by omega⟩ (t := 83) rfl (fun hc3 => ?_) (fun hc3 => ?_)
    · skip
      refine rw_blk lk_L_goes_83 ?_
      refine rw_of (fun rr hrr => q_iconst (q_istore (Nat.le_of_ble_eq_true rfl) rfl hrr)) ?_
      have hL86 : ∀ i2, i2 ≤ n → ∀ (cc ss : Nat) (nn86 : N2) (x86_6 : Option Value), (FrN (fun a_ => a_ = x) nn9 nn86 ∧ (∀ z, z < i2 → nn86 x z = vF (dot n (A z) g))) → Rw (Ev d) k_L_goes (86, [], [some (.ref (a)), some (.int (iI (((n : Nat) : Int)))), some (.ref (x)), some (.int (iI (0))), some (.ref (K + 1)), some (.int (iI (((i2 : Nat) : Int)))), x86_6], [], hB X m p (K + 1) (shU sh (K + 1) 8) nn86, cc, ss) Qr := by
        refine loop_any (fun i2 hi86 ih86 => ?_)
        intro cc ss nn86 x86_6
        intro hI
        obtain ⟨hF86, hv86⟩ := hI
        refine rw_blk lk_L_goes_86 ?_
        refine rw_of (fun rr hrr => q_iload rfl (q_iload_n rfl hrr)) ?_
        refine rw_icmp_ge ⟨by omega, by omega⟩ ⟨by omega, by omega⟩ (t := 107) rfl (fun hc4 => ?_) (fun hc4 => ?_)
        · skip
          refine rw_blk lk_L_goes_107 ?_
          refine lw_end hQ (q_return) (by omega) (by omega) (FrS_tr (by omega) FrS_rfl FrS_new) ?_
          have hz : i2 = n := by omega
          subst hz
          exact ⟨rfl, rfl, rfl, fun a9 h9 => ((hF86 a9 (by show ¬ (a9 = x); omega)).trans ((hF9 a9 (by show ¬ (a9 = K + 1); omega)).trans (kU hu1 (by omega)))), hv86⟩
        · skip
          refine rw_of (fun rr hrr => q_aload_n rfl (q_iload rfl (q_aload rfl (q_iload rfl (q_lald (j := i2) (Ro_made (by omega)) rfl (by omega) ((congrFun (hF86 (K + 1) (by omega)) _).trans (hv9 i2 (by omega))) (q_last (j := i2) (Ro_new hx) rfl (by omega) hrr)))))) ?_
          generalize hm5 : wI nn86 x i2 (vF (dot n (A i2) g)) = e6
          refine rw_of (fun rr hrr => q_iinc rfl rfl (q_goto (t := 86) rfl hrr)) ?_
          have hA7 : ∀ z, z < (i2 + 1) → e6 x z = vF (dot n (A z) g) := by
            intro z hz
            by_cases q : z = i2
            · rw [q]
              exact kA hm5
            · exact (kB hm5 q).trans (hv86 z (by omega))
          exact rw_cast (ih86 (by omega) _ _ e6 x86_6 ⟨(fun a9 h9 => ((kN hm5 (by omega)).trans (hF86 a9 (by show ¬ (a9 = x); omega)))), hA7⟩) (lcons rfl (lcons rfl (lcons rfl (lcons rfl (lcons rfl (lcons (lvI (by omega)) (lcons rfl rfl))))))) rfl
      have hA8 : ∀ z, z < 0 → nn9 x z = vF (dot n (A z) g) := by
        exact fun z hz => absurd hz (Nat.not_lt_zero z)
      exact rw_cast (hL86 0 (by omega) _ _ nn9 x9_6 ⟨(fun _ _ => rfl), hA8⟩) (lcons rfl (lcons rfl (lcons rfl (lcons rfl (lcons rfl (lcons (lvI (by omega)) (lcons rfl rfl))))))) rfl
    · skip
      refine rw_of (fun rr hrr => q_iconst (q_istore (Nat.le_of_ble_eq_true rfl) rfl hrr)) ?_
      have hL18 : ∀ j, j ≤ n → ∀ (cc ss : Nat) (nn18 : N2), (FrN (fun a_ => a_ = K + 1) nn9 nn18 ∧ (nn18 (K + 1) i = vF (dot j (A i) g) ∧ (∀ z, z < i → nn18 (K + 1) z = vF (dot n (A z) g)) ∧ ∀ z, i < z → nn18 (K + 1) z = 0)) → Rw (Ev d) k_L_goes (18, [], [some (.ref (a)), some (.int (iI (((n : Nat) : Int)))), some (.ref (x)), some (.int (iI (0))), some (.ref (K + 1)), some (.int (iI (((i : Nat) : Int)))), some (.int (iI (((j : Nat) : Int))))], [], hB X m p (K + 1) (shU sh (K + 1) 8) nn18, cc, ss) Qr := by
        refine loop_any (fun j hi18 ih18 => ?_)
        intro cc ss nn18
        intro hI
        obtain ⟨hF18, ⟨hv18, hw18, hu18⟩⟩ := hI
        refine rw_blk lk_L_goes_18 ?_
        refine rw_of (fun rr hrr => q_iload rfl (q_iload_n rfl hrr)) ?_
        refine rw_icmp_ge ⟨by omega, by omega⟩ ⟨by omega, by omega⟩ (t := 77) rfl (fun hc10 => ?_) (fun hc10 => ?_)
        · skip
          refine rw_blk lk_L_goes_77 ?_
          refine rw_of (fun rr hrr => q_iinc rfl rfl (q_goto (t := 9) rfl hrr)) ?_
          have hA11 : (∀ z, z < (i + 1) → nn18 (K + 1) z = vF (dot n (A z) g)) ∧ ∀ z, (i + 1) ≤ z → nn18 (K + 1) z = 0 := by
            refine ⟨fun z hz => ?_, fun z hz => hu18 z (by omega)⟩
            by_cases q : z = i
            · rw [q, hv18, show j = n by omega]
            · exact hw18 z (by omega)
          exact rw_cast (ih9 (by omega) _ _ nn18 (some (.int (iI (((j : Nat) : Int))))) ⟨(fun a9 h9 => ((hF18 a9 (by show ¬ (a9 = K + 1); omega)).trans (hF9 a9 (by show ¬ (a9 = K + 1); omega)))), hA11⟩) (lcons rfl (lcons rfl (lcons rfl (lcons rfl (lcons rfl (lcons (lvI (by omega)) (lcons rfl rfl))))))) rfl
        · skip
          refine rw_of (fun rr hrr => q_aload rfl (q_iload rfl (q_aload rfl (q_iload rfl (q_lald (j := i) (Ro_made (by omega)) rfl (by omega) hv18 (q_aload_n rfl (q_iload rfl (q_lald (j := j) (Ro_new hx) rfl (by omega) (((congrFun (hF18 x (by show ¬ (x = K + 1); omega)) _).trans ((congrFun (hF9 x (by show ¬ (x = K + 1); omega)) _).trans (congrFun (kU hu1 (by omega)) _))).trans (hg j (by omega))) (q_iload_n rfl hrr))))))))) ?_
          refine rw_if_eq ⟨by omega, by omega⟩ (t := 54) rfl (fun hc12 => ?_) (fun hc12 => ?_)
          · skip
            refine rw_blk lk_L_goes_54 ?_
            refine rw_of (fun rr hrr => q_aload_n rfl (q_bipush rfl (q_iload rfl (q_imul (q_iload rfl (q_iadd (q_lald (j := 8 * i + j) (Ro_new ha) (by omega) (by omega) (((congrFun (hF18 a (by show ¬ (a = K + 1); omega)) _).trans ((congrFun (hF9 a (by show ¬ (a = K + 1); omega)) _).trans (congrFun (kU hu1 (by omega)) _))).trans (hA i (by omega) j (by omega))) hrr))))))) ?_
            refine rw_blk lk_L_goes_64 ?_
            refine rw_of (fun rr hrr => q_imul (q_iadd (q_sipush rfl (q_irem (by have := vF_ge (dot j (A i) g); have := vF_lt (dot j (A i) g); have := vF_ge (g j); have := vF_lt (g j); have := vF_ge (A i j); have := vF_lt (A i j); have := vF_mul_lt (g j) (A i j); have := Int.mul_nonneg (vF_ge (g j)) (vF_ge (A i j)); exact ⟨by omega, by omega⟩) ⟨by omega, by omega⟩ (by omega) (remF (by have := vF_ge (dot j (A i) g); have := vF_lt (dot j (A i) g); have := vF_ge (g j); have := vF_lt (g j); have := vF_ge (A i j); have := vF_lt (A i j); have := vF_mul_lt (g j) (A i j); have := Int.mul_nonneg (vF_ge (g j)) (vF_ge (A i j)); omega) (show toF ((vF (dot j (A i) g) + (vF (g j) * vF (A i j)))) = ((dot j (A i) g) + ((g j) * (A i j))) by simp only [toF_add, toF_mul, toF_sub, toF_neg, toF_vF, toF_nat, toF_0, toF_1, toF_M, F_add0, F_0sub])) (q_last (j := i) (Ro_made (by omega)) rfl (by omega) hrr))))) ?_
            generalize hm13 : wI nn18 (K + 1) i (vF (((dot j (A i) g) + ((g j) * (A i j))))) = e14
            refine rw_of (fun rr hrr => q_iinc rfl rfl (q_goto (t := 18) rfl hrr)) ?_
            have hA15 : e14 (K + 1) i = vF (dot (j + 1) (A i) g) ∧ (∀ z, z < i → e14 (K + 1) z = vF (dot n (A z) g)) ∧ ∀ z, i < z → e14 (K + 1) z = 0 := by
              refine ⟨(kA hm13).trans (congrArg vF ?_), fun z hz => (kB hm13 (by omega)).trans (hw18 z hz), fun z hz => (kB hm13 (by omega)).trans (hu18 z hz)⟩
              rw [dot_s]
              grind
            exact rw_cast (ih18 (by omega) _ _ e14 ⟨(fun a9 h9 => ((kN hm13 (by omega)).trans (hF18 a9 (by show ¬ (a9 = K + 1); omega)))), hA15⟩) (lcons rfl (lcons rfl (lcons rfl (lcons rfl (lcons rfl (lcons rfl (lcons (lvI (by omega)) rfl))))))) rfl
          · exact absurd hc12 (by decide)
      have hA16 : nn9 (K + 1) i = vF (dot 0 (A i) g) ∧ (∀ z, z < i → nn9 (K + 1) z = vF (dot n (A z) g)) ∧ ∀ z, i < z → nn9 (K + 1) z = 0 := by
        exact ⟨(hz9 i (Nat.le_refl _)).trans vF_0.symm, hv9, fun z hz => hz9 z (by omega)⟩
      exact rw_cast (hL18 0 (by omega) _ _ nn9 ⟨(fun _ _ => rfl), hA16⟩) (lcons rfl (lcons rfl (lcons rfl (lcons rfl (lcons rfl (lcons rfl (lcons (lvI (by omega)) rfl))))))) rfl
  have hA17 : (∀ z, z < 0 → e2 (K + 1) z = vF (dot n (A z) g)) ∧ ∀ z, 0 ≤ z → e2 (K + 1) z = 0 := by
    exact ⟨fun z hz => absurd hz (Nat.not_lt_zero z), fun z _ => kU0 hu1⟩
  exact rw_cast (hL9 0 (by omega) _ _ e2 none ⟨(fun _ _ => rfl), hA17⟩) (lcons rfl (lcons rfl (lcons rfl (lcons rfl (lcons rfl (lcons (lvI (by omega)) (lcons rfl rfl))))))) rfl
theorem c_L_goes1 {d : Nat} {X : MC} {m : M1} {p : M2} {K : Nat} {sh : Nat → Nat} {nn : N2} (hd : 1 ≤ d) (hK : 260 ≤ K) (a n x : Nat) (A : Nat → Nat → F) (g : Nat → F) (ha : Ro K sh a 64) (hx : Ro K sh x 8) (hax : a ≠ x) (hn : n ≤ 8) (hA : Mv nn a n A) (hg : ∀ i, i < n → nn x i = vF (g i)) : Lc d k_L_goes X [.ref (a), .int (iI (((n : Nat) : Int))), .ref (x), .int (iI (1))] m p K sh nn (fun v m' p' K' sh' n' => v = none ∧ m = m' ∧ p = p' ∧ FrN (fun a_ => K < a_ ∨ a_ = x) nn n' ∧ ∀ i, i < n → n' x i = vF (dot n (fun zz => A zz i) g)) := by
  obtain ⟨d, rfl⟩ : ∃ e, d = e + 1 := ⟨d - 1, by omega⟩
  have ha8 := ha.1; have ha9 := ha.2.1
  have hx8 := hx.1; have hx9 := hx.2.1
  refine lc_go (lv := [some (.ref (a)), some (.int (iI (((n : Nat) : Int)))), some (.ref (x)), some (.int (iI (1))), none, none, none]) (B := 1) (Nat.le_of_ble_eq_true rfl) (okar_cons rfl (okar_cons rfl (okar_cons rfl (okar_cons rfl okar_nil)))) rfl rfl (fun Qr hQ => ?_)
  refine rw_blk lk_L_goes_0 ?_
  refine rw_of (fun rr hrr => q_bipush rfl (q_lnew (l := 8) (by omega) rfl (by omega) hrr)) ?_
  generalize hu1 : nU nn (K + 1) = e2
  refine rw_of (fun rr hrr => q_astore (Nat.le_of_ble_eq_true rfl) rfl (q_iconst (q_istore (Nat.le_of_ble_eq_true rfl) rfl hrr))) ?_
  have hL9 : ∀ i, i ≤ n → ∀ (cc ss : Nat) (nn9 : N2) (x9_6 : Option Value), (FrN (fun a_ => a_ = K + 1) e2 nn9 ∧ ((∀ z, z < i → nn9 (K + 1) z = vF (dot n (fun zz => A zz z) g)) ∧ ∀ z, i ≤ z → nn9 (K + 1) z = 0)) → Rw (Ev d) k_L_goes (9, [], [some (.ref (a)), some (.int (iI (((n : Nat) : Int)))), some (.ref (x)), some (.int (iI (1))), some (.ref (K + 1)), some (.int (iI (((i : Nat) : Int)))), x9_6], [], hB X m p (K + 1) (shU sh (K + 1) 8) nn9, cc, ss) Qr := by
    refine loop_any (fun i hi9 ih9 => ?_)
    intro cc ss nn9 x9_6
    intro hI
    obtain ⟨hF9, ⟨hv9, hz9⟩⟩ := hI
    refine rw_blk lk_L_goes_9 ?_
    refine rw_of (fun rr hrr => q_iload rfl (q_iload_n rfl hrr)) ?_
    refine rw_icmp_ge ⟨by omega, by omega⟩ ⟨by omega, by omega⟩ (t := 83) rfl (fun hc3 => ?_) (fun hc3 => ?_)
    · skip
      refine rw_blk lk_L_goes_83 ?_
      refine rw_of (fun rr hrr => q_iconst (q_istore (Nat.le_of_ble_eq_true rfl) rfl hrr)) ?_
      have hL86 : ∀ i2, i2 ≤ n → ∀ (cc ss : Nat) (nn86 : N2) (x86_6 : Option Value), (FrN (fun a_ => a_ = x) nn9 nn86 ∧ (∀ z, z < i2 → nn86 x z = vF (dot n (fun zz => A zz z) g))) → Rw (Ev d) k_L_goes (86, [], [some (.ref (a)), some (.int (iI (((n : Nat) : Int)))), some (.ref (x)), some (.int (iI (1))), some (.ref (K + 1)), some (.int (iI (((i2 : Nat) : Int)))), x86_6], [], hB X m p (K + 1) (shU sh (K + 1) 8) nn86, cc, ss) Qr := by
        refine loop_any (fun i2 hi86 ih86 => ?_)
        intro cc ss nn86 x86_6
        intro hI
        obtain ⟨hF86, hv86⟩ := hI
        refine rw_blk lk_L_goes_86 ?_
        refine rw_of (fun rr hrr => q_iload rfl (q_iload_n rfl hrr)) ?_
        refine rw_icmp_ge ⟨by omega, by omega⟩ ⟨by omega, by omega⟩ (t := 107) rfl (fun hc4 => ?_) (fun hc4 => ?_)
        · skip
          refine rw_blk lk_L_goes_107 ?_
          refine lw_end hQ (q_return) (by omega) (by omega) (FrS_tr (by omega) FrS_rfl FrS_new) ?_
          have hz : i2 = n := by omega
          subst hz
          exact ⟨rfl, rfl, rfl, fun a9 h9 => ((hF86 a9 (by show ¬ (a9 = x); omega)).trans ((hF9 a9 (by show ¬ (a9 = K + 1); omega)).trans (kU hu1 (by omega)))), hv86⟩
        · skip
          refine rw_of (fun rr hrr => q_aload_n rfl (q_iload rfl (q_aload rfl (q_iload rfl (q_lald (j := i2) (Ro_made (by omega)) rfl (by omega) ((congrFun (hF86 (K + 1) (by omega)) _).trans (hv9 i2 (by omega))) (q_last (j := i2) (Ro_new hx) rfl (by omega) hrr)))))) ?_
          generalize hm5 : wI nn86 x i2 (vF (dot n (fun zz => A zz i2) g)) = e6
          refine rw_of (fun rr hrr => q_iinc rfl rfl (q_goto (t := 86) rfl hrr)) ?_
          have hA7 : ∀ z, z < (i2 + 1) → e6 x z = vF (dot n (fun zz => A zz z) g) := by
            intro z hz
            by_cases q : z = i2
            · rw [q]
              exact kA hm5
            · exact (kB hm5 q).trans (hv86 z (by omega))
          exact rw_cast (ih86 (by omega) _ _ e6 x86_6 ⟨(fun a9 h9 => ((kN hm5 (by omega)).trans (hF86 a9 (by show ¬ (a9 = x); omega)))), hA7⟩) (lcons rfl (lcons rfl (lcons rfl (lcons rfl (lcons rfl (lcons (lvI (by omega)) (lcons rfl rfl))))))) rfl
      have hA8 : ∀ z, z < 0 → nn9 x z = vF (dot n (fun zz => A zz z) g) := by
        exact fun z hz => absurd hz (Nat.not_lt_zero z)
      exact rw_cast (hL86 0 (by omega) _ _ nn9 x9_6 ⟨(fun _ _ => rfl), hA8⟩) (lcons rfl (lcons rfl (lcons rfl (lcons rfl (lcons rfl (lcons (lvI (by omega)) (lcons rfl rfl))))))) rfl
    · skip
      refine rw_of (fun rr hrr => q_iconst (q_istore (Nat.le_of_ble_eq_true rfl) rfl hrr)) ?_
      have hL18 : ∀ j, j ≤ n → ∀ (cc ss : Nat) (nn18 : N2), (FrN (fun a_ => a_ = K + 1) nn9 nn18 ∧ (nn18 (K + 1) i = vF (dot j (fun zz => A zz i) g) ∧ (∀ z, z < i → nn18 (K + 1) z = vF (dot n (fun zz => A zz z) g)) ∧ ∀ z, i < z → nn18 (K + 1) z = 0)) → Rw (Ev d) k_L_goes (18, [], [some (.ref (a)), some (.int (iI (((n : Nat) : Int)))), some (.ref (x)), some (.int (iI (1))), some (.ref (K + 1)), some (.int (iI (((i : Nat) : Int)))), some (.int (iI (((j : Nat) : Int))))], [], hB X m p (K + 1) (shU sh (K + 1) 8) nn18, cc, ss) Qr := by
        refine loop_any (fun j hi18 ih18 => ?_)
        intro cc ss nn18
        intro hI
        obtain ⟨hF18, ⟨hv18, hw18, hu18⟩⟩ := hI
        refine rw_blk lk_L_goes_18 ?_
        refine rw_of (fun rr hrr => q_iload rfl (q_iload_n rfl hrr)) ?_
        refine rw_icmp_ge ⟨by omega, by omega⟩ ⟨by omega, by omega⟩ (t := 77) rfl (fun hc10 => ?_) (fun hc10 => ?_)
        · skip
          refine rw_blk lk_L_goes_77 ?_
          refine rw_of (fun rr hrr => q_iinc rfl rfl (q_goto (t := 9) rfl hrr)) ?_
          have hA11 : (∀ z, z < (i + 1) → nn18 (K + 1) z = vF (dot n (fun zz => A zz z) g)) ∧ ∀ z, (i + 1) ≤ z → nn18 (K + 1) z = 0 := by
            refine ⟨fun z hz => ?_, fun z hz => hu18 z (by omega)⟩
            by_cases q : z = i
            · rw [q, hv18, show j = n by omega]
            · exact hw18 z (by omega)
          exact rw_cast (ih9 (by omega) _ _ nn18 (some (.int (iI (((j : Nat) : Int))))) ⟨(fun a9 h9 => ((hF18 a9 (by show ¬ (a9 = K + 1); omega)).trans (hF9 a9 (by show ¬ (a9 = K + 1); omega)))), hA11⟩) (lcons rfl (lcons rfl (lcons rfl (lcons rfl (lcons rfl (lcons (lvI (by omega)) (lcons rfl rfl))))))) rfl
        · skip
          refine rw_of (fun rr hrr => q_aload rfl (q_iload rfl (q_aload rfl (q_iload rfl (q_lald (j := i) (Ro_made (by omega)) rfl (by omega) hv18 (q_aload_n rfl (q_iload rfl (q_lald (j := j) (Ro_new hx) rfl (by omega) (((congrFun (hF18 x (by show ¬ (x = K + 1); omega)) _).trans ((congrFun (hF9 x (by show ¬ (x = K + 1); omega)) _).trans (congrFun (kU hu1 (by omega)) _))).trans (hg j (by omega))) (q_iload_n rfl hrr))))))))) ?_
          refine rw_if_eq ⟨by omega, by omega⟩ (t := 54) rfl (fun hc12 => ?_) (fun hc12 => ?_)
          · exact absurd hc12 (by decide)
          · skip
            refine rw_of (fun rr hrr => q_aload_n rfl (q_bipush rfl (q_iload rfl (q_imul (q_iload rfl (q_iadd (q_lald (j := 8 * j + i) (Ro_new ha) (by omega) (by omega) (((congrFun (hF18 a (by show ¬ (a = K + 1); omega)) _).trans ((congrFun (hF9 a (by show ¬ (a = K + 1); omega)) _).trans (congrFun (kU hu1 (by omega)) _))).trans (hA j (by omega) i (by omega))) (q_goto (t := 64) rfl hrr)))))))) ?_
            refine rw_blk lk_L_goes_64 ?_
            refine rw_of (fun rr hrr => q_imul (q_iadd (q_sipush rfl (q_irem (by have := vF_ge (dot j (fun zz => A zz i) g); have := vF_lt (dot j (fun zz => A zz i) g); have := vF_ge (g j); have := vF_lt (g j); have := vF_ge (A j i); have := vF_lt (A j i); have := vF_mul_lt (g j) (A j i); have := Int.mul_nonneg (vF_ge (g j)) (vF_ge (A j i)); exact ⟨by omega, by omega⟩) ⟨by omega, by omega⟩ (by omega) (remF (by have := vF_ge (dot j (fun zz => A zz i) g); have := vF_lt (dot j (fun zz => A zz i) g); have := vF_ge (g j); have := vF_lt (g j); have := vF_ge (A j i); have := vF_lt (A j i); have := vF_mul_lt (g j) (A j i); have := Int.mul_nonneg (vF_ge (g j)) (vF_ge (A j i)); omega) (show toF ((vF (dot j (fun zz => A zz i) g) + (vF (g j) * vF (A j i)))) = ((dot j (fun zz => A zz i) g) + ((g j) * (A j i))) by simp only [toF_add, toF_mul, toF_sub, toF_neg, toF_vF, toF_nat, toF_0, toF_1, toF_M, F_add0, F_0sub])) (q_last (j := i) (Ro_made (by omega)) rfl (by omega) hrr))))) ?_
            generalize hm13 : wI nn18 (K + 1) i (vF (((dot j (fun zz => A zz i) g) + ((g j) * (A j i))))) = e14
            refine rw_of (fun rr hrr => q_iinc rfl rfl (q_goto (t := 18) rfl hrr)) ?_
            have hA15 : e14 (K + 1) i = vF (dot (j + 1) (fun zz => A zz i) g) ∧ (∀ z, z < i → e14 (K + 1) z = vF (dot n (fun zz => A zz z) g)) ∧ ∀ z, i < z → e14 (K + 1) z = 0 := by
              refine ⟨(kA hm13).trans (congrArg vF ?_), fun z hz => (kB hm13 (by omega)).trans (hw18 z hz), fun z hz => (kB hm13 (by omega)).trans (hu18 z hz)⟩
              rw [dot_s]
              grind
            exact rw_cast (ih18 (by omega) _ _ e14 ⟨(fun a9 h9 => ((kN hm13 (by omega)).trans (hF18 a9 (by show ¬ (a9 = K + 1); omega)))), hA15⟩) (lcons rfl (lcons rfl (lcons rfl (lcons rfl (lcons rfl (lcons rfl (lcons (lvI (by omega)) rfl))))))) rfl
      have hA16 : nn9 (K + 1) i = vF (dot 0 (fun zz => A zz i) g) ∧ (∀ z, z < i → nn9 (K + 1) z = vF (dot n (fun zz => A zz z) g)) ∧ ∀ z, i < z → nn9 (K + 1) z = 0 := by
        exact ⟨(hz9 i (Nat.le_refl _)).trans vF_0.symm, hv9, fun z hz => hz9 z (by omega)⟩
      exact rw_cast (hL18 0 (by omega) _ _ nn9 ⟨(fun _ _ => rfl), hA16⟩) (lcons rfl (lcons rfl (lcons rfl (lcons rfl (lcons rfl (lcons rfl (lcons (lvI (by omega)) rfl))))))) rfl
  have hA17 : (∀ z, z < 0 → e2 (K + 1) z = vF (dot n (fun zz => A zz z) g)) ∧ ∀ z, 0 ≤ z → e2 (K + 1) z = 0 := by
    exact ⟨fun z hz => absurd hz (Nat.not_lt_zero z), fun z _ => kU0 hu1⟩
  exact rw_cast (hL9 0 (by omega) _ _ e2 none ⟨(fun _ _ => rfl), hA17⟩) (lcons rfl (lcons rfl (lcons rfl (lcons rfl (lcons rfl (lcons (lvI (by omega)) (lcons rfl rfl))))))) rfl
theorem c_L_numbers {d : Nat} {X : MC} {m : M1} {p : M2} {K : Nat} {sh : Nat → Nat} {nn : N2} (hd : 2 ≤ d) (hK : 260 ≤ K) (a b h n : Nat) (A : Nat → Nat → F) (B C : Nat → F) (dd : F) (ha : Ro K sh a 64) (hb : Ro K sh b 18) (hh : Ro K sh h 41) (hah : a ≠ h) (hbh : b ≠ h) (hn : n ≤ 8) (hA : Mv nn a n A) (hbv : ∀ i, i < n → nn b i = vF (B i)) (hcv : ∀ i, i < n → nn b (8 + i) = vF (C i)) (hbn : nn b 17 = (n : Int)) (hbd : nn b 16 = vF dd) : Lc d k_L_numbers X [.ref (a), .ref (b), .ref (h)] m p K sh nn (fun v m' p' K' sh' n' => v = none ∧ m = m' ∧ p = p' ∧ FrN (fun a_ => K < a_ ∨ a_ = h) nn n' ∧ ∀ z, z < 41 → n' h z = vF (hs n A B C dd z)) := by
  obtain ⟨d, rfl⟩ : ∃ e, d = e + 1 := ⟨d - 1, by omega⟩
  have ha8 := ha.1; have ha9 := ha.2.1
  have hb8 := hb.1; have hb9 := hb.2.1
  have hh8 := hh.1; have hh9 := hh.2.1
  refine lc_go (lv := [some (.ref (a)), some (.ref (b)), some (.ref (h)), none, none, none, none]) (B := 42) (Nat.le_of_ble_eq_true rfl) (okar_cons rfl (okar_cons rfl (okar_cons rfl okar_nil))) rfl rfl (fun Qr hQ => ?_)
  refine rw_blk lk_L_numbers_0 ?_
  refine rw_of (fun rr hrr => q_aload_n rfl (q_bipush rfl (q_lald (j := 17) hb rfl (by omega) hbn (q_istore_n (Nat.le_of_ble_eq_true rfl) rfl (q_bipush rfl (q_lnew (l := 8) (by omega) rfl (by omega) hrr)))))) ?_
  generalize hu1 : nU nn (K + 1) = e2
  refine rw_of (fun rr hrr => q_astore (Nat.le_of_ble_eq_true rfl) rfl (q_iconst (q_istore (Nat.le_of_ble_eq_true rfl) rfl hrr))) ?_
  have hL14 : ∀ i, i ≤ n → ∀ (cc ss : Nat) (nn14 : N2), (FrN (fun a_ => a_ = K + 1) e2 nn14 ∧ (∀ z, z < i → nn14 (K + 1) z = vF (B z))) → Rw (Ev d) k_L_numbers (14, [], [some (.ref (a)), some (.ref (b)), some (.ref (h)), some (.int (iI (((n : Nat) : Int)))), some (.ref (K + 1)), some (.int (iI (((i : Nat) : Int)))), none], [], hB X m p (K + 1) (shU sh (K + 1) 8) nn14, cc, ss) Qr := by
    refine loop_any (fun i hi14 ih14 => ?_)
    intro cc ss nn14
    intro hI
    obtain ⟨hF14, hI14⟩ := hI
    refine rw_blk lk_L_numbers_14 ?_
    refine rw_of (fun rr hrr => q_iload rfl (q_iload_n rfl hrr)) ?_
    refine rw_icmp_ge ⟨by omega, by omega⟩ ⟨by omega, by omega⟩ (t := 35) rfl (fun hc3 => ?_) (fun hc3 => ?_)
    · skip
      refine rw_blk lk_L_numbers_35 ?_
      refine rw_of (fun rr hrr => q_aload_n rfl (q_iconst (q_aload_n rfl (q_bipush rfl (q_lald (j := 16) (Ro_new hb) rfl (by omega) (((congrFun (hF14 b (by show ¬ (b = K + 1); omega)) _).trans (congrFun (kU hu1 (by omega)) _)).trans hbd) (q_last (j := 0) (Ro_new hh) rfl (by omega) hrr)))))) ?_
      generalize hm4 : wI nn14 h 0 (vF (dd)) = e5
      refine rw_of (fun rr hrr => q_iconst (q_istore (Nat.le_of_ble_eq_true rfl) rfl hrr)) ?_
      have hL45 : ∀ k, k ≤ 41 → ∀ (cc ss : Nat) (K45 : Nat) (sh45 : Nat → Nat) (nn45 : N2) (x45_6 : Option Value), (K + 1 ≤ K45 ∧ K45 ≤ K + 1 + 1 * k ∧ FrS (K + 1) (shU sh (K + 1) 8) sh45 ∧ FrN (fun a_ => K + 1 < a_ ∨ a_ = h ∨ a_ = K + 1) e5 nn45 ∧ (1 ≤ k ∧ (∀ z, z < k → nn45 h z = vF (hs n A B C dd z)) ∧ ∀ i, i < n → nn45 (K + 1) i = vF (kr n A B (k - 1) i))) → Rw (Ev d) k_L_numbers (45, [], [some (.ref (a)), some (.ref (b)), some (.ref (h)), some (.int (iI (((n : Nat) : Int)))), some (.ref (K + 1)), some (.int (iI (((k : Nat) : Int)))), x45_6], [], hB X m p K45 sh45 nn45, cc, ss) Qr := by
        refine loop_any (fun k hi45 ih45 => ?_)
        intro cc ss K45 sh45 nn45 x45_6
        intro hI
        obtain ⟨hKl45, hBl45, hSl45, hF45, ⟨hk1, hv45, hx45⟩⟩ := hI
        refine rw_blk lk_L_numbers_45 ?_
        refine rw_of (fun rr hrr => q_iload rfl (q_bipush rfl hrr)) ?_
        refine rw_icmp_ge ⟨by omega, by omega⟩ ⟨by omega, by omega⟩ (t := 112) rfl (fun hc6 => ?_) (fun hc6 => ?_)
        · skip
          refine rw_blk lk_L_numbers_112 ?_
          refine lw_end hQ (q_return) (by omega) (by omega) (FrS_tr (by omega) (FrS_tr (by omega) FrS_rfl FrS_new) hSl45) ?_
          exact ⟨rfl, rfl, rfl, fun a9 h9 => ((hF45 a9 (by show ¬ (K + 1 < a9 ∨ a9 = h ∨ a9 = K + 1); omega)).trans ((kN hm4 (by omega)).trans ((hF14 a9 (by show ¬ (a9 = K + 1); omega)).trans (kU hu1 (by omega))))), fun z hz => hv45 z (by omega)⟩
        · skip
          refine rw_of (fun rr hrr => q_aload_n rfl (q_iload rfl (q_iconst (q_last (j := k) (Ro_call hKl45 hSl45 (Ro_new hh)) rfl (by omega) hrr)))) ?_
          generalize hm7 : wI nn45 h k (0) = e8
          refine rw_of (fun rr hrr => q_iconst (q_istore (Nat.le_of_ble_eq_true rfl) rfl hrr)) ?_
          have hL60 : ∀ i, i ≤ n → ∀ (cc ss : Nat) (nn60 : N2), (FrN (fun a_ => a_ = h) e8 nn60 ∧ (nn60 h k = vF (dot i C (kr n A B (k - 1))) ∧ ∀ z, z ≠ k → nn60 h z = nn45 h z)) → Rw (Ev d) k_L_numbers (60, [], [some (.ref (a)), some (.ref (b)), some (.ref (h)), some (.int (iI (((n : Nat) : Int)))), some (.ref (K + 1)), some (.int (iI (((k : Nat) : Int)))), some (.int (iI (((i : Nat) : Int))))], [], hB X m p K45 sh45 nn60, cc, ss) Qr := by
            refine loop_any (fun i hi60 ih60 => ?_)
            intro cc ss nn60
            intro hI
            obtain ⟨hF60, ⟨hv60, hw60⟩⟩ := hI
            refine rw_blk lk_L_numbers_60 ?_
            refine rw_of (fun rr hrr => q_iload rfl (q_iload_n rfl hrr)) ?_
            refine rw_icmp_ge ⟨by omega, by omega⟩ ⟨by omega, by omega⟩ (t := 98) rfl (fun hc9 => ?_) (fun hc9 => ?_)
            · skip
              refine rw_blk lk_L_numbers_98 ?_
              refine rw_of (fun rr hrr => q_aload_n rfl (q_iload_n rfl (q_aload rfl (q_iconst hrr)))) ?_
              obtain ⟨_, mm10, pp10, K10, sh10, e10, cc10, ss10, hV10, hK10, hKB10, hS10, rfl, rfl, rfl, hF10, hv10⟩ := c_L_goes0 (X := X) (m := m) (p := p) (K := K45) (sh := sh45) (nn := nn60) (d := d) (by omega) (by omega) a n (K + 1) A (kr n A B (k - 1)) ((Ro_call hKl45 hSl45 (Ro_new ha))) ((Ro_call hKl45 hSl45 (Ro_made (by omega)))) (by omega) hn (Mv_k hA ((hF60 a (by show ¬ (a = h); omega)).trans ((kN hm7 (by omega)).trans ((hF45 a (by show ¬ (K + 1 < a ∨ a = h ∨ a = K + 1); omega)).trans ((kN hm4 (by omega)).trans ((hF14 a (by show ¬ (a = K + 1); omega)).trans (kU hu1 (by omega)))))))) (fun z hz => (congrFun ((hF60 (K + 1) (by show ¬ ((K + 1) = h); omega)).trans (kN hm7 (by omega))) _).trans (hx45 z hz))
              have hKB10 : K10 ≤ K45 + 1 := hKB10
              refine rw_of (fun rr hrr => q_invS hV10 rfl rfl (okar_cons rfl (okar_cons rfl (okar_cons rfl (okar_cons rfl okar_nil)))) (Nat.le_of_ble_eq_true rfl) (q_iinc rfl rfl (q_goto (t := 45) rfl hrr))) ?_
              have hA11 : 1 ≤ (k + 1) ∧ (∀ z, z < (k + 1) → e10 h z = vF (hs n A B C dd z)) ∧ ∀ i, i < n → e10 (K + 1) i = vF (kr n A B ((k + 1) - 1) i) := by
                refine ⟨by omega, fun z hz => ?_, fun z hz => ?_⟩
                · by_cases q : z = k
                  · rw [q]
                    refine (congrFun (hF10 h (by show ¬ (K45 < h ∨ h = K + 1); omega)) _).trans (hv60.trans (congrArg vF ?_))
                    unfold hs
                    rw [if_neg (by omega), show i = n by omega]
                  · exact (congrFun (hF10 h (by show ¬ (K45 < h ∨ h = K + 1); omega)) _).trans ((hw60 z q).trans (hv45 z (by omega)))
                · rw [hv10 z hz, show k + 1 - 1 = (k - 1) + 1 by omega]
                  rfl
              exact rw_cast (ih45 (by omega) _ _ K10 sh10 e10 (some (.int (iI (((i : Nat) : Int))))) ⟨(by omega), (by omega), ((FrS_tr (by omega) (FrS_tr (by omega) FrS_rfl hSl45) hS10)), (fun a9 h9 => ((hF10 a9 (by show ¬ (K45 < a9 ∨ a9 = K + 1); omega)).trans ((hF60 a9 (by show ¬ (a9 = h); omega)).trans ((kN hm7 (by omega)).trans (hF45 a9 (by show ¬ (K + 1 < a9 ∨ a9 = h ∨ a9 = K + 1); omega)))))), hA11⟩) (lcons rfl (lcons rfl (lcons rfl (lcons rfl (lcons rfl (lcons (lvI (by omega)) (lcons rfl rfl))))))) rfl
            · skip
              refine rw_of (fun rr hrr => q_aload_n rfl (q_iload rfl (q_aload_n rfl (q_iload rfl (q_lald (j := k) (Ro_call hKl45 hSl45 (Ro_new hh)) rfl (by omega) hv60 (q_aload_n rfl (q_bipush rfl (q_iload rfl (q_iadd (q_lald (j := 8 + i) (Ro_call hKl45 hSl45 (Ro_new hb)) (by omega) (by omega) (((congrFun (hF60 b (by show ¬ (b = h); omega)) _).trans ((congrFun (kN hm7 (by omega)) _).trans ((congrFun (hF45 b (by show ¬ (K + 1 < b ∨ b = h ∨ b = K + 1); omega)) _).trans ((congrFun (kN hm4 (by omega)) _).trans ((congrFun (hF14 b (by show ¬ (b = K + 1); omega)) _).trans (congrFun (kU hu1 (by omega)) _)))))).trans (hcv i (by omega))) (q_aload rfl (q_iload rfl (q_lald (j := i) (Ro_call hKl45 hSl45 (Ro_made (by omega))) rfl (by omega) (((congrFun (hF60 (K + 1) (by show ¬ ((K + 1) = h); omega)) _).trans (congrFun (kN hm7 (by omega)) _)).trans (hx45 i (by omega))) (q_imul (q_iadd (q_sipush rfl (q_irem (by have := vF_ge (dot i C (kr n A B (k - 1))); have := vF_lt (dot i C (kr n A B (k - 1))); have := vF_ge (C i); have := vF_lt (C i); have := vF_ge (kr n A B (k - 1) i); have := vF_lt (kr n A B (k - 1) i); have := vF_mul_lt (C i) (kr n A B (k - 1) i); have := Int.mul_nonneg (vF_ge (C i)) (vF_ge (kr n A B (k - 1) i)); exact ⟨by omega, by omega⟩) ⟨by omega, by omega⟩ (by omega) (remF (by have := vF_ge (dot i C (kr n A B (k - 1))); have := vF_lt (dot i C (kr n A B (k - 1))); have := vF_ge (C i); have := vF_lt (C i); have := vF_ge (kr n A B (k - 1) i); have := vF_lt (kr n A B (k - 1) i); have := vF_mul_lt (C i) (kr n A B (k - 1) i); have := Int.mul_nonneg (vF_ge (C i)) (vF_ge (kr n A B (k - 1) i)); omega) (show toF ((vF (dot i C (kr n A B (k - 1))) + (vF (C i) * vF (kr n A B (k - 1) i)))) = ((dot i C (kr n A B (k - 1))) + ((C i) * (kr n A B (k - 1) i))) by simp only [toF_add, toF_mul, toF_sub, toF_neg, toF_vF, toF_nat, toF_0, toF_1, toF_M, F_add0, F_0sub])) (q_last (j := k) (Ro_call hKl45 hSl45 (Ro_new hh)) rfl (by omega) hrr)))))))))))))))))) ?_
              generalize hm12 : wI nn60 h k (vF (((dot i C (kr n A B (k - 1))) + ((C i) * (kr n A B (k - 1) i))))) = e13
              refine rw_of (fun rr hrr => q_iinc rfl rfl (q_goto (t := 60) rfl hrr)) ?_
              have hA15 : e13 h k = vF (dot (i + 1) C (kr n A B (k - 1))) ∧ ∀ z, z ≠ k → e13 h z = nn45 h z := by
                exact ⟨(kA hm12).trans (congrArg vF (by rw [dot_s])), fun z hz => (kB hm12 hz).trans (hw60 z hz)⟩
              exact rw_cast (ih60 (by omega) _ _ e13 ⟨(fun a9 h9 => ((kN hm12 (by omega)).trans (hF60 a9 (by show ¬ (a9 = h); omega)))), hA15⟩) (lcons rfl (lcons rfl (lcons rfl (lcons rfl (lcons rfl (lcons rfl (lcons (lvI (by omega)) rfl))))))) rfl
          have hA16 : e8 h k = vF (dot 0 C (kr n A B (k - 1))) ∧ ∀ z, z ≠ k → e8 h z = nn45 h z := by
            exact ⟨(kA hm7).trans rfl, fun z hz => kB hm7 hz⟩
          exact rw_cast (hL60 0 (by omega) _ _ e8 ⟨(fun _ _ => rfl), hA16⟩) (lcons rfl (lcons rfl (lcons rfl (lcons rfl (lcons rfl (lcons rfl (lcons (lvI (by omega)) rfl))))))) rfl
      have hA17 : 1 ≤ 1 ∧ (∀ z, z < 1 → e5 h z = vF (hs n A B C dd z)) ∧ ∀ i, i < n → e5 (K + 1) i = vF (kr n A B (1 - 1) i) := by
        refine ⟨Nat.le_refl _, fun z hz => ?_, fun z hz => (congrFun (kN hm4 (by omega)) _).trans (hI14 z (by omega))⟩
        have e : z = 0 := by omega
        subst e
        exact (kA hm4).trans rfl
      exact rw_cast (hL45 1 (by omega) _ _ (K + 1) (shU sh (K + 1) 8) e5 none ⟨(by omega), (by omega), (FrS_rfl), (fun _ _ => rfl), hA17⟩) (lcons rfl (lcons rfl (lcons rfl (lcons rfl (lcons rfl (lcons (lvI (by omega)) (lcons rfl rfl))))))) rfl
    · skip
      refine rw_of (fun rr hrr => q_aload rfl (q_iload rfl (q_aload_n rfl (q_iload rfl (q_lald (j := i) (Ro_new hb) rfl (by omega) (((congrFun (hF14 b (by show ¬ (b = K + 1); omega)) _).trans (congrFun (kU hu1 (by omega)) _)).trans (hbv i (by omega))) (q_last (j := i) (Ro_made (by omega)) rfl (by omega) hrr)))))) ?_
      generalize hm18 : wI nn14 (K + 1) i (vF (B i)) = e19
      refine rw_of (fun rr hrr => q_iinc rfl rfl (q_goto (t := 14) rfl hrr)) ?_
      have hA20 : ∀ z, z < (i + 1) → e19 (K + 1) z = vF (B z) := by
        intro z hz
        by_cases q : z = i
        · rw [q]
          exact kA hm18
        · exact (kB hm18 q).trans (hI14 z (by omega))
      exact rw_cast (ih14 (by omega) _ _ e19 ⟨(fun a9 h9 => ((kN hm18 (by omega)).trans (hF14 a9 (by show ¬ (a9 = K + 1); omega)))), hA20⟩) (lcons rfl (lcons rfl (lcons rfl (lcons rfl (lcons rfl (lcons (lvI (by omega)) (lcons rfl rfl))))))) rfl
  have hA21 : ∀ z, z < 0 → e2 (K + 1) z = vF (B z) := by
    exact fun z hz => absurd hz (Nat.not_lt_zero z)
  exact rw_cast (hL14 0 (by omega) _ _ e2 ⟨(fun _ _ => rfl), hA21⟩) (lcons rfl (lcons rfl (lcons rfl (lcons rfl (lcons rfl (lcons (lvI (by omega)) (lcons rfl rfl))))))) rfl
theorem c_L_rankOf0 {d : Nat} {X : MC} {m : M1} {p : M2} {K : Nat} {sh : Nat → Nat} {nn : N2} (hd : 5 ≤ d) (hK : 260 ≤ K) (a b n : Nat) (A : Nat → Nat → F) (B C : Nat → F) (ha : Ro K sh a 64) (hb : Ro K sh b 18) (hn : n ≤ 8) (hA : Mv nn a n A) (hbv : ∀ i, i < n → nn b i = vF (B i)) (hcv : ∀ i, i < n → nn b (8 + i) = vF (C i)) (hbn : nn b 17 = (n : Int)) : Lc d k_L_rankOf X [.ref (a), .ref (b), .int (iI (0))] m p K sh nn (fun v m' p' K' sh' n' => v = some (.int (iI ((drk n (kr n A B) : Nat) : Int))) ∧ m = m' ∧ p = p' ∧ FrN (fun a_ => K < a_) nn n') := by
  obtain ⟨d, rfl⟩ : ∃ e, d = e + 1 := ⟨d - 1, by omega⟩
  have ha8 := ha.1; have ha9 := ha.2.1
  have hb8 := hb.1; have hb9 := hb.2.1
  refine lc_go (lv := [some (.ref (a)), some (.ref (b)), some (.int (iI (0))), none, none, none, none, none]) (B := 10) (Nat.le_of_ble_eq_true rfl) (okar_cons rfl (okar_cons rfl (okar_cons rfl okar_nil))) rfl rfl (fun Qr hQ => ?_)
  refine rw_blk lk_L_rankOf_0 ?_
  refine rw_of (fun rr hrr => q_aload_n rfl (q_bipush rfl (q_lald (j := 17) hb rfl (by omega) hbn (q_istore_n (Nat.le_of_ble_eq_true rfl) rfl (q_bipush rfl (q_lnew (l := 64) (by omega) rfl (by omega) hrr)))))) ?_
  generalize hu1 : nU nn (K + 1) = e2
  refine rw_of (fun rr hrr => q_astore (Nat.le_of_ble_eq_true rfl) rfl (q_bipush rfl (q_lnew (l := 8) (by omega) rfl (by omega) hrr))) ?_
  generalize hu3 : nU e2 (K + 1 + 1) = e4
  refine rw_of (fun rr hrr => q_astore (Nat.le_of_ble_eq_true rfl) rfl (q_iconst (q_istore (Nat.le_of_ble_eq_true rfl) rfl hrr))) ?_
  have hL20 : ∀ i, i ≤ n → ∀ (cc ss : Nat) (nn20 : N2) (x20_7 : Option Value), (FrN (fun a_ => a_ = K + 1 + 1) e4 nn20 ∧ (∀ z, z < i → nn20 (K + 1 + 1) z = vF (B z))) → Rw (Ev d) k_L_rankOf (20, [], [some (.ref (a)), some (.ref (b)), some (.int (iI (0))), some (.int (iI (((n : Nat) : Int)))), some (.ref (K + 1)), some (.ref (K + 1 + 1)), some (.int (iI (((i : Nat) : Int)))), x20_7], [], hB X m p (K + 1 + 1) (shU (shU sh (K + 1) 64) (K + 1 + 1) 8) nn20, cc, ss) Qr := by
    refine loop_any (fun i hi20 ih20 => ?_)
    intro cc ss nn20 x20_7
    intro hI
    obtain ⟨hF20, hI20⟩ := hI
    refine rw_blk lk_L_rankOf_20 ?_
    refine rw_of (fun rr hrr => q_iload rfl (q_iload_n rfl hrr)) ?_
    refine rw_icmp_ge ⟨by omega, by omega⟩ ⟨by omega, by omega⟩ (t := 55) rfl (fun hc5 => ?_) (fun hc5 => ?_)
    · skip
      refine rw_blk lk_L_rankOf_55 ?_
      refine rw_of (fun rr hrr => q_iconst (q_istore (Nat.le_of_ble_eq_true rfl) rfl hrr)) ?_
      have hL58 : ∀ k, k ≤ n → ∀ (cc ss : Nat) (K58 : Nat) (sh58 : Nat → Nat) (nn58 : N2) (x58_7 : Option Value), (K + 1 + 1 ≤ K58 ∧ K58 ≤ K + 1 + 1 + 1 * k ∧ FrS (K + 1 + 1) (shU (shU sh (K + 1) 64) (K + 1 + 1) 8) sh58 ∧ FrN (fun a_ => K + 1 + 1 < a_ ∨ a_ = K + 1 ∨ a_ = K + 1 + 1) nn20 nn58 ∧ ((∀ z, z < k → ∀ c, c < n → nn58 (K + 1) (8 * z + c) = vF (kr n A B z c)) ∧ ∀ z, z < n → nn58 (K + 1 + 1) z = vF (kr n A B k z))) → Rw (Ev d) k_L_rankOf (58, [], [some (.ref (a)), some (.ref (b)), some (.int (iI (0))), some (.int (iI (((n : Nat) : Int)))), some (.ref (K + 1)), some (.ref (K + 1 + 1)), some (.int (iI (((k : Nat) : Int)))), x58_7], [], hB X m p K58 sh58 nn58, cc, ss) Qr := by
        refine loop_any (fun k hi58 ih58 => ?_)
        intro cc ss K58 sh58 nn58 x58_7
        intro hI
        obtain ⟨hKl58, hBl58, hSl58, hF58, ⟨hv58, hx58⟩⟩ := hI
        refine rw_blk lk_L_rankOf_58 ?_
        refine rw_of (fun rr hrr => q_iload rfl (q_iload_n rfl hrr)) ?_
        refine rw_icmp_ge ⟨by omega, by omega⟩ ⟨by omega, by omega⟩ (t := 109) rfl (fun hc6 => ?_) (fun hc6 => ?_)
        · skip
          refine rw_blk lk_L_rankOf_109 ?_
          refine rw_of (fun rr hrr => q_aload rfl (q_iload_n rfl hrr)) ?_
          obtain ⟨_, mm7, pp7, K7, sh7, e7, cc7, ss7, hV7, hK7, hKB7, hS7, rfl, rfl, rfl, hF7⟩ := c_L_rank (X := X) (m := m) (p := p) (K := K58) (sh := sh58) (nn := nn58) (d := d) (by omega) (by omega) (K + 1) n (kr n A B) ((Ro_call hKl58 hSl58 (Ro_new (Ro_made (by omega))))) hn (fun r hr c hc => hv58 r (by omega) c hc)
          have hKB7 : K7 ≤ K58 + 0 := hKB7
          refine rw_of (fun rr hrr => q_invS hV7 rfl rfl (okar_cons rfl (okar_cons rfl okar_nil)) (Nat.le_of_ble_eq_true rfl) hrr) ?_
          refine lw_end hQ (q_ireturn (Or.inl rfl)) (by omega) (by omega) (FrS_tr (by omega) (FrS_tr (by omega) (FrS_tr (by omega) (FrS_tr (by omega) FrS_rfl FrS_new) FrS_new) hSl58) hS7) ?_
          exact ⟨rfl, rfl, rfl, fun a9 h9 => ((hF7 a9 (by show ¬ (K58 < a9 ∨ a9 = K + 1); omega)).trans ((hF58 a9 (by show ¬ (K + 1 + 1 < a9 ∨ a9 = K + 1 ∨ a9 = K + 1 + 1); omega)).trans ((hF20 a9 (by show ¬ (a9 = K + 1 + 1); omega)).trans ((kU hu3 (by omega)).trans (kU hu1 (by omega))))))⟩
        · skip
          refine rw_of (fun rr hrr => q_iconst (q_istore (Nat.le_of_ble_eq_true rfl) rfl hrr)) ?_
          have hL67 : ∀ i, i ≤ n → ∀ (cc ss : Nat) (nn67 : N2), (FrN (fun a_ => a_ = K + 1) nn58 nn67 ∧ (∀ z c, c < n → (z < k ∨ z = k ∧ c < i) → nn67 (K + 1) (8 * z + c) = vF (kr n A B z c))) → Rw (Ev d) k_L_rankOf (67, [], [some (.ref (a)), some (.ref (b)), some (.int (iI (0))), some (.int (iI (((n : Nat) : Int)))), some (.ref (K + 1)), some (.ref (K + 1 + 1)), some (.int (iI (((k : Nat) : Int)))), some (.int (iI (((i : Nat) : Int))))], [], hB X m p K58 sh58 nn67, cc, ss) Qr := by
            refine loop_any (fun i hi67 ih67 => ?_)
            intro cc ss nn67
            intro hI
            obtain ⟨hF67, hv67⟩ := hI
            refine rw_blk lk_L_rankOf_67 ?_
            refine rw_of (fun rr hrr => q_iload rfl (q_iload_n rfl hrr)) ?_
            refine rw_icmp_ge ⟨by omega, by omega⟩ ⟨by omega, by omega⟩ (t := 95) rfl (fun hc8 => ?_) (fun hc8 => ?_)
            · skip
              refine rw_blk lk_L_rankOf_95 ?_
              refine rw_of (fun rr hrr => q_aload_n rfl (q_iload_n rfl (q_aload rfl (q_iload_n rfl hrr)))) ?_
              obtain ⟨_, mm9, pp9, K9, sh9, e9, cc9, ss9, hV9, hK9, hKB9, hS9, rfl, rfl, rfl, hF9, hv9⟩ := c_L_goes0 (X := X) (m := m) (p := p) (K := K58) (sh := sh58) (nn := nn67) (d := d) (by omega) (by omega) a n (K + 1 + 1) A (kr n A B k) ((Ro_call hKl58 hSl58 (Ro_new (Ro_new ha)))) ((Ro_call hKl58 hSl58 (Ro_made (by omega)))) (by omega) hn (Mv_k hA ((hF67 a (by show ¬ (a = K + 1); omega)).trans ((hF58 a (by show ¬ (K + 1 + 1 < a ∨ a = K + 1 ∨ a = K + 1 + 1); omega)).trans ((hF20 a (by show ¬ (a = K + 1 + 1); omega)).trans ((kU hu3 (by omega)).trans (kU hu1 (by omega))))))) (fun z hz => (congrFun (hF67 (K + 1 + 1) (by show ¬ ((K + 1 + 1) = K + 1); omega)) _).trans (hx58 z hz))
              have hKB9 : K9 ≤ K58 + 1 := hKB9
              refine rw_of (fun rr hrr => q_invS hV9 rfl rfl (okar_cons rfl (okar_cons rfl (okar_cons rfl (okar_cons rfl okar_nil)))) (Nat.le_of_ble_eq_true rfl) (q_iinc rfl rfl (q_goto (t := 58) rfl hrr))) ?_
              have hA10 : (∀ z, z < (k + 1) → ∀ c, c < n → e9 (K + 1) (8 * z + c) = vF (kr n A B z c)) ∧ ∀ z, z < n → e9 (K + 1 + 1) z = vF (kr n A B (k + 1) z) := by
                refine ⟨fun z hz c hc => (congrFun (hF9 (K + 1) (by show ¬ (K58 < (K + 1) ∨ (K + 1) = K + 1 + 1); omega)) _).trans (hv67 z c hc (by omega)), fun z hz => ?_⟩
                rw [hv9 z hz]
                rfl
              exact rw_cast (ih58 (by omega) _ _ K9 sh9 e9 (some (.int (iI (((i : Nat) : Int))))) ⟨(by omega), (by omega), ((FrS_tr (by omega) (FrS_tr (by omega) FrS_rfl hSl58) hS9)), (fun a9 h9 => ((hF9 a9 (by show ¬ (K58 < a9 ∨ a9 = K + 1 + 1); omega)).trans ((hF67 a9 (by show ¬ (a9 = K + 1); omega)).trans (hF58 a9 (by show ¬ (K + 1 + 1 < a9 ∨ a9 = K + 1 ∨ a9 = K + 1 + 1); omega))))), hA10⟩) (lcons rfl (lcons rfl (lcons rfl (lcons rfl (lcons rfl (lcons rfl (lcons (lvI (by omega)) (lcons rfl rfl)))))))) rfl
            · skip
              refine rw_of (fun rr hrr => q_aload rfl (q_bipush rfl (q_iload rfl (q_imul (q_iload rfl (q_iadd (q_aload rfl (q_iload rfl (q_lald (j := i) (Ro_call hKl58 hSl58 (Ro_made (by omega))) rfl (by omega) ((congrFun (hF67 (K + 1 + 1) (by show ¬ ((K + 1 + 1) = K + 1); omega)) _).trans (hx58 i (by omega))) (q_last (j := 8 * k + i) (Ro_call hKl58 hSl58 (Ro_new (Ro_made (by omega)))) (by omega) (by omega) hrr)))))))))) ?_
              generalize hm11 : wI nn67 (K + 1) (8 * k + i) (vF (kr n A B k i)) = e12
              refine rw_of (fun rr hrr => q_iinc rfl rfl (q_goto (t := 67) rfl hrr)) ?_
              have hA13 : ∀ z c, c < n → (z < k ∨ z = k ∧ c < (i + 1)) → e12 (K + 1) (8 * z + c) = vF (kr n A B z c) := by
                intro z c hc hz
                by_cases q : z = k ∧ c = i
                · rw [q.1, q.2]
                  exact kA hm11
                · exact (kB hm11 (by omega)).trans (hv67 z c hc (by omega))
              exact rw_cast (ih67 (by omega) _ _ e12 ⟨(fun a9 h9 => ((kN hm11 (by omega)).trans (hF67 a9 (by show ¬ (a9 = K + 1); omega)))), hA13⟩) (lcons rfl (lcons rfl (lcons rfl (lcons rfl (lcons rfl (lcons rfl (lcons rfl (lcons (lvI (by omega)) rfl)))))))) rfl
          have hA14 : ∀ z c, c < n → (z < k ∨ z = k ∧ c < 0) → nn58 (K + 1) (8 * z + c) = vF (kr n A B z c) := by
            exact fun z c hc hz => hv58 z (by omega) c hc
          exact rw_cast (hL67 0 (by omega) _ _ nn58 ⟨(fun _ _ => rfl), hA14⟩) (lcons rfl (lcons rfl (lcons rfl (lcons rfl (lcons rfl (lcons rfl (lcons rfl (lcons (lvI (by omega)) rfl)))))))) rfl
      have hA15 : (∀ z, z < 0 → ∀ c, c < n → nn20 (K + 1) (8 * z + c) = vF (kr n A B z c)) ∧ ∀ z, z < n → nn20 (K + 1 + 1) z = vF (kr n A B 0 z) := by
        exact ⟨fun z hz => absurd hz (Nat.not_lt_zero z), fun z hz => (hI20 z (by omega))⟩
      exact rw_cast (hL58 0 (by omega) _ _ (K + 1 + 1) (shU (shU sh (K + 1) 64) (K + 1 + 1) 8) nn20 x20_7 ⟨(by omega), (by omega), (FrS_rfl), (fun _ _ => rfl), hA15⟩) (lcons rfl (lcons rfl (lcons rfl (lcons rfl (lcons rfl (lcons rfl (lcons (lvI (by omega)) (lcons rfl rfl)))))))) rfl
    · skip
      refine rw_of (fun rr hrr => q_aload rfl (q_iload rfl (q_iload_n rfl hrr))) ?_
      refine rw_if_eq ⟨by omega, by omega⟩ (t := 44) rfl (fun hc16 => ?_) (fun hc16 => ?_)
      · skip
        refine rw_blk lk_L_rankOf_44 ?_
        refine rw_of (fun rr hrr => q_aload_n rfl (q_iload rfl (q_lald (j := i) (Ro_new (Ro_new hb)) rfl (by omega) (((congrFun (hF20 b (by show ¬ (b = K + 1 + 1); omega)) _).trans ((congrFun (kU hu3 (by omega)) _).trans (congrFun (kU hu1 (by omega)) _))).trans (hbv i (by omega))) hrr))) ?_
        refine rw_blk lk_L_rankOf_48 ?_
        refine rw_of (fun rr hrr => q_last (j := i) (Ro_made (by omega)) rfl (by omega) hrr) ?_
        generalize hm17 : wI nn20 (K + 1 + 1) i (vF (B i)) = e18
        refine rw_of (fun rr hrr => q_iinc rfl rfl (q_goto (t := 20) rfl hrr)) ?_
        have hA19 : ∀ z, z < (i + 1) → e18 (K + 1 + 1) z = vF (B z) := by
          intro z hz
          by_cases q : z = i
          · rw [q]
            exact kA hm17
          · exact (kB hm17 q).trans (hI20 z (by omega))
        exact rw_cast (ih20 (by omega) _ _ e18 x20_7 ⟨(fun a9 h9 => ((kN hm17 (by omega)).trans (hF20 a9 (by show ¬ (a9 = K + 1 + 1); omega)))), hA19⟩) (lcons rfl (lcons rfl (lcons rfl (lcons rfl (lcons rfl (lcons rfl (lcons (lvI (by omega)) (lcons rfl rfl)))))))) rfl
      · exact absurd hc16 (by decide)
  have hA21 : ∀ z, z < 0 → e4 (K + 1 + 1) z = vF (B z) := by
    exact fun z hz => absurd hz (Nat.not_lt_zero z)
  exact rw_cast (hL20 0 (by omega) _ _ e4 none ⟨(fun _ _ => rfl), hA21⟩) (lcons rfl (lcons rfl (lcons rfl (lcons rfl (lcons rfl (lcons rfl (lcons (lvI (by omega)) (lcons rfl rfl)))))))) rfl
theorem c_L_rankOf1 {d : Nat} {X : MC} {m : M1} {p : M2} {K : Nat} {sh : Nat → Nat} {nn : N2} (hd : 5 ≤ d) (hK : 260 ≤ K) (a b n : Nat) (A : Nat → Nat → F) (B C : Nat → F) (ha : Ro K sh a 64) (hb : Ro K sh b 18) (hn : n ≤ 8) (hA : Mv nn a n A) (hbv : ∀ i, i < n → nn b i = vF (B i)) (hcv : ∀ i, i < n → nn b (8 + i) = vF (C i)) (hbn : nn b 17 = (n : Int)) : Lc d k_L_rankOf X [.ref (a), .ref (b), .int (iI (1))] m p K sh nn (fun v m' p' K' sh' n' => v = some (.int (iI ((drk n (kr n (trp A) C) : Nat) : Int))) ∧ m = m' ∧ p = p' ∧ FrN (fun a_ => K < a_) nn n') := by
  obtain ⟨d, rfl⟩ : ∃ e, d = e + 1 := ⟨d - 1, by omega⟩
  have ha8 := ha.1; have ha9 := ha.2.1
  have hb8 := hb.1; have hb9 := hb.2.1
  refine lc_go (lv := [some (.ref (a)), some (.ref (b)), some (.int (iI (1))), none, none, none, none, none]) (B := 10) (Nat.le_of_ble_eq_true rfl) (okar_cons rfl (okar_cons rfl (okar_cons rfl okar_nil))) rfl rfl (fun Qr hQ => ?_)
  refine rw_blk lk_L_rankOf_0 ?_
  refine rw_of (fun rr hrr => q_aload_n rfl (q_bipush rfl (q_lald (j := 17) hb rfl (by omega) hbn (q_istore_n (Nat.le_of_ble_eq_true rfl) rfl (q_bipush rfl (q_lnew (l := 64) (by omega) rfl (by omega) hrr)))))) ?_
  generalize hu1 : nU nn (K + 1) = e2
  refine rw_of (fun rr hrr => q_astore (Nat.le_of_ble_eq_true rfl) rfl (q_bipush rfl (q_lnew (l := 8) (by omega) rfl (by omega) hrr))) ?_
  generalize hu3 : nU e2 (K + 1 + 1) = e4
  refine rw_of (fun rr hrr => q_astore (Nat.le_of_ble_eq_true rfl) rfl (q_iconst (q_istore (Nat.le_of_ble_eq_true rfl) rfl hrr))) ?_
  have hL20 : ∀ i, i ≤ n → ∀ (cc ss : Nat) (nn20 : N2) (x20_7 : Option Value), (FrN (fun a_ => a_ = K + 1 + 1) e4 nn20 ∧ (∀ z, z < i → nn20 (K + 1 + 1) z = vF (C z))) → Rw (Ev d) k_L_rankOf (20, [], [some (.ref (a)), some (.ref (b)), some (.int (iI (1))), some (.int (iI (((n : Nat) : Int)))), some (.ref (K + 1)), some (.ref (K + 1 + 1)), some (.int (iI (((i : Nat) : Int)))), x20_7], [], hB X m p (K + 1 + 1) (shU (shU sh (K + 1) 64) (K + 1 + 1) 8) nn20, cc, ss) Qr := by
    refine loop_any (fun i hi20 ih20 => ?_)
    intro cc ss nn20 x20_7
    intro hI
    obtain ⟨hF20, hI20⟩ := hI
    refine rw_blk lk_L_rankOf_20 ?_
    refine rw_of (fun rr hrr => q_iload rfl (q_iload_n rfl hrr)) ?_
    refine rw_icmp_ge ⟨by omega, by omega⟩ ⟨by omega, by omega⟩ (t := 55) rfl (fun hc5 => ?_) (fun hc5 => ?_)
    · skip
      refine rw_blk lk_L_rankOf_55 ?_
      refine rw_of (fun rr hrr => q_iconst (q_istore (Nat.le_of_ble_eq_true rfl) rfl hrr)) ?_
      have hL58 : ∀ k, k ≤ n → ∀ (cc ss : Nat) (K58 : Nat) (sh58 : Nat → Nat) (nn58 : N2) (x58_7 : Option Value), (K + 1 + 1 ≤ K58 ∧ K58 ≤ K + 1 + 1 + 1 * k ∧ FrS (K + 1 + 1) (shU (shU sh (K + 1) 64) (K + 1 + 1) 8) sh58 ∧ FrN (fun a_ => K + 1 + 1 < a_ ∨ a_ = K + 1 ∨ a_ = K + 1 + 1) nn20 nn58 ∧ ((∀ z, z < k → ∀ c, c < n → nn58 (K + 1) (8 * z + c) = vF (kr n (trp A) C z c)) ∧ ∀ z, z < n → nn58 (K + 1 + 1) z = vF (kr n (trp A) C k z))) → Rw (Ev d) k_L_rankOf (58, [], [some (.ref (a)), some (.ref (b)), some (.int (iI (1))), some (.int (iI (((n : Nat) : Int)))), some (.ref (K + 1)), some (.ref (K + 1 + 1)), some (.int (iI (((k : Nat) : Int)))), x58_7], [], hB X m p K58 sh58 nn58, cc, ss) Qr := by
        refine loop_any (fun k hi58 ih58 => ?_)
        intro cc ss K58 sh58 nn58 x58_7
        intro hI
        obtain ⟨hKl58, hBl58, hSl58, hF58, ⟨hv58, hx58⟩⟩ := hI
        refine rw_blk lk_L_rankOf_58 ?_
        refine rw_of (fun rr hrr => q_iload rfl (q_iload_n rfl hrr)) ?_
        refine rw_icmp_ge ⟨by omega, by omega⟩ ⟨by omega, by omega⟩ (t := 109) rfl (fun hc6 => ?_) (fun hc6 => ?_)
        · skip
          refine rw_blk lk_L_rankOf_109 ?_
          refine rw_of (fun rr hrr => q_aload rfl (q_iload_n rfl hrr)) ?_
          obtain ⟨_, mm7, pp7, K7, sh7, e7, cc7, ss7, hV7, hK7, hKB7, hS7, rfl, rfl, rfl, hF7⟩ := c_L_rank (X := X) (m := m) (p := p) (K := K58) (sh := sh58) (nn := nn58) (d := d) (by omega) (by omega) (K + 1) n (kr n (trp A) C) ((Ro_call hKl58 hSl58 (Ro_new (Ro_made (by omega))))) hn (fun r hr c hc => hv58 r (by omega) c hc)
          have hKB7 : K7 ≤ K58 + 0 := hKB7
          refine rw_of (fun rr hrr => q_invS hV7 rfl rfl (okar_cons rfl (okar_cons rfl okar_nil)) (Nat.le_of_ble_eq_true rfl) hrr) ?_
          refine lw_end hQ (q_ireturn (Or.inl rfl)) (by omega) (by omega) (FrS_tr (by omega) (FrS_tr (by omega) (FrS_tr (by omega) (FrS_tr (by omega) FrS_rfl FrS_new) FrS_new) hSl58) hS7) ?_
          exact ⟨rfl, rfl, rfl, fun a9 h9 => ((hF7 a9 (by show ¬ (K58 < a9 ∨ a9 = K + 1); omega)).trans ((hF58 a9 (by show ¬ (K + 1 + 1 < a9 ∨ a9 = K + 1 ∨ a9 = K + 1 + 1); omega)).trans ((hF20 a9 (by show ¬ (a9 = K + 1 + 1); omega)).trans ((kU hu3 (by omega)).trans (kU hu1 (by omega))))))⟩
        · skip
          refine rw_of (fun rr hrr => q_iconst (q_istore (Nat.le_of_ble_eq_true rfl) rfl hrr)) ?_
          have hL67 : ∀ i, i ≤ n → ∀ (cc ss : Nat) (nn67 : N2), (FrN (fun a_ => a_ = K + 1) nn58 nn67 ∧ (∀ z c, c < n → (z < k ∨ z = k ∧ c < i) → nn67 (K + 1) (8 * z + c) = vF (kr n (trp A) C z c))) → Rw (Ev d) k_L_rankOf (67, [], [some (.ref (a)), some (.ref (b)), some (.int (iI (1))), some (.int (iI (((n : Nat) : Int)))), some (.ref (K + 1)), some (.ref (K + 1 + 1)), some (.int (iI (((k : Nat) : Int)))), some (.int (iI (((i : Nat) : Int))))], [], hB X m p K58 sh58 nn67, cc, ss) Qr := by
            refine loop_any (fun i hi67 ih67 => ?_)
            intro cc ss nn67
            intro hI
            obtain ⟨hF67, hv67⟩ := hI
            refine rw_blk lk_L_rankOf_67 ?_
            refine rw_of (fun rr hrr => q_iload rfl (q_iload_n rfl hrr)) ?_
            refine rw_icmp_ge ⟨by omega, by omega⟩ ⟨by omega, by omega⟩ (t := 95) rfl (fun hc8 => ?_) (fun hc8 => ?_)
            · skip
              refine rw_blk lk_L_rankOf_95 ?_
              refine rw_of (fun rr hrr => q_aload_n rfl (q_iload_n rfl (q_aload rfl (q_iload_n rfl hrr)))) ?_
              obtain ⟨_, mm9, pp9, K9, sh9, e9, cc9, ss9, hV9, hK9, hKB9, hS9, rfl, rfl, rfl, hF9, hv9⟩ := c_L_goes1 (X := X) (m := m) (p := p) (K := K58) (sh := sh58) (nn := nn67) (d := d) (by omega) (by omega) a n (K + 1 + 1) A (kr n (trp A) C k) ((Ro_call hKl58 hSl58 (Ro_new (Ro_new ha)))) ((Ro_call hKl58 hSl58 (Ro_made (by omega)))) (by omega) hn (Mv_k hA ((hF67 a (by show ¬ (a = K + 1); omega)).trans ((hF58 a (by show ¬ (K + 1 + 1 < a ∨ a = K + 1 ∨ a = K + 1 + 1); omega)).trans ((hF20 a (by show ¬ (a = K + 1 + 1); omega)).trans ((kU hu3 (by omega)).trans (kU hu1 (by omega))))))) (fun z hz => (congrFun (hF67 (K + 1 + 1) (by show ¬ ((K + 1 + 1) = K + 1); omega)) _).trans (hx58 z hz))
              have hKB9 : K9 ≤ K58 + 1 := hKB9
              refine rw_of (fun rr hrr => q_invS hV9 rfl rfl (okar_cons rfl (okar_cons rfl (okar_cons rfl (okar_cons rfl okar_nil)))) (Nat.le_of_ble_eq_true rfl) (q_iinc rfl rfl (q_goto (t := 58) rfl hrr))) ?_
              have hA10 : (∀ z, z < (k + 1) → ∀ c, c < n → e9 (K + 1) (8 * z + c) = vF (kr n (trp A) C z c)) ∧ ∀ z, z < n → e9 (K + 1 + 1) z = vF (kr n (trp A) C (k + 1) z) := by
                refine ⟨fun z hz c hc => (congrFun (hF9 (K + 1) (by show ¬ (K58 < (K + 1) ∨ (K + 1) = K + 1 + 1); omega)) _).trans (hv67 z c hc (by omega)), fun z hz => ?_⟩
                rw [hv9 z hz]
                rfl
              exact rw_cast (ih58 (by omega) _ _ K9 sh9 e9 (some (.int (iI (((i : Nat) : Int))))) ⟨(by omega), (by omega), ((FrS_tr (by omega) (FrS_tr (by omega) FrS_rfl hSl58) hS9)), (fun a9 h9 => ((hF9 a9 (by show ¬ (K58 < a9 ∨ a9 = K + 1 + 1); omega)).trans ((hF67 a9 (by show ¬ (a9 = K + 1); omega)).trans (hF58 a9 (by show ¬ (K + 1 + 1 < a9 ∨ a9 = K + 1 ∨ a9 = K + 1 + 1); omega))))), hA10⟩) (lcons rfl (lcons rfl (lcons rfl (lcons rfl (lcons rfl (lcons rfl (lcons (lvI (by omega)) (lcons rfl rfl)))))))) rfl
            · skip
              refine rw_of (fun rr hrr => q_aload rfl (q_bipush rfl (q_iload rfl (q_imul (q_iload rfl (q_iadd (q_aload rfl (q_iload rfl (q_lald (j := i) (Ro_call hKl58 hSl58 (Ro_made (by omega))) rfl (by omega) ((congrFun (hF67 (K + 1 + 1) (by show ¬ ((K + 1 + 1) = K + 1); omega)) _).trans (hx58 i (by omega))) (q_last (j := 8 * k + i) (Ro_call hKl58 hSl58 (Ro_new (Ro_made (by omega)))) (by omega) (by omega) hrr)))))))))) ?_
              generalize hm11 : wI nn67 (K + 1) (8 * k + i) (vF (kr n (trp A) C k i)) = e12
              refine rw_of (fun rr hrr => q_iinc rfl rfl (q_goto (t := 67) rfl hrr)) ?_
              have hA13 : ∀ z c, c < n → (z < k ∨ z = k ∧ c < (i + 1)) → e12 (K + 1) (8 * z + c) = vF (kr n (trp A) C z c) := by
                intro z c hc hz
                by_cases q : z = k ∧ c = i
                · rw [q.1, q.2]
                  exact kA hm11
                · exact (kB hm11 (by omega)).trans (hv67 z c hc (by omega))
              exact rw_cast (ih67 (by omega) _ _ e12 ⟨(fun a9 h9 => ((kN hm11 (by omega)).trans (hF67 a9 (by show ¬ (a9 = K + 1); omega)))), hA13⟩) (lcons rfl (lcons rfl (lcons rfl (lcons rfl (lcons rfl (lcons rfl (lcons rfl (lcons (lvI (by omega)) rfl)))))))) rfl
          have hA14 : ∀ z c, c < n → (z < k ∨ z = k ∧ c < 0) → nn58 (K + 1) (8 * z + c) = vF (kr n (trp A) C z c) := by
            exact fun z c hc hz => hv58 z (by omega) c hc
          exact rw_cast (hL67 0 (by omega) _ _ nn58 ⟨(fun _ _ => rfl), hA14⟩) (lcons rfl (lcons rfl (lcons rfl (lcons rfl (lcons rfl (lcons rfl (lcons rfl (lcons (lvI (by omega)) rfl)))))))) rfl
      have hA15 : (∀ z, z < 0 → ∀ c, c < n → nn20 (K + 1) (8 * z + c) = vF (kr n (trp A) C z c)) ∧ ∀ z, z < n → nn20 (K + 1 + 1) z = vF (kr n (trp A) C 0 z) := by
        exact ⟨fun z hz => absurd hz (Nat.not_lt_zero z), fun z hz => (hI20 z (by omega))⟩
      exact rw_cast (hL58 0 (by omega) _ _ (K + 1 + 1) (shU (shU sh (K + 1) 64) (K + 1 + 1) 8) nn20 x20_7 ⟨(by omega), (by omega), (FrS_rfl), (fun _ _ => rfl), hA15⟩) (lcons rfl (lcons rfl (lcons rfl (lcons rfl (lcons rfl (lcons rfl (lcons (lvI (by omega)) (lcons rfl rfl)))))))) rfl
    · skip
      refine rw_of (fun rr hrr => q_aload rfl (q_iload rfl (q_iload_n rfl hrr))) ?_
      refine rw_if_eq ⟨by omega, by omega⟩ (t := 44) rfl (fun hc16 => ?_) (fun hc16 => ?_)
      · exact absurd hc16 (by decide)
      · skip
        refine rw_of (fun rr hrr => q_aload_n rfl (q_bipush rfl (q_iload rfl (q_iadd (q_lald (j := 8 + i) (Ro_new (Ro_new hb)) (by omega) (by omega) (((congrFun (hF20 b (by show ¬ (b = K + 1 + 1); omega)) _).trans ((congrFun (kU hu3 (by omega)) _).trans (congrFun (kU hu1 (by omega)) _))).trans (hcv i (by omega))) (q_goto (t := 48) rfl hrr)))))) ?_
        refine rw_blk lk_L_rankOf_48 ?_
        refine rw_of (fun rr hrr => q_last (j := i) (Ro_made (by omega)) rfl (by omega) hrr) ?_
        generalize hm17 : wI nn20 (K + 1 + 1) i (vF (C i)) = e18
        refine rw_of (fun rr hrr => q_iinc rfl rfl (q_goto (t := 20) rfl hrr)) ?_
        have hA19 : ∀ z, z < (i + 1) → e18 (K + 1 + 1) z = vF (C z) := by
          intro z hz
          by_cases q : z = i
          · rw [q]
            exact kA hm17
          · exact (kB hm17 q).trans (hI20 z (by omega))
        exact rw_cast (ih20 (by omega) _ _ e18 x20_7 ⟨(fun a9 h9 => ((kN hm17 (by omega)).trans (hF20 a9 (by show ¬ (a9 = K + 1 + 1); omega)))), hA19⟩) (lcons rfl (lcons rfl (lcons rfl (lcons rfl (lcons rfl (lcons rfl (lcons (lvI (by omega)) (lcons rfl rfl)))))))) rfl
  have hA21 : ∀ z, z < 0 → e4 (K + 1 + 1) z = vF (C z) := by
    exact fun z hz => absurd hz (Nat.not_lt_zero z)
  exact rw_cast (hL20 0 (by omega) _ _ e4 none ⟨(fun _ _ => rfl), hA21⟩) (lcons rfl (lcons rfl (lcons rfl (lcons rfl (lcons rfl (lcons rfl (lcons (lvI (by omega)) (lcons rfl rfl)))))))) rfl
