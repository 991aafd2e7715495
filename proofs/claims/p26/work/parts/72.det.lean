theorem c_L_determinant {d : Nat} {X : MC} {m : M1} {p : M2} {K : Nat} {sh : Nat → Nat} {nn : N2} (hd : 3 ≤ d) (hK : 260 ≤ K) (w n : Nat) (W : Nat → Nat → F) (hw : Ro K sh w 64) (hn : n ≤ 8) (hW : Mv nn w n W) : Lc d k_L_determinant X [.ref (w), .int (iI (((n : Nat) : Int)))] m p K sh nn (fun v m' p' K' sh' n' => v = some (.int (iI (dtv n W))) ∧ m = m' ∧ p = p' ∧ FrN (fun a_ => K < a_ ∨ a_ = w) nn n') := by
  obtain ⟨d, rfl⟩ : ∃ e, d = e + 1 := ⟨d - 1, by omega⟩
  have hw8 := hw.1; have hw9 := hw.2.1
  refine lc_go (lv := [some (.ref (w)), some (.int (iI (((n : Nat) : Int)))), none, none, none, none, none, none, none, none]) (B := 0) (Nat.le_of_ble_eq_true rfl) (okar_cons rfl (okar_cons rfl okar_nil)) rfl rfl (fun Qr hQ => ?_)
  refine rw_blk lk_L_determinant_0 ?_
  refine rw_of (fun rr hrr => q_iconst (q_istore_n (Nat.le_of_ble_eq_true rfl) rfl (q_iconst (q_istore_n (Nat.le_of_ble_eq_true rfl) rfl (q_iconst (q_istore (Nat.le_of_ble_eq_true rfl) rfl hrr)))))) ?_
  have hL7 : ∀ j, j ≤ n → ∀ (cc ss : Nat) (nn7 : N2) (A : Nat → Nat → F) (r : Nat) (al : F) (x7_5 : Option Value) (x7_6 : Option Value) (x7_7 : Option Value) (x7_8 : Option Value) (x7_9 : Option Value), (FrN (fun a_ => a_ = w) nn nn7 ∧ (dls n W j = (A, r, al) ∧ Mv nn7 w n A)) → Rw (Ev d) k_L_determinant (7, [], [some (.ref (w)), some (.int (iI (((n : Nat) : Int)))), some (.int (iI (vF (al)))), some (.int (iI (((r : Nat) : Int)))), some (.int (iI (((j : Nat) : Int)))), x7_5, x7_6, x7_7, x7_8, x7_9], [], hB X m p K sh nn7, cc, ss) Qr := by
    refine loop_any (fun j hi7 ih7 => ?_)
    intro cc ss nn7 A r al x7_5 x7_6 x7_7 x7_8 x7_9
    intro hI
    obtain ⟨hF7, ⟨hd7, hA7⟩⟩ := hI
    have hr7 : r ≤ j := (by have := dls_le (n := n) (W := W) j; rw [hd7] at this; exact this)
    refine rw_blk lk_L_determinant_7 ?_
    refine rw_of (fun rr hrr => q_iload rfl (q_iload_n rfl hrr)) ?_
    refine rw_icmp_ge ⟨by omega, by omega⟩ ⟨by omega, by omega⟩ (t := 249) rfl (fun hc1 => ?_) (fun hc1 => ?_)
    · skip
      refine rw_blk lk_L_determinant_249 ?_
      refine rw_of (fun rr hrr => q_iload_n rfl (q_iload_n rfl hrr)) ?_
      refine rw_icmp_ne ⟨by omega, by omega⟩ ⟨by omega, by omega⟩ (t := 258) rfl (fun hc2 => ?_) (fun hc2 => ?_)
      · skip
        refine rw_blk lk_L_determinant_258 ?_
        refine rw_of (fun rr hrr => q_iload_n rfl (q_ldc (v := 1000000) rfl rfl (q_isub hrr))) ?_
        refine rw_blk lk_L_determinant_262 ?_
        refine lw_end hQ (q_ireturn (Or.inl rfl)) (by omega) (by omega) FrS_rfl ?_
        have hz : j = n := by omega
        subst hz
        refine ⟨lvI ?_, rfl, rfl, fun a9 h9 => (hF7 a9 (by show ¬ (a9 = w); omega))⟩
        unfold dtv
        rw [hd7]
        dsimp only
        first | rw [if_pos (by omega)] | rw [if_neg (by omega)]
      · skip
        refine rw_of (fun rr hrr => q_iload_n rfl (q_goto (t := 262) rfl hrr)) ?_
        refine rw_blk lk_L_determinant_262 ?_
        refine lw_end hQ (q_ireturn (Or.inl rfl)) (by omega) (by omega) FrS_rfl ?_
        have hz : j = n := by omega
        subst hz
        refine ⟨lvI ?_, rfl, rfl, fun a9 h9 => (hF7 a9 (by show ¬ (a9 = w); omega))⟩
        unfold dtv
        rw [hd7]
        dsimp only
        first | rw [if_pos (by omega)] | rw [if_neg (by omega)]
    · skip
      refine rw_of (fun rr hrr => q_iload_n rfl (q_istore (Nat.le_of_ble_eq_true rfl) rfl hrr)) ?_
      have hL16 : ∀ k, k ≤ n → ∀ (cc ss : Nat) , ((r ≤ k ∧ ∀ z, r ≤ z → z < k → A z j = 0)) → Rw (Ev d) k_L_determinant (16, [], [some (.ref (w)), some (.int (iI (((n : Nat) : Int)))), some (.int (iI (vF (al)))), some (.int (iI (((r : Nat) : Int)))), some (.int (iI (((j : Nat) : Int)))), some (.int (iI (((k : Nat) : Int)))), x7_6, x7_7, x7_8, x7_9], [], hB X m p K sh nn7, cc, ss) Qr := by
        refine loop_any (fun k hi16 ih16 => ?_)
        intro cc ss
        intro hI
        obtain ⟨hk0, hz16⟩ := hI
        refine rw_blk lk_L_determinant_16 ?_
        refine rw_of (fun rr hrr => q_iload rfl (q_iload_n rfl hrr)) ?_
        refine rw_icmp_ge ⟨by omega, by omega⟩ ⟨by omega, by omega⟩ (t := 41) rfl (fun hc3 => ?_) (fun hc3 => ?_)
        · skip
          refine rw_blk lk_L_determinant_41 ?_
          refine rw_of (fun rr hrr => q_iload rfl (q_iload_n rfl hrr)) ?_
          refine rw_icmp_ne ⟨by omega, by omega⟩ ⟨by omega, by omega⟩ (t := 52) rfl (fun hc4 => ?_) (fun hc4 => ?_)
          · exfalso; omega
          · skip
            refine rw_of (fun rr hrr => q_iconst (q_istore_n (Nat.le_of_ble_eq_true rfl) rfl (q_goto (t := 243) rfl hrr))) ?_
            refine rw_blk lk_L_determinant_243 ?_
            refine rw_of (fun rr hrr => q_iinc rfl rfl (q_goto (t := 7) rfl hrr)) ?_
            have hA5 : dls n W (j + 1) = (A, r, 0) ∧ Mv nn7 w n A := by
              exact ⟨dls_none hd7 (by omega) ⟨by omega, by omega, fun h9 => by omega, fun z h1 h2 => hz16 z h1 h2⟩ (by omega), Mv_k hA7 rfl⟩
            exact rw_cast (ih7 (by omega) _ _ nn7 A r 0 (some (.int (iI (((k : Nat) : Int))))) x7_6 x7_7 x7_8 x7_9 ⟨(fun a9 h9 => (hF7 a9 (by show ¬ (a9 = w); omega))), hA5⟩) (lcons rfl (lcons rfl (lcons (lvI (by first | rfl | exact congrArg vF (by grind))) (lcons rfl (lcons (lvI (by omega)) (lcons rfl (lcons rfl (lcons rfl (lcons rfl (lcons rfl rfl)))))))))) rfl
        · skip
          refine rw_of (fun rr hrr => q_aload_n rfl (q_bipush rfl (q_iload rfl (q_imul (q_iload rfl (q_iadd (q_lald (j := 8 * k + j) hw (by omega) (by omega) (hA7 k (by omega) j (by omega)) hrr))))))) ?_
          refine rw_if_ne (rg_vF _) (t := 41) rfl (fun hc6 => ?_) (fun hc6 => ?_)
          · skip
            refine rw_blk lk_L_determinant_41 ?_
            refine rw_of (fun rr hrr => q_iload rfl (q_iload_n rfl hrr)) ?_
            refine rw_icmp_ne ⟨by omega, by omega⟩ ⟨by omega, by omega⟩ (t := 52) rfl (fun hc8 => ?_) (fun hc8 => ?_)
            · skip
              refine rw_blk lk_L_determinant_52 ?_
              have hk16 : IsF (fun z => A z j) n r k := ⟨hk0, by omega, fun _ h9 => absurd (vF_eq0.mpr h9) (by assumption), fun z h1 h2 => hz16 z h1 h2⟩
              refine rw_of (fun rr hrr => q_iconst (q_istore (Nat.le_of_ble_eq_true rfl) rfl hrr)) ?_
              have hL55 : ∀ c, c ≤ n → ∀ (cc ss : Nat) (nn55 : N2) (x55_7 : Option Value), (FrN (fun a_ => a_ = w) nn7 nn55 ∧ (Mv nn55 w n (fun z c' => if c' < c then dsw A r k z c' else A z c'))) → Rw (Ev d) k_L_determinant (55, [], [some (.ref (w)), some (.int (iI (((n : Nat) : Int)))), some (.int (iI (vF (al)))), some (.int (iI (((r : Nat) : Int)))), some (.int (iI (((j : Nat) : Int)))), some (.int (iI (((k : Nat) : Int)))), some (.int (iI (((c : Nat) : Int)))), x55_7, x7_8, x7_9], [], hB X m p K sh nn55, cc, ss) Qr := by
                refine loop_any (fun c hi55 ih55 => ?_)
                intro cc ss nn55 x55_7
                intro hI
                obtain ⟨hF55, hI55⟩ := hI
                refine rw_blk lk_L_determinant_55 ?_
                refine rw_of (fun rr hrr => q_iload rfl (q_iload_n rfl hrr)) ?_
                have hL119 : ∀ (cc ss : Nat) (nn119 : N2) (x119_6 : Option Value) (x119_7 : Option Value), (FrN (fun a_ => a_ = w) nn55 nn119 ∧ (Mv nn119 w n (dsw A r k))) → Rw (Ev d) k_L_determinant (119, [], [some (.ref (w)), some (.int (iI (((n : Nat) : Int)))), some (.int (iI (vF (al)))), some (.int (iI (((r : Nat) : Int)))), some (.int (iI (((j : Nat) : Int)))), some (.int (iI (((k : Nat) : Int)))), x119_6, x119_7, x7_8, x7_9], [], hB X m p K sh nn119, cc, ss) Qr := by
                  intro cc ss nn119 x119_6 x119_7
                  intro hI
                  obtain ⟨hF119, hB119⟩ := hI
                  refine rw_blk lk_L_determinant_119 ?_
                  refine rw_of (fun rr hrr => q_aload_n rfl (q_bipush rfl (q_iload_n rfl (q_imul (q_iload rfl (q_iadd (q_lald (j := 8 * r + j) hw (by omega) (by omega) (hB119 r (by omega) j (by omega)) hrr))))))) ?_
                  obtain ⟨_, _, _, hV9, rfl, rfl, rfl⟩ := c_L_inverse (S := (K, gB X sh nn119)) (fz := false) (m := m) (p := p) (d := d) (by omega) (vF (dsw A r k r j)) ((dsw A r k r j)) ⟨by have := vF_ge (dsw A r k r j); have := vF_lt (dsw A r k r j); omega, by have := vF_ge (dsw A r k r j); have := vF_lt (dsw A r k r j); omega⟩ (by simp only [toF_add, toF_mul, toF_sub, toF_neg, toF_vF, toF_nat, toF_0, toF_1, toF_M, F_add0, F_0sub])
                  refine rw_of (fun rr hrr => q_invS hV9 rfl rfl (okar_cons rfl okar_nil) (Nat.le_of_ble_eq_true rfl) (q_istore (Nat.le_of_ble_eq_true rfl) rfl (q_iload_n rfl (q_aload_n rfl (q_bipush rfl (q_iload_n rfl (q_imul (q_iload rfl (q_iadd (q_lald (j := 8 * r + j) hw (by omega) (by omega) (hB119 r (by omega) j (by omega)) (q_imul (q_sipush rfl (q_irem (rg_times _ _) ⟨by omega, by omega⟩ (by omega) (remF (Int.mul_nonneg (vF_ge _) (vF_ge _)) (show toF ((vF (al) * vF (dsw A r k r j))) = ((al) * (dsw A r k r j)) by simp only [toF_add, toF_mul, toF_sub, toF_neg, toF_vF, toF_nat, toF_0, toF_1, toF_M, F_add0, F_0sub])) (q_istore_n (Nat.le_of_ble_eq_true rfl) rfl (q_iload_n rfl (q_iconst (q_iadd (q_istore (Nat.le_of_ble_eq_true rfl) rfl hrr)))))))))))))))))) ?_
                  have hL154 : ∀ i, i ≤ n → ∀ (cc ss : Nat) (nn154 : N2) (x154_8 : Option Value) (x154_9 : Option Value), (FrN (fun a_ => a_ = w) nn119 nn154 ∧ (r < i ∧ Mv nn154 w n (fun z c' => if r < z ∧ z < i then dsw A r k z c' - dsw A r k z j * iv (dsw A r k r j) * dsw A r k r c' else dsw A r k z c'))) → Rw (Ev d) k_L_determinant (154, [], [some (.ref (w)), some (.int (iI (((n : Nat) : Int)))), some (.int (iI (vF (((al) * (dsw A r k r j)))))), some (.int (iI (((r : Nat) : Int)))), some (.int (iI (((j : Nat) : Int)))), some (.int (iI (((k : Nat) : Int)))), some (.int (iI (vF (iv ((dsw A r k r j)))))), some (.int (iI (((i : Nat) : Int)))), x154_8, x154_9], [], hB X m p K sh nn154, cc, ss) Qr := by
                    refine loop_any (fun i hi154 ih154 => ?_)
                    intro cc ss nn154 x154_8 x154_9
                    intro hI
                    obtain ⟨hF154, ⟨hri, hA154⟩⟩ := hI
                    refine rw_blk lk_L_determinant_154 ?_
                    refine rw_of (fun rr hrr => q_iload rfl (q_iload_n rfl hrr)) ?_
                    refine rw_icmp_ge ⟨by omega, by omega⟩ ⟨by omega, by omega⟩ (t := 240) rfl (fun hc10 => ?_) (fun hc10 => ?_)
                    · skip
                      refine rw_blk lk_L_determinant_240 ?_
                      refine rw_of (fun rr hrr => q_iinc rfl rfl hrr) ?_
                      refine rw_blk lk_L_determinant_243 ?_
                      refine rw_of (fun rr hrr => q_iinc rfl rfl (q_goto (t := 7) rfl hrr)) ?_
                      have hA11 : dls n W (j + 1) = ((dlo (dsw A r k) r j), (r + 1), (al * dsw A r k r j)) ∧ Mv nn154 w n (dlo (dsw A r k) r j) := by
                        exact ⟨dls_some hd7 (by omega) hk16 (by omega), Mv_cg hA154 (fun z hz c hc => by unfold dlo; by_cases q : r < z <;> simp [q] <;> omega)⟩
                      exact rw_cast (ih7 (by omega) _ _ nn154 (dlo (dsw A r k) r j) (r + 1) (al * dsw A r k r j) (some (.int (iI (((k : Nat) : Int))))) (some (.int (iI (vF (iv ((dsw A r k r j))))))) (some (.int (iI (((i : Nat) : Int))))) x154_8 x154_9 ⟨(fun a9 h9 => ((hF154 a9 (by show ¬ (a9 = w); omega)).trans ((hF119 a9 (by show ¬ (a9 = w); omega)).trans ((hF55 a9 (by show ¬ (a9 = w); omega)).trans (hF7 a9 (by show ¬ (a9 = w); omega)))))), hA11⟩) (lcons rfl (lcons rfl (lcons (lvI (by first | rfl | exact congrArg vF (by grind))) (lcons (lvI (by omega)) (lcons (lvI (by omega)) (lcons rfl (lcons rfl (lcons rfl (lcons rfl (lcons rfl rfl)))))))))) rfl
                    · skip
                      refine rw_of (fun rr hrr => q_aload_n rfl (q_bipush rfl (q_iload rfl (q_imul (q_iload rfl (q_iadd (q_lald (j := 8 * i + j) hw (by omega) (by omega) ((hA154 i (by omega) j (by omega)).trans (congrArg vF (if_neg (by omega)))) (q_iload rfl (q_imul (q_sipush rfl (q_irem (rg_times _ _) ⟨by omega, by omega⟩ (by omega) (remF (Int.mul_nonneg (vF_ge _) (vF_ge _)) (show toF ((vF (dsw A r k i j) * vF (iv ((dsw A r k r j))))) = ((dsw A r k i j) * (iv ((dsw A r k r j)))) by simp only [toF_add, toF_mul, toF_sub, toF_neg, toF_vF, toF_nat, toF_0, toF_1, toF_M, F_add0, F_0sub])) (q_istore (Nat.le_of_ble_eq_true rfl) rfl (q_iconst (q_istore (Nat.le_of_ble_eq_true rfl) rfl hrr)))))))))))))) ?_
                      have hL182 : ∀ c, c ≤ n → ∀ (cc ss : Nat) (nn182 : N2), (FrN (fun a_ => a_ = w) nn154 nn182 ∧ (Mv nn182 w n (fun z c' => if r < z ∧ (z < i ∨ z = i ∧ c' < c) then dsw A r k z c' - dsw A r k z j * iv (dsw A r k r j) * dsw A r k r c' else dsw A r k z c'))) → Rw (Ev d) k_L_determinant (182, [], [some (.ref (w)), some (.int (iI (((n : Nat) : Int)))), some (.int (iI (vF (((al) * (dsw A r k r j)))))), some (.int (iI (((r : Nat) : Int)))), some (.int (iI (((j : Nat) : Int)))), some (.int (iI (((k : Nat) : Int)))), some (.int (iI (vF (iv ((dsw A r k r j)))))), some (.int (iI (((i : Nat) : Int)))), some (.int (iI (vF (((dsw A r k i j) * (iv ((dsw A r k r j)))))))), some (.int (iI (((c : Nat) : Int))))], [], hB X m p K sh nn182, cc, ss) Qr := by
                        refine loop_any (fun c hi182 ih182 => ?_)
                        intro cc ss nn182
                        intro hI
                        obtain ⟨hF182, hA182⟩ := hI
                        refine rw_blk lk_L_determinant_182 ?_
                        refine rw_of (fun rr hrr => q_iload rfl (q_iload_n rfl hrr)) ?_
                        refine rw_icmp_ge ⟨by omega, by omega⟩ ⟨by omega, by omega⟩ (t := 234) rfl (fun hc12 => ?_) (fun hc12 => ?_)
                        · skip
                          refine rw_blk lk_L_determinant_234 ?_
                          refine rw_of (fun rr hrr => q_iinc rfl rfl (q_goto (t := 154) rfl hrr)) ?_
                          have hA13 : r < (i + 1) ∧ Mv nn182 w n (fun z c' => if r < z ∧ z < (i + 1) then dsw A r k z c' - dsw A r k z j * iv (dsw A r k r j) * dsw A r k r c' else dsw A r k z c') := by
                            exact ⟨by omega, Mv_cg hA182 (fun z hz c' hc' => by grind)⟩
                          exact rw_cast (ih154 (by omega) _ _ nn182 (some (.int (iI (vF (((dsw A r k i j) * (iv ((dsw A r k r j))))))))) (some (.int (iI (((c : Nat) : Int))))) ⟨(fun a9 h9 => ((hF182 a9 (by show ¬ (a9 = w); omega)).trans (hF154 a9 (by show ¬ (a9 = w); omega)))), hA13⟩) (lcons rfl (lcons rfl (lcons rfl (lcons rfl (lcons rfl (lcons rfl (lcons rfl (lcons (lvI (by omega)) (lcons rfl (lcons rfl rfl)))))))))) rfl
                        · skip
                          refine rw_of (fun rr hrr => q_aload_n rfl (q_bipush rfl (q_iload rfl (q_imul (q_iload rfl (q_iadd (q_aload_n rfl (q_bipush rfl (q_iload rfl (q_imul (q_iload rfl (q_iadd (q_lald (j := 8 * i + c) hw (by omega) (by omega) ((hA182 i (by omega) c (by omega)).trans (congrArg vF (if_neg (by omega)))) (q_iload rfl (q_aload_n rfl (q_bipush rfl (q_iload_n rfl (q_imul (q_iload rfl (q_iadd (q_lald (j := 8 * r + c) hw (by omega) (by omega) ((hA182 r (by omega) c (by omega)).trans (congrArg vF (if_neg (by omega)))) (q_imul (q_sipush rfl (q_irem (rg_times _ _) ⟨by omega, by omega⟩ (by omega) (remF (Int.mul_nonneg (vF_ge _) (vF_ge _)) (show toF ((vF (((dsw A r k i j) * (iv ((dsw A r k r j))))) * vF (dsw A r k r c))) = ((((dsw A r k i j) * (iv ((dsw A r k r j))))) * (dsw A r k r c)) by simp only [toF_add, toF_mul, toF_sub, toF_neg, toF_vF, toF_nat, toF_0, toF_1, toF_M, F_add0, F_0sub])) (q_isub hrr))))))))))))))))))))))))) ?_
                          obtain ⟨_, _, _, hV14, rfl, rfl, rfl⟩ := c_L_rest (S := (K, gB X sh nn182)) (fz := false) (m := m) (p := p) (d := d) (by omega) ((vF (dsw A r k i c) - vF (((((dsw A r k i j) * (iv ((dsw A r k r j))))) * (dsw A r k r c))))) (((dsw A r k i c) - (((((dsw A r k i j) * (iv ((dsw A r k r j))))) * (dsw A r k r c))))) ⟨by have := vF_ge (dsw A r k i c); have := vF_lt (dsw A r k i c); have := vF_ge (((((dsw A r k i j) * (iv ((dsw A r k r j))))) * (dsw A r k r c))); have := vF_lt (((((dsw A r k i j) * (iv ((dsw A r k r j))))) * (dsw A r k r c))); omega, by have := vF_ge (dsw A r k i c); have := vF_lt (dsw A r k i c); have := vF_ge (((((dsw A r k i j) * (iv ((dsw A r k r j))))) * (dsw A r k r c))); have := vF_lt (((((dsw A r k i j) * (iv ((dsw A r k r j))))) * (dsw A r k r c))); omega⟩ (by simp only [toF_add, toF_mul, toF_sub, toF_neg, toF_vF, toF_nat, toF_0, toF_1, toF_M, F_add0, F_0sub])
                          refine rw_of (fun rr hrr => q_invS hV14 rfl rfl (okar_cons rfl okar_nil) (Nat.le_of_ble_eq_true rfl) (q_last (j := 8 * i + c) hw (by omega) (by omega) hrr)) ?_
                          generalize hm15 : wI nn182 w (8 * i + c) (vF (((dsw A r k i c) - (((((dsw A r k i j) * (iv ((dsw A r k r j))))) * (dsw A r k r c)))))) = e17
                          refine rw_of (fun rr hrr => q_iinc rfl rfl (q_goto (t := 182) rfl hrr)) ?_
                          have hA18 : Mv e17 w n (fun z c' => if r < z ∧ (z < i ∨ z = i ∧ c' < (c + 1)) then dsw A r k z c' - dsw A r k z j * iv (dsw A r k r j) * dsw A r k r c' else dsw A r k z c') := by
                            refine Mv_cg (Mv_st hm15 hA182 hn (by omega)) (fun z hz c' hc' => ?_)
                            grind
                          exact rw_cast (ih182 (by omega) _ _ e17 ⟨(fun a9 h9 => ((kN hm15 (by omega)).trans (hF182 a9 (by show ¬ (a9 = w); omega)))), hA18⟩) (lcons rfl (lcons rfl (lcons rfl (lcons rfl (lcons rfl (lcons rfl (lcons rfl (lcons rfl (lcons rfl (lcons (lvI (by omega)) rfl)))))))))) rfl
                      have hA19 : Mv nn154 w n (fun z c' => if r < z ∧ (z < i ∨ z = i ∧ c' < 0) then dsw A r k z c' - dsw A r k z j * iv (dsw A r k r j) * dsw A r k r c' else dsw A r k z c') := by
                        exact Mv_cg hA154 (fun z hz c' hc' => by grind)
                      exact rw_cast (hL182 0 (by omega) _ _ nn154 ⟨(fun _ _ => rfl), hA19⟩) (lcons rfl (lcons rfl (lcons rfl (lcons rfl (lcons rfl (lcons rfl (lcons rfl (lcons rfl (lcons rfl (lcons (lvI (by omega)) rfl)))))))))) rfl
                  have hA20 : r < (r + 1) ∧ Mv nn119 w n (fun z c' => if r < z ∧ z < (r + 1) then dsw A r k z c' - dsw A r k z j * iv (dsw A r k r j) * dsw A r k r c' else dsw A r k z c') := by
                    exact ⟨by omega, Mv_cg (Mv_k hB119 rfl) (fun z hz c' hc' => (if_neg (by omega)).symm)⟩
                  exact rw_cast (hL154 (r + 1) (by omega) _ _ nn119 x7_8 x7_9 ⟨(fun _ _ => rfl), hA20⟩) (lcons rfl (lcons rfl (lcons rfl (lcons rfl (lcons rfl (lcons rfl (lcons rfl (lcons (lvI (by omega)) (lcons rfl (lcons rfl rfl)))))))))) rfl
                refine rw_icmp_ge ⟨by omega, by omega⟩ ⟨by omega, by omega⟩ (t := 119) rfl (fun hc21 => ?_) (fun hc21 => ?_)
                · skip
                  have hA22 : Mv nn55 w n (dsw A r k) := by
                    exact Mv_cg hI55 (fun z hz c' hc' => if_pos (by omega))
                  exact rw_cast (hL119 _ _ nn55 (some (.int (iI (((c : Nat) : Int))))) x55_7 ⟨(fun _ _ => rfl), hA22⟩) rfl rfl
                · skip
                  refine rw_of (fun rr hrr => q_iload rfl (q_iload_n rfl hrr)) ?_
                  refine rw_icmp_le ⟨by omega, by omega⟩ ⟨by omega, by omega⟩ (t := 119) rfl (fun hc23 => ?_) (fun hc23 => ?_)
                  · skip
                    have hA24 : Mv nn55 w n (dsw A r k) := by
                      exact Mv_cg hI55 (fun z hz c' hc' => by
                        have h9 : ¬ r < k := by omega
                        simp [dsw, h9])
                    exact rw_cast (hL119 _ _ nn55 (some (.int (iI (((c : Nat) : Int))))) x55_7 ⟨(fun _ _ => rfl), hA24⟩) rfl rfl
                  · skip
                    refine rw_of (fun rr hrr => q_aload_n rfl (q_bipush rfl (q_iload rfl (q_imul (q_iload rfl (q_iadd (q_lald (j := 8 * k + c) hw (by omega) (by omega) ((hI55 k (by omega) c (by omega)).trans (congrArg vF (if_neg (by omega)))) (q_istore (Nat.le_of_ble_eq_true rfl) rfl (q_aload_n rfl (q_bipush rfl (q_iload rfl (q_imul (q_iload rfl (q_iadd (q_aload_n rfl (q_bipush rfl (q_iload_n rfl (q_imul (q_iload rfl (q_iadd (q_lald (j := 8 * r + c) hw (by omega) (by omega) ((hI55 r (by omega) c (by omega)).trans (congrArg vF (if_neg (by omega)))) (q_last (j := 8 * k + c) hw (by omega) (by omega) hrr)))))))))))))))))))))) ?_
                    generalize hm25 : wI nn55 w (8 * k + c) (vF (A r c)) = e26
                    refine rw_of (fun rr hrr => q_aload_n rfl (q_bipush rfl (q_iload_n rfl (q_imul (q_iload rfl (q_iadd (q_iload rfl (q_ineg hrr)))))))) ?_
                    obtain ⟨_, _, _, hV27, rfl, rfl, rfl⟩ := c_L_rest (S := (K, gB X sh e26)) (fz := false) (m := m) (p := p) (d := d) (by omega) ((-vF (A k c))) ((-(A k c))) ⟨by have := vF_ge (A k c); have := vF_lt (A k c); omega, by have := vF_ge (A k c); have := vF_lt (A k c); omega⟩ (by simp only [toF_add, toF_mul, toF_sub, toF_neg, toF_vF, toF_nat, toF_0, toF_1, toF_M, F_add0, F_0sub])
                    refine rw_of (fun rr hrr => q_invS hV27 rfl rfl (okar_cons rfl okar_nil) (Nat.le_of_ble_eq_true rfl) (q_last (j := 8 * r + c) hw (by omega) (by omega) hrr)) ?_
                    generalize hm28 : wI e26 w (8 * r + c) (vF ((-(A k c)))) = e29
                    refine rw_of (fun rr hrr => q_iinc rfl rfl (q_goto (t := 55) rfl hrr)) ?_
                    have hA30 : Mv e29 w n (fun z c' => if c' < (c + 1) then dsw A r k z c' else A z c') := by
                      refine Mv_cg (Mv_st hm28 (Mv_st hm25 hI55 hn (by omega)) hn (by omega)) (fun z hz c' hc' => ?_)
                      unfold dsw
                      grind
                    exact rw_cast (ih55 (by omega) _ _ e29 (some (.int (iI (vF (A k c))))) ⟨(fun a9 h9 => ((kN hm28 (by omega)).trans ((kN hm25 (by omega)).trans (hF55 a9 (by show ¬ (a9 = w); omega))))), hA30⟩) (lcons rfl (lcons rfl (lcons rfl (lcons rfl (lcons rfl (lcons rfl (lcons (lvI (by omega)) (lcons rfl (lcons rfl (lcons rfl rfl)))))))))) rfl
              have hA31 : Mv nn7 w n (fun z c' => if c' < 0 then dsw A r k z c' else A z c') := by
                exact Mv_cg (Mv_k hA7 rfl) (fun z hz c' hc' => by simp)
              exact rw_cast (hL55 0 (by omega) _ _ nn7 x7_7 ⟨(fun _ _ => rfl), hA31⟩) (lcons rfl (lcons rfl (lcons rfl (lcons rfl (lcons rfl (lcons rfl (lcons (lvI (by omega)) (lcons rfl (lcons rfl (lcons rfl rfl)))))))))) rfl
            · exfalso; omega
          · skip
            refine rw_of (fun rr hrr => q_iinc rfl rfl (q_goto (t := 16) rfl hrr)) ?_
            have hA32 : r ≤ (k + 1) ∧ ∀ z, r ≤ z → z < (k + 1) → A z j = 0 := by
              refine ⟨by omega, fun z h1 h2 => ?_⟩
              by_cases q : z = k
              · rw [q]; exact vF_eq0.mp (by assumption)
              · exact hz16 z h1 (by omega)
            exact rw_cast (ih16 (by omega) _ _ hA32) (lcons rfl (lcons rfl (lcons rfl (lcons rfl (lcons rfl (lcons (lvI (by omega)) (lcons rfl (lcons rfl (lcons rfl (lcons rfl rfl)))))))))) rfl
      have hA33 : r ≤ r ∧ ∀ z, r ≤ z → z < r → A z j = 0 := by
        exact ⟨Nat.le_refl _, fun z h1 h2 => by omega⟩
      exact rw_cast (hL16 r (by omega) _ _ hA33) rfl rfl
  have hA34 : dls n W 0 = (W, 0, 1) ∧ Mv nn w n W := by
    exact ⟨rfl, hW⟩
  exact rw_cast (hL7 0 (by omega) _ _ nn W 0 1 none none none none none ⟨(fun _ _ => rfl), hA34⟩) (lcons rfl (lcons rfl (lcons (lvI (by rfl)) (lcons (lvI (by omega)) (lcons (lvI (by omega)) (lcons rfl (lcons rfl (lcons rfl (lcons rfl (lcons rfl rfl)))))))))) rfl
