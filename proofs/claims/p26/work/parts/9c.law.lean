/-! THE LAW's loop. -/
theorem LR_fr {rp ur gg k cp ci : Nat} {m m' : M1} {nn n' : N2} (h : LR rp ur gg k cp ci m nn) (e1 : n' rp = nn rp) (e2 : n' ur = nn ur) (e3 : n' gg = nn gg) (hP : m' 4 = m 4) (hU : m' 6 = m 6) : LR rp ur gg k cp ci m' n' := by
  unfold LR
  rw [e1, e2, e3, hP, hU]
  exact h
theorem law_go {d : Nat} {X : MC} {L : Nat} {xs : Nat → Int32} (hd : 11 ≤ d) (hX : X = mI L xs) (hL : L ≤ 260) {m : M1} {p : M2} (hC0 : CI 0 (fun _ => 0) 0 0 m p) (cc ss : Nat) : ∀ Qr, Qr = LQ X 260 (fun _ => 0) 9360 (fun v _ _ _ _ _ => v = some (.int (iI 1))) → Rw (Ev d) k_L_law (7, (s_L_law_0).drop 3, [some (.ref 0), none, none, none, none, none, none, none, none, none], [.ref 1], hB X m p 260 (fun _ => 0) (fun _ _ => 0), cc, ss) Qr := by
  intro Qr hQ
  have hC := CS_rf hC0
  have hK : 260 ≤ 260 := Nat.le_refl _
  refine rw_of (fun rr hrr => q_astore_n (Nat.le_of_ble_eq_true rfl) rfl (q_bipush rfl (q_lnew (l := 32) (by omega) rfl (by omega) hrr))) ?_
  generalize hu1 : nU (fun _ _ => 0) (260 + 1) = e2
  refine rw_of (fun rr hrr => q_astore_n (Nat.le_of_ble_eq_true rfl) rfl (q_bipush rfl (q_lnew (l := 20) (by omega) rfl (by omega) hrr))) ?_
  generalize hu3 : nU e2 (260 + 1 + 1) = e4
  refine rw_of (fun rr hrr => q_astore_n (Nat.le_of_ble_eq_true rfl) rfl (q_iconst (q_lnew (l := 3) (by omega) rfl (by omega) hrr))) ?_
  generalize hu5 : nU e4 (260 + 1 + 1 + 1) = e6
  refine rw_of (fun rr hrr => q_astore (Nat.le_of_ble_eq_true rfl) rfl (q_aload_n rfl (q_iconst (q_iconst (q_iconst (q_iconst (q_iconst (q_iconst hrr)))))))) ?_
  obtain ⟨_, mm7, pp7, K7, _, _, cc7, ss7, hV7, hK7, hKB7, hS7, rfl, hC7, rfl, rfl⟩ := e_systemX (X := X) (K := 260 + 1 + 1 + 1) (sh := shU (shU (shU ((fun _ => 0)) (260 + 1) 32) (260 + 1 + 1) 20) (260 + 1 + 1 + 1) 3) (nn := e6) (d := d) (by omega) hC (n := 0) (by omega) (by omega)
  have hKB7 : K7 ≤ 260 + 1 + 1 + 1 + 1 := hKB7
  refine rw_of (fun rr hrr => q_invS hV7 rfl rfl (okar_cons rfl (okar_cons rfl (okar_cons rfl (okar_cons rfl (okar_cons rfl (okar_cons rfl (okar_cons rfl okar_nil))))))) (Nat.le_of_ble_eq_true rfl) (q_sipush rfl hrr)) ?_
  refine rw_icmp_ne ⟨by omega, by omega⟩ ⟨by omega, by omega⟩ (t := 119) rfl (fun hc8 => ?_) (fun hc8 => ?_)
  · exact absurd hc8 (by decide)
  · skip
    refine rw_of (fun rr hrr => q_aload_n rfl (q_bipush rfl (q_iconst (q_iconst (q_iconst (q_iconst (q_iconst hrr))))))) ?_
    obtain ⟨_, mm9, pp9, K9, _, _, cc9, ss9, hV9, hK9, hKB9, hS9, rfl, hC9, rfl, rfl⟩ := e_orderP (X := X) (K := K7) (sh := shU (shU (shU ((fun _ => 0)) (260 + 1) 32) (260 + 1 + 1) 20) (260 + 1 + 1 + 1) 3) (nn := e6) (d := d) (by omega) hC7 (s := 0) (by omega) (by omega)
    have hKB9 : K9 ≤ K7 + 1 := hKB9
    refine rw_of (fun rr hrr => q_invS hV9 rfl rfl (okar_cons rfl (okar_cons rfl (okar_cons rfl (okar_cons rfl (okar_cons rfl (okar_cons rfl (okar_cons rfl okar_nil))))))) (Nat.le_of_ble_eq_true rfl) (q_sipush rfl hrr)) ?_
    refine rw_icmp_ne ⟨by omega, by omega⟩ ⟨by omega, by omega⟩ (t := 119) rfl (fun hc10 => ?_) (fun hc10 => ?_)
    · exact absurd hc10 (by decide)
    · skip
      refine rw_of (fun rr hrr => q_aload_n rfl (q_bipush rfl (q_iconst (q_iconst (q_iconst (q_iconst (q_iconst hrr))))))) ?_
      obtain ⟨_, mm11, pp11, K11, _, _, cc11, ss11, hV11, hK11, hKB11, hS11, rfl, hC11, rfl, rfl⟩ := e_atP (X := X) (K := K9) (sh := shU (shU (shU ((fun _ => 0)) (260 + 1) 32) (260 + 1 + 1) 20) (260 + 1 + 1 + 1) 3) (nn := e6) (d := d) (by omega) hC9 (s := 0) (by omega) (by omega)
      have hKB11 : K11 ≤ K9 + 1 := hKB11
      refine rw_of (fun rr hrr => q_invS hV11 rfl rfl (okar_cons rfl (okar_cons rfl (okar_cons rfl (okar_cons rfl (okar_cons rfl (okar_cons rfl (okar_cons rfl okar_nil))))))) (Nat.le_of_ble_eq_true rfl) (q_sipush rfl hrr)) ?_
      refine rw_icmp_ne ⟨by omega, by omega⟩ ⟨by omega, by omega⟩ (t := 119) rfl (fun hc12 => ?_) (fun hc12 => ?_)
      · exact absurd hc12 (by decide)
      · skip
        refine rw_of (fun rr hrr => q_aload_n rfl (q_iconst (q_sipush rfl (q_iconst (q_iconst (q_iconst (q_iconst hrr))))))) ?_
        obtain ⟨_, mm13, pp13, K13, _, _, cc13, ss13, hV13, hK13, hKB13, hS13, rfl, hC13, rfl, rfl⟩ := e_poleX (X := X) (K := K11) (sh := shU (shU (shU ((fun _ => 0)) (260 + 1) 32) (260 + 1 + 1) 20) (260 + 1 + 1 + 1) 3) (nn := e6) (d := d) (by omega) hC11 (x := 10007) (by omega) (by omega)
        have hKB13 : K13 ≤ K11 + 1 := hKB13
        refine rw_of (fun rr hrr => q_invS hV13 rfl rfl (okar_cons rfl (okar_cons rfl (okar_cons rfl (okar_cons rfl (okar_cons rfl (okar_cons rfl (okar_cons rfl okar_nil))))))) (Nat.le_of_ble_eq_true rfl) (q_sipush rfl hrr)) ?_
        refine rw_icmp_ne ⟨by omega, by omega⟩ ⟨by omega, by omega⟩ (t := 119) rfl (fun hc14 => ?_) (fun hc14 => ?_)
        · exact absurd hc14 (by decide)
        · skip
          refine rw_of (fun rr hrr => q_aload_n rfl (q_bipush rfl (q_iconst (q_iconst (q_iconst (q_iconst (q_iconst hrr))))))) ?_
          obtain ⟨_, mm15, pp15, K15, _, _, cc15, ss15, hV15, hK15, hKB15, hS15, rfl, hC15, rfl, rfl⟩ := e_placedP (X := X) (K := K13) (sh := shU (shU (shU ((fun _ => 0)) (260 + 1) 32) (260 + 1 + 1) 20) (260 + 1 + 1 + 1) 3) (nn := e6) (d := d) (by omega) hC13 (s := 0) (by omega) (by omega)
          have hKB15 : K15 ≤ K13 + 1 := hKB15
          refine rw_of (fun rr hrr => q_invS hV15 rfl rfl (okar_cons rfl (okar_cons rfl (okar_cons rfl (okar_cons rfl (okar_cons rfl (okar_cons rfl (okar_cons rfl okar_nil))))))) (Nat.le_of_ble_eq_true rfl) (q_sipush rfl hrr)) ?_
          refine rw_icmp_ne ⟨by omega, by omega⟩ ⟨by omega, by omega⟩ (t := 119) rfl (fun hc16 => ?_) (fun hc16 => ?_)
          · exact absurd hc16 (by decide)
          · skip
            refine rw_of (fun rr hrr => q_aload_n rfl hrr) ?_
            obtain ⟨_, mm17, pp17, hV17, rfl, hC17⟩ := w_clear (S := (K15, gB X (shU (shU (shU ((fun _ => 0)) (260 + 1) 32) (260 + 1 + 1) 20) (260 + 1 + 1 + 1) 3) e6)) (d := d) (by omega) hC15 
            refine rw_of (fun rr hrr => q_invV hV17 (show SH 1 = (17, 0) from rfl) rfl rfl okar_nil (Nat.le_of_ble_eq_true rfl) hrr) ?_
            refine rw_if_ne ⟨by omega, by omega⟩ (t := 119) rfl (fun hc18 => ?_) (fun hc18 => ?_)
            · exfalso; omega
            · skip
              refine rw_of (fun rr hrr => q_iconst (q_goto (t := 120) rfl hrr)) ?_
              refine rw_blk lk_L_law_120 ?_
              refine rw_of (fun rr hrr => q_istore (Nat.le_of_ble_eq_true rfl) rfl (q_iconst (q_istore (Nat.le_of_ble_eq_true rfl) rfl hrr))) ?_
              have hL125 : ∀ it, it ≤ 56 → ∀ (cc ss : Nat) (K125 : Nat) (sh125 : Nat → Nat) (nn125 : N2) (m125 : M1) (p125 : M2) (kk : Nat) (cpp : Nat) (cii : Nat) (NN : Nat → Nat) (x125_7 : Option Value) (x125_8 : Option Value) (x125_9 : Option Value), (K15 ≤ K125 ∧ K125 ≤ K15 + 167 * it ∧ FrS K15 (shU (shU (shU ((fun _ => 0)) (260 + 1) 32) (260 + 1 + 1) 20) (260 + 1 + 1 + 1) 3) sh125 ∧ FrN (fun a_ => K15 < a_ ∨ True) e6 nn125 ∧ True ∧ (CI kk NN cpp cii m125 p125 ∧ LR (260 + 1) (260 + 1 + 1) (260 + 1 + 1 + 1) kk cpp cii m125 nn125 ∧ (1 ≤ it → 1 ≤ kk))) → Rw (Ev d) k_L_law (125, [], [some (.ref (0)), some (.ref (1)), some (.ref (260 + 1)), some (.ref (260 + 1 + 1)), some (.ref (260 + 1 + 1 + 1)), some (.int (iI (1))), some (.int (iI (((it : Nat) : Int)))), x125_7, x125_8, x125_9], [], hB X m125 p125 K125 sh125 nn125, cc, ss) Qr := by
                refine loop_any (fun it hi125 ih125 => ?_)
                intro cc ss K125 sh125 nn125 m125 p125 kk cpp cii NN x125_7 x125_8 x125_9
                intro hI
                obtain ⟨hKl125, hBl125, hSl125, hF125, hC125, ⟨hI1, hI2, hI3⟩⟩ := hI
                refine rw_blk lk_L_law_125 ?_
                refine rw_of (fun rr hrr => q_iload rfl (q_bipush rfl hrr)) ?_
                refine rw_icmp_ge ⟨by omega, by omega⟩ ⟨by omega, by omega⟩ (t := 355) rfl (fun hc19 => ?_) (fun hc19 => ?_)
                · skip
                  refine rw_blk lk_L_law_355 ?_
                  refine rw_of (fun rr hrr => q_iload rfl hrr) ?_
                  refine lw_end hQ (q_ireturn (by omega)) (by omega) (by omega) (FrS_tr (by omega) (FrS_tr (by omega) (FrS_tr (by omega) (FrS_tr (by omega) (FrS_tr (by omega) (FrS_tr (by omega) (FrS_tr (by omega) (FrS_tr (by omega) (FrS_tr (by omega) FrS_rfl FrS_new) FrS_new) FrS_new) hS7) hS9) hS11) hS13) hS15) hSl125) ?_
                  exact rfl
                · skip
                  refine rw_of (fun rr hrr => q_iload rfl hrr) ?_
                  refine rw_if_eq ⟨by omega, by omega⟩ (t := 355) rfl (fun hc20 => ?_) (fun hc20 => ?_)
                  · exact absurd hc20 (by decide)
                  · skip
                    refine rw_of (fun rr hrr => q_iload rfl (q_iconst hrr)) ?_
                    have hL191 : ∀ (cc ss : Nat) (w : Nat), ((w < 26 ∧ (it < 2 → w = 0))) → Rw (Ev d) k_L_law (191, [], [some (.ref (0)), some (.ref (1)), some (.ref (260 + 1)), some (.ref (260 + 1 + 1)), some (.ref (260 + 1 + 1 + 1)), some (.int (iI (1))), some (.int (iI (((it : Nat) : Int)))), x125_7, x125_8, x125_9], [.int (iI (((w : Nat) : Int)))], hB X m125 p125 K125 sh125 nn125, cc, ss) Qr := by
                      intro cc ss w
                      intro hI
                      obtain ⟨hw1, hw2⟩ := hI
                      refine rw_blk lk_L_law_191 ?_
                      refine rw_of (fun rr hrr => q_istore (Nat.le_of_ble_eq_true rfl) rfl (q_aload_n rfl (q_iconst (q_iload rfl (q_imul (q_iconst (q_iadd (q_eqv (show (((3 * ((it : Nat) : Int)) + 1) : Int) = ((3 * it + 1 : Nat) : Int) from by omega) (q_ldc (v := 60000) rfl rfl hrr))))))))) ?_
                      obtain ⟨_, mm21, pp21, _, _, _, cc21, ss21, hV21, _, _, _, jw21, hjw21, rfl, rfl, rfl, rfl, rfl, rfl⟩ := c_L_part (X := X) (m := m125) (p := p125) (K := K125) (sh := sh125) (nn := nn125) (d := d) (by omega) (by omega) L (3 * it + 1) 60000 xs hX hL (by omega) ⟨by omega, by omega⟩
                      refine rw_of (fun rr hrr => q_invS hV21 rfl rfl (okar_cons rfl (okar_cons rfl (okar_cons rfl okar_nil))) (Nat.le_of_ble_eq_true rfl) (q_istore (Nat.le_of_ble_eq_true rfl) rfl (q_iload rfl (q_iconst hrr)))) ?_
                      have hL237 : ∀ (cc ss : Nat) (tw : Nat), ((tw < 60000 ∧ (it < 2 → 1 ≤ tw ∧ tw ≤ 4))) → Rw (Ev d) k_L_law (237, [], [some (.ref (0)), some (.ref (1)), some (.ref (260 + 1)), some (.ref (260 + 1 + 1)), some (.ref (260 + 1 + 1 + 1)), some (.int (iI (1))), some (.int (iI (((it : Nat) : Int)))), some (.int (iI (((w : Nat) : Int)))), some (.int (iI (((jw21 : Nat) : Int)))), x125_9], [.int (iI (((tw : Nat) : Int)))], hB X m125 p125 K125 sh125 nn125, cc, ss) Qr := by
                        intro cc ss tw
                        intro hI
                        obtain ⟨ht1, ht2⟩ := hI
                        refine rw_blk lk_L_law_237 ?_
                        refine rw_of (fun rr hrr => q_istore (Nat.le_of_ble_eq_true rfl) rfl (q_aload_n rfl (q_aload_n rfl (q_aload_n rfl (q_aload rfl (q_iload rfl (q_bipush rfl hrr))))))) ?_
                        have hL282 : ∀ (cc ss : Nat) (w2 : Nat), ((w2 ≤ 9 ∧ (it < 2 → w2 = 0))) → Rw (Ev d) k_L_law (282, [], [some (.ref (0)), some (.ref (1)), some (.ref (260 + 1)), some (.ref (260 + 1 + 1)), some (.ref (260 + 1 + 1 + 1)), some (.int (iI (1))), some (.int (iI (((it : Nat) : Int)))), some (.int (iI (((w : Nat) : Int)))), some (.int (iI (((jw21 : Nat) : Int)))), some (.int (iI (((tw : Nat) : Int))))], [.int (iI (((w2 : Nat) : Int))), .ref (260 + 1 + 1 + 1), .ref (260 + 1 + 1), .ref (260 + 1), .ref (1)], hB X m125 p125 K125 sh125 nn125, cc, ss) Qr := by
                          intro cc ss w2
                          intro hI
                          obtain ⟨hv1, hv2⟩ := hI
                          refine rw_blk lk_L_law_282 ?_
                          refine rw_of (fun rr hrr => q_iload rfl (q_iload rfl hrr)) ?_
                          obtain ⟨_, mm22, pp22, K22, sh22, e22, cc22, ss22, hV22, hK22, hKB22, hS22, rfl, ka22, cpa22, cia22, Na22, hle22, h0022, hCIa22, hLRa22⟩ := c_L_isAct (X := X) (m := m125) (p := p125) (K := K125) (sh := sh125) (nn := nn125) (d := d) (by omega) (by omega) w2 (by omega) (260 + 1) (260 + 1 + 1) (260 + 1 + 1 + 1) jw21 tw kk cpp cii NN hI1 ((Ro_call hKl125 hSl125 (Ro_call hK15 hS15 (Ro_call hK13 hS13 (Ro_call hK11 hS11 (Ro_call hK9 hS9 (Ro_call hK7 hS7 (Ro_new (Ro_new (Ro_made (by omega))))))))))) ((Ro_call hKl125 hSl125 (Ro_call hK15 hS15 (Ro_call hK13 hS13 (Ro_call hK11 hS11 (Ro_call hK9 hS9 (Ro_call hK7 hS7 (Ro_new (Ro_made (by omega)))))))))) ((Ro_call hKl125 hSl125 (Ro_call hK15 hS15 (Ro_call hK13 hS13 (Ro_call hK11 hS11 (Ro_call hK9 hS9 (Ro_call hK7 hS7 (Ro_made (by omega))))))))) (by omega) (by omega) (by omega) hI2 (by omega) (by omega) (by omega)
                          have hKB22 : K22 ≤ K125 + 7 := hKB22
                          refine rw_of (fun rr hrr => q_invS hV22 rfl rfl (okar_cons rfl (okar_cons rfl (okar_cons rfl (okar_cons rfl (okar_cons rfl (okar_cons rfl (okar_cons rfl okar_nil))))))) (Nat.le_of_ble_eq_true rfl) hrr) ?_
                          have hka : 1 ≤ ka22 := by
                            have h9 := h0022
                            have h8 := hle22
                            omega
                          have hka12 := hCIa22.2.1
                          refine rw_of (fun rr hrr => q_istore (Nat.le_of_ble_eq_true rfl) rfl (q_iload rfl hrr)) ?_
                          refine rw_if_eq ⟨by omega, by omega⟩ (t := 346) rfl (fun hc23 => ?_) (fun hc23 => ?_)
                          · exact absurd hc23 (by decide)
                          · skip
                            refine rw_of (fun rr hrr => q_iload rfl (q_bipush rfl hrr)) ?_
                            refine rw_icmp_lt ⟨by omega, by omega⟩ ⟨by omega, by omega⟩ (t := 342) rfl (fun hc24 => ?_) (fun hc24 => ?_)
                            · skip
                              refine rw_blk lk_L_law_342 ?_
                              refine rw_of (fun rr hrr => q_iconst (q_goto (t := 347) rfl hrr)) ?_
                              refine rw_blk lk_L_law_347 ?_
                              refine rw_of (fun rr hrr => q_istore (Nat.le_of_ble_eq_true rfl) rfl (q_iinc rfl rfl (q_goto (t := 125) rfl hrr))) ?_
                              have hA25 : CI ka22 Na22 cpa22 cia22 mm22 pp22 ∧ LR (260 + 1) (260 + 1 + 1) (260 + 1 + 1 + 1) ka22 cpa22 cia22 mm22 e22 ∧ (1 ≤ (it + 1) → 1 ≤ ka22) := by
                                exact ⟨hCIa22, hLRa22, fun _ => hka⟩
                              exact rw_cast (ih125 (by omega) _ _ K22 sh22 e22 mm22 pp22 ka22 cpa22 cia22 Na22 (some (.int (iI (((w : Nat) : Int))))) (some (.int (iI (((jw21 : Nat) : Int))))) (some (.int (iI (((tw : Nat) : Int))))) ⟨(by omega), (by omega), ((FrS_tr (by omega) (FrS_tr (by omega) FrS_rfl hSl125) hS22)), (fun _ h9 => absurd (Or.inr trivial) h9), trivial, hA25⟩) (lcons rfl (lcons rfl (lcons rfl (lcons rfl (lcons rfl (lcons rfl (lcons (lvI (by omega)) (lcons rfl (lcons rfl (lcons rfl rfl)))))))))) rfl
                            · skip
                              refine rw_of (fun rr hrr => q_iload rfl (q_iconst (q_irem ⟨by omega, by omega⟩ ⟨by omega, by omega⟩ (by omega) (show (((it : Nat) : Int)).tmod (4) = ((it % 4 : Nat) : Int) by rfl) hrr))) ?_
                              refine rw_if_gt ⟨by omega, by omega⟩ (t := 342) rfl (fun hc26 => ?_) (fun hc26 => ?_)
                              · skip
                                refine rw_blk lk_L_law_342 ?_
                                refine rw_of (fun rr hrr => q_iconst (q_goto (t := 347) rfl hrr)) ?_
                                refine rw_blk lk_L_law_347 ?_
                                refine rw_of (fun rr hrr => q_istore (Nat.le_of_ble_eq_true rfl) rfl (q_iinc rfl rfl (q_goto (t := 125) rfl hrr))) ?_
                                have hA27 : CI ka22 Na22 cpa22 cia22 mm22 pp22 ∧ LR (260 + 1) (260 + 1 + 1) (260 + 1 + 1 + 1) ka22 cpa22 cia22 mm22 e22 ∧ (1 ≤ (it + 1) → 1 ≤ ka22) := by
                                  exact ⟨hCIa22, hLRa22, fun _ => hka⟩
                                exact rw_cast (ih125 (by omega) _ _ K22 sh22 e22 mm22 pp22 ka22 cpa22 cia22 Na22 (some (.int (iI (((w : Nat) : Int))))) (some (.int (iI (((jw21 : Nat) : Int))))) (some (.int (iI (((tw : Nat) : Int))))) ⟨(by omega), (by omega), ((FrS_tr (by omega) (FrS_tr (by omega) FrS_rfl hSl125) hS22)), (fun _ h9 => absurd (Or.inr trivial) h9), trivial, hA27⟩) (lcons rfl (lcons rfl (lcons rfl (lcons rfl (lcons rfl (lcons rfl (lcons (lvI (by omega)) (lcons rfl (lcons rfl (lcons rfl rfl)))))))))) rfl
                              · skip
                                refine rw_of (fun rr hrr => q_aload rfl (q_iconst (q_lald (j := 0) (Ro_call hK22 hS22 (Ro_call hKl125 hSl125 (Ro_call hK15 hS15 (Ro_call hK13 hS13 (Ro_call hK11 hS11 (Ro_call hK9 hS9 (Ro_call hK7 hS7 (Ro_made (by omega))))))))) rfl (by omega) hLRa22.1 hrr))) ?_
                                refine rw_if_eq ⟨by omega, by omega⟩ (t := 342) rfl (fun hc28 => ?_) (fun hc28 => ?_)
                                · exfalso; omega
                                · skip
                                  refine rw_of (fun rr hrr => q_aload_n rfl (q_aload_n rfl (q_aload_n rfl (q_aload rfl (q_iload rfl (q_iload rfl (q_iadd (q_eqv (show ((((jw21 : Nat) : Int) + ((it : Nat) : Int)) : Int) = ((jw21 + it : Nat) : Int) from by omega) (q_aload rfl (q_iconst (q_lald (j := 0) (Ro_call hK22 hS22 (Ro_call hKl125 hSl125 (Ro_call hK15 hS15 (Ro_call hK13 hS13 (Ro_call hK11 hS11 (Ro_call hK9 hS9 (Ro_call hK7 hS7 (Ro_made (by omega))))))))) rfl (by omega) hLRa22.1 (q_irem ⟨by omega, by omega⟩ ⟨by omega, by omega⟩ (by omega) (show (((jw21 + it : Nat) : Int)).tmod (((ka22 : Nat) : Int)) = (((jw21 + it) % ka22 : Nat) : Int) by rfl) (q_iload rfl (q_iload rfl hrr)))))))))))))) ?_
                                  obtain ⟨qg0, qg1, qg2, ⟨PP, hpp, hpc⟩, huu⟩ := id hLRa22
                                  obtain ⟨_, mm29, pp29, K29, sh29, e29, cc29, ss29, hV29, hK29, hKB29, hS29, rfl, hC29, hF29⟩ := c_L_isSo (X := X) (m := mm22) (p := pp22) (K := K22) (sh := sh22) (nn := e22) (d := d) (by omega) (by omega) (260 + 1) (260 + 1 + 1) (260 + 1 + 1 + 1) ((jw21 + it) % ka22) jw21 tw PP ka22 cpa22 cia22 Na22 (CS_rf hCIa22) (Nat.mod_lt _ (by omega)) ((Ro_call hK22 hS22 (Ro_call hKl125 hSl125 (Ro_call hK15 hS15 (Ro_call hK13 hS13 (Ro_call hK11 hS11 (Ro_call hK9 hS9 (Ro_call hK7 hS7 (Ro_new (Ro_made (by omega))))))))))) ((Ro_call hK22 hS22 (Ro_call hKl125 hSl125 (Ro_call hK15 hS15 (Ro_call hK13 hS13 (Ro_call hK11 hS11 (Ro_call hK9 hS9 (Ro_call hK7 hS7 (Ro_new (Ro_new (Ro_made (by omega)))))))))))) ((Ro_call hK22 hS22 (Ro_call hKl125 hSl125 (Ro_call hK15 hS15 (Ro_call hK13 hS13 (Ro_call hK11 hS11 (Ro_call hK9 hS9 (Ro_call hK7 hS7 (Ro_made (by omega)))))))))) hpp hpc qg1 qg2 huu (by omega) (by omega)
                                  have hKB29 : K29 ≤ K22 + 160 := hKB29
                                  refine rw_of (fun rr hrr => q_invS hV29 rfl rfl (okar_cons rfl (okar_cons rfl (okar_cons rfl (okar_cons rfl (okar_cons rfl (okar_cons rfl (okar_cons rfl okar_nil))))))) (Nat.le_of_ble_eq_true rfl) hrr) ?_
                                  refine rw_if_eq ⟨by omega, by omega⟩ (t := 346) rfl (fun hc30 => ?_) (fun hc30 => ?_)
                                  · exact absurd hc30 (by decide)
                                  · skip
                                    refine rw_blk lk_L_law_342 ?_
                                    refine rw_of (fun rr hrr => q_iconst (q_goto (t := 347) rfl hrr)) ?_
                                    refine rw_blk lk_L_law_347 ?_
                                    refine rw_of (fun rr hrr => q_istore (Nat.le_of_ble_eq_true rfl) rfl (q_iinc rfl rfl (q_goto (t := 125) rfl hrr))) ?_
                                    have hA31 : CI ka22 Na22 cpa22 cia22 mm29 pp29 ∧ LR (260 + 1) (260 + 1 + 1) (260 + 1 + 1 + 1) ka22 cpa22 cia22 mm29 e29 ∧ (1 ≤ (it + 1) → 1 ≤ ka22) := by
                                      exact ⟨hC29.1, LR_fr hLRa22 (hF29 (260 + 1) (by show ¬ (_ < _); omega)) (hF29 (260 + 1 + 1) (by show ¬ (_ < _); omega)) (hF29 (260 + 1 + 1 + 1) (by show ¬ (_ < _); omega)) hC29.P hC29.U, fun _ => hka⟩
                                    exact rw_cast (ih125 (by omega) _ _ K29 sh29 e29 mm29 pp29 ka22 cpa22 cia22 Na22 (some (.int (iI (((w : Nat) : Int))))) (some (.int (iI (((jw21 : Nat) : Int))))) (some (.int (iI (((tw : Nat) : Int))))) ⟨(by omega), (by omega), ((FrS_tr (by omega) (FrS_tr (by omega) (FrS_tr (by omega) FrS_rfl hSl125) hS22) hS29)), (fun _ h9 => absurd (Or.inr trivial) h9), trivial, hA31⟩) (lcons rfl (lcons rfl (lcons rfl (lcons rfl (lcons rfl (lcons rfl (lcons (lvI (by omega)) (lcons rfl (lcons rfl (lcons rfl rfl)))))))))) rfl
                        refine rw_icmp_ge ⟨by omega, by omega⟩ ⟨by omega, by omega⟩ (t := 256) rfl (fun hc32 => ?_) (fun hc32 => ?_)
                        · skip
                          refine rw_blk lk_L_law_256 ?_
                          refine rw_of (fun rr hrr => q_iload rfl (q_bipush rfl hrr)) ?_
                          refine rw_icmp_ge ⟨by omega, by omega⟩ ⟨by omega, by omega⟩ (t := 268) rfl (fun hc33 => ?_) (fun hc33 => ?_)
                          · skip
                            refine rw_blk lk_L_law_268 ?_
                            refine rw_of (fun rr hrr => q_iload rfl (q_bipush rfl hrr)) ?_
                            refine rw_icmp_ge ⟨by omega, by omega⟩ ⟨by omega, by omega⟩ (t := 280) rfl (fun hc34 => ?_) (fun hc34 => ?_)
                            · skip
                              refine rw_blk lk_L_law_280 ?_
                              refine rw_of (fun rr hrr => q_bipush rfl hrr) ?_
                              have hA35 : 8 ≤ 9 ∧ (it < 2 → 8 = 0) := by
                                exact ⟨by omega, fun _ => by omega⟩
                              exact rw_casts (hL282 _ _ 8 hA35) rfl rfl
                            · skip
                              refine rw_of (fun rr hrr => q_bipush rfl (q_goto (t := 282) rfl hrr)) ?_
                              have hA36 : 7 ≤ 9 ∧ (it < 2 → 7 = 0) := by
                                exact ⟨by omega, fun _ => by omega⟩
                              exact rw_casts (hL282 _ _ 7 hA36) rfl rfl
                          · skip
                            refine rw_of (fun rr hrr => q_bipush rfl (q_goto (t := 282) rfl hrr)) ?_
                            have hA37 : 9 ≤ 9 ∧ (it < 2 → 9 = 0) := by
                              exact ⟨by omega, fun _ => by omega⟩
                            exact rw_casts (hL282 _ _ 9 hA37) rfl rfl
                        · skip
                          refine rw_of (fun rr hrr => q_iload rfl (q_goto (t := 282) rfl hrr)) ?_
                          have hA38 : w ≤ 9 ∧ (it < 2 → w = 0) := by
                            exact ⟨by omega, fun _ => by omega⟩
                          exact rw_casts (hL282 _ _ w hA38) rfl rfl
                      refine rw_icmp_ge ⟨by omega, by omega⟩ ⟨by omega, by omega⟩ (t := 225) rfl (fun hc39 => ?_) (fun hc39 => ?_)
                      · skip
                        refine rw_blk lk_L_law_225 ?_
                        refine rw_of (fun rr hrr => q_aload_n rfl (q_iconst (q_iload rfl (q_imul (q_iconst (q_iadd (q_eqv (show (((3 * ((it : Nat) : Int)) + 2) : Int) = ((3 * it + 2 : Nat) : Int) from by omega) (q_ldc (v := 60000) rfl rfl hrr)))))))) ?_
                        obtain ⟨_, mm40, pp40, _, _, _, cc40, ss40, hV40, _, _, _, jw40, hjw40, rfl, rfl, rfl, rfl, rfl, rfl⟩ := c_L_part (X := X) (m := m125) (p := p125) (K := K125) (sh := sh125) (nn := nn125) (d := d) (by omega) (by omega) L (3 * it + 2) 60000 xs hX hL (by omega) ⟨by omega, by omega⟩
                        refine rw_of (fun rr hrr => q_invS hV40 rfl rfl (okar_cons rfl (okar_cons rfl (okar_cons rfl okar_nil))) (Nat.le_of_ble_eq_true rfl) hrr) ?_
                        have hA41 : jw40 < 60000 ∧ (it < 2 → 1 ≤ jw40 ∧ jw40 ≤ 4) := by
                          exact ⟨by omega, fun _ => ⟨by omega, by omega⟩⟩
                        exact rw_casts (hL237 _ _ jw40 hA41) rfl rfl
                      · skip
                        refine rw_of (fun rr hrr => q_iconst (q_aload_n rfl (q_iload rfl (q_iconst hrr)))) ?_
                        obtain ⟨_, mm42, pp42, _, _, _, cc42, ss42, hV42, _, _, _, jw42, hjw42, rfl, rfl, rfl, rfl, rfl, rfl⟩ := c_L_part (X := X) (m := m125) (p := p125) (K := K125) (sh := sh125) (nn := nn125) (d := d) (by omega) (by omega) L (it) 4 xs hX hL (by omega) ⟨by omega, by omega⟩
                        refine rw_of (fun rr hrr => q_invS hV42 rfl rfl (okar_cons rfl (okar_cons rfl (okar_cons rfl okar_nil))) (Nat.le_of_ble_eq_true rfl) (q_iadd (q_eqv (show ((1 + ((jw42 : Nat) : Int)) : Int) = ((1 + jw42 : Nat) : Int) from by omega) (q_goto (t := 237) rfl hrr)))) ?_
                        have hA43 : (1 + jw42) < 60000 ∧ (it < 2 → 1 ≤ (1 + jw42) ∧ (1 + jw42) ≤ 4) := by
                          exact ⟨by omega, fun _ => ⟨by omega, by omega⟩⟩
                        exact rw_casts (hL237 _ _ (1 + jw42) hA43) rfl rfl
                    refine rw_icmp_ge ⟨by omega, by omega⟩ ⟨by omega, by omega⟩ (t := 147) rfl (fun hc44 => ?_) (fun hc44 => ?_)
                    · skip
                      refine rw_blk lk_L_law_147 ?_
                      refine rw_of (fun rr hrr => q_iload rfl (q_bipush rfl hrr)) ?_
                      refine rw_icmp_ge ⟨by omega, by omega⟩ ⟨by omega, by omega⟩ (t := 159) rfl (fun hc45 => ?_) (fun hc45 => ?_)
                      · skip
                        refine rw_blk lk_L_law_159 ?_
                        refine rw_of (fun rr hrr => q_iload rfl (q_bipush rfl hrr)) ?_
                        refine rw_icmp_ge ⟨by omega, by omega⟩ ⟨by omega, by omega⟩ (t := 170) rfl (fun hc46 => ?_) (fun hc46 => ?_)
                        · skip
                          refine rw_blk lk_L_law_170 ?_
                          refine rw_of (fun rr hrr => q_iload rfl (q_bipush rfl hrr)) ?_
                          refine rw_icmp_ge ⟨by omega, by omega⟩ ⟨by omega, by omega⟩ (t := 181) rfl (fun hc47 => ?_) (fun hc47 => ?_)
                          · skip
                            refine rw_blk lk_L_law_181 ?_
                            refine rw_of (fun rr hrr => q_aload_n rfl (q_iconst (q_iload rfl (q_imul (q_eqv (show ((3 * ((it : Nat) : Int)) : Int) = ((3 * it : Nat) : Int) from by omega) (q_bipush rfl hrr)))))) ?_
                            obtain ⟨_, mm48, pp48, _, _, _, cc48, ss48, hV48, _, _, _, jw48, hjw48, rfl, rfl, rfl, rfl, rfl, rfl⟩ := c_L_part (X := X) (m := m125) (p := p125) (K := K125) (sh := sh125) (nn := nn125) (d := d) (by omega) (by omega) L (3 * it) 26 xs hX hL (by omega) ⟨by omega, by omega⟩
                            refine rw_of (fun rr hrr => q_invS hV48 rfl rfl (okar_cons rfl (okar_cons rfl (okar_cons rfl okar_nil))) (Nat.le_of_ble_eq_true rfl) hrr) ?_
                            have hA49 : jw48 < 26 ∧ (it < 2 → jw48 = 0) := by
                              exact ⟨by omega, fun _ => by omega⟩
                            exact rw_casts (hL191 _ _ jw48 hA49) rfl rfl
                          · skip
                            refine rw_of (fun rr hrr => q_iconst (q_goto (t := 191) rfl hrr)) ?_
                            have hA50 : 5 < 26 ∧ (it < 2 → 5 = 0) := by
                              exact ⟨by omega, fun _ => by omega⟩
                            exact rw_casts (hL191 _ _ 5 hA50) rfl rfl
                        · skip
                          refine rw_of (fun rr hrr => q_iconst (q_goto (t := 191) rfl hrr)) ?_
                          have hA51 : 4 < 26 ∧ (it < 2 → 4 = 0) := by
                            exact ⟨by omega, fun _ => by omega⟩
                          exact rw_casts (hL191 _ _ 4 hA51) rfl rfl
                      · skip
                        refine rw_of (fun rr hrr => q_bipush rfl (q_goto (t := 191) rfl hrr)) ?_
                        have hA52 : 9 < 26 ∧ (it < 2 → 9 = 0) := by
                          exact ⟨by omega, fun _ => by omega⟩
                        exact rw_casts (hL191 _ _ 9 hA52) rfl rfl
                    · skip
                      refine rw_of (fun rr hrr => q_iconst (q_goto (t := 191) rfl hrr)) ?_
                      have hA53 : 0 < 26 ∧ (it < 2 → 0 = 0) := by
                        exact ⟨by omega, fun _ => by omega⟩
                      exact rw_casts (hL191 _ _ 0 hA53) rfl rfl
              have hA54 : CI 0 (fun _ => 0) 0 0 mm17 pp17 ∧ LR (260 + 1) (260 + 1 + 1) (260 + 1 + 1 + 1) 0 0 0 mm17 e6 ∧ (1 ≤ 0 → 1 ≤ 0) := by
                exact ⟨(hC17).1, ⟨((kU0 hu5)), ((kU0 hu5)), ((kU0 hu5)), ⟨fun _ => 0, fun i hi => (((congrFun (kU hu5 (by omega)) _).trans (congrFun (kU hu3 (by omega)) _)).trans (kU0 hu1)), fun i hi => absurd hi (Nat.not_lt_zero i)⟩, fun i hi => absurd hi (Nat.not_lt_zero i)⟩, fun h => absurd h (by omega)⟩
              exact rw_cast (hL125 0 (by omega) _ _ K15 (shU (shU (shU ((fun _ => 0)) (260 + 1) 32) (260 + 1 + 1) 20) (260 + 1 + 1 + 1) 3) e6 mm17 pp17 0 0 0 (fun _ => 0) none none none ⟨(by omega), (by omega), (FrS_rfl), (fun _ h9 => absurd (Or.inr trivial) h9), trivial, hA54⟩) (lcons rfl (lcons rfl (lcons rfl (lcons rfl (lcons rfl (lcons rfl (lcons (lvI (by omega)) (lcons rfl (lcons rfl (lcons rfl rfl)))))))))) rfl
