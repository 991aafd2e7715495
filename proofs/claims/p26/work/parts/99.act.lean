/-! One act. -/
/-- what the law keeps of the shop in its rows -/
def LR (rp ur gg k cp ci : Nat) (m : M1) (nn : N2) : Prop := nn gg 0 = (k : Int) ∧ nn gg 1 = (cp : Int) ∧ nn gg 2 = (ci : Int) ∧ (∃ PP : Nat → F, (∀ i, i < 32 → nn rp i = vF (PP i)) ∧ ∀ i, i < cp → PP i = m 4 i) ∧ ∀ i, i < ci → nn ur i = vF (m 6 i)
theorem c_L_isAct0 {d : Nat} {X : MC} {m : M1} {p : M2} {K : Nat} {sh : Nat → Nat} {nn : N2} (hd : 11 ≤ d) (hK : 260 ≤ K) (rp ur gg one two : Nat) (k cp ci : Nat) (N : Nat → Nat) (hC0 : CI k N cp ci m p) (hpr : Ro K sh rp 32) (hur : Ro K sh ur 20) (hgr : Ro K sh gg 3) (hrg : rp ≠ gg) (hug : ur ≠ gg) (hru : rp ≠ ur) (hLR : LR rp ur gg k cp ci m nn) (h1 : one < 60000) (h2 : two < 60000) : Lc d k_L_isAct X [.ref (1), .ref (rp), .ref (ur), .ref (gg), .int (iI (0)), .int (iI (((one : Nat) : Int))), .int (iI (((two : Nat) : Int)))] m p K sh nn (fun v m' p' K' sh' n' => v = some (.int (iI 1)) ∧ ∃ k' cp' ci', ∃ N' : Nat → Nat, k ≤ k' ∧ (1 ≤ two % 6 ∧ two % 6 ≤ 4 ∧ k < 12 → 1 ≤ k') ∧ CI k' N' cp' ci' m' p' ∧ LR rp ur gg k' cp' ci' m' n') := by
  obtain ⟨d, rfl⟩ : ∃ e, d = e + 1 := ⟨d - 1, by omega⟩
  have hpr8 := hpr.1; have hpr9 := hpr.2.1
  have hur8 := hur.1; have hur9 := hur.2.1
  have hgr8 := hgr.1; have hgr9 := hgr.2.1
  have hC := CS_rf hC0
  have hk12 := hC.k12
  have hcp16 := hC.p16
  have hci20 := hC.i20
  obtain ⟨hg0, hg1, hg2, ⟨PP, hpp, hpc⟩, huu⟩ := hLR
  obtain ⟨sy, hsy0⟩ : ∃ z, z = one % (k + 1) := ⟨_, rfl⟩
  obtain ⟨ot, hot0⟩ : ∃ z, z = two % (k + 1) := ⟨_, rfl⟩
  have hsy : sy ≤ k := by rw [hsy0]; exact Nat.le_of_lt_succ (Nat.mod_lt _ (Nat.succ_pos _))
  have hot : ot ≤ k := by rw [hot0]; exact Nat.le_of_lt_succ (Nat.mod_lt _ (Nat.succ_pos _))
  refine lc_go (lv := [some (.ref (1)), some (.ref (rp)), some (.ref (ur)), some (.ref (gg)), some (.int (iI (0))), some (.int (iI (((one : Nat) : Int)))), some (.int (iI (((two : Nat) : Int)))), none, none, none, none, none, none, none, none, none, none]) (B := 7) (Nat.le_of_ble_eq_true rfl) (okar_cons rfl (okar_cons rfl (okar_cons rfl (okar_cons rfl (okar_cons rfl (okar_cons rfl (okar_cons rfl okar_nil))))))) rfl rfl (fun Qr hQ => ?_)
  refine rw_blk lk_L_isAct_0 ?_
  refine rw_of (fun rr hrr => q_iload rfl (q_aload_n rfl (q_iconst (q_lald (j := 0) hgr rfl (by omega) hg0 (q_iconst (q_iadd (q_irem ⟨by omega, by omega⟩ ⟨by omega, by omega⟩ (by omega) (show (((one : Nat) : Int)).tmod ((((k : Nat) : Int) + 1)) = ((sy : Nat) : Int) from by rw [hsy0]; rfl) (q_istore (Nat.le_of_ble_eq_true rfl) rfl (q_iload rfl (q_aload_n rfl (q_iconst (q_lald (j := 0) hgr rfl (by omega) hg0 (q_iconst (q_iadd (q_irem ⟨by omega, by omega⟩ ⟨by omega, by omega⟩ (by omega) (show (((two : Nat) : Int)).tmod ((((k : Nat) : Int) + 1)) = ((ot : Nat) : Int) from by rw [hot0]; rfl) (q_istore (Nat.le_of_ble_eq_true rfl) rfl (q_iload rfl hrr))))))))))))))))) ?_
  refine rw_if_ne ⟨by omega, by omega⟩ (t := 133) rfl (fun hc1 => ?_) (fun hc1 => ?_)
  · exact absurd hc1 (by decide)
  · skip
    refine rw_of (fun rr hrr => q_iload rfl (q_bipush rfl (q_irem ⟨by omega, by omega⟩ ⟨by omega, by omega⟩ (by omega) (show (((two : Nat) : Int)).tmod (6) = ((two % 6 : Nat) : Int) by rfl) (q_istore (Nat.le_of_ble_eq_true rfl) rfl (q_iload rfl hrr))))) ?_
    refine rw_if_le ⟨by omega, by omega⟩ (t := 47) rfl (fun hc2 => ?_) (fun hc2 => ?_)
    · skip
      refine rw_blk lk_L_isAct_47 ?_
      refine rw_of (fun rr hrr => q_iconst hrr) ?_
      refine rw_blk lk_L_isAct_48 ?_
      refine rw_of (fun rr hrr => q_istore (Nat.le_of_ble_eq_true rfl) rfl (q_iload rfl hrr)) ?_
      refine rw_if_eq ⟨by omega, by omega⟩ (t := 67) rfl (fun hc3 => ?_) (fun hc3 => ?_)
      · skip
        refine rw_blk lk_L_isAct_67 ?_
        refine rw_of (fun rr hrr => q_iconst hrr) ?_
        refine rw_blk lk_L_isAct_68 ?_
        refine rw_of (fun rr hrr => q_istore (Nat.le_of_ble_eq_true rfl) rfl (q_aload_n rfl (q_iconst (q_dup2 rfl rfl (q_lald (j := 0) hgr rfl (by omega) hg0 (q_iload rfl hrr)))))) ?_
        refine rw_if_eq ⟨by omega, by omega⟩ (t := 83) rfl (fun hc4 => ?_) (fun hc4 => ?_)
        · skip
          refine rw_blk lk_L_isAct_83 ?_
          refine rw_of (fun rr hrr => q_iconst hrr) ?_
          refine rw_blk lk_L_isAct_84 ?_
          refine rw_of (fun rr hrr => q_iadd (q_last (j := 0) hgr rfl (by omega) hrr)) ?_
          generalize hm5 : wI nn gg 0 ((((k : Nat) : Int) + 0)) = e6
          refine rw_of (fun rr hrr => q_aload_n rfl (q_iconst (q_iload rfl (q_iconst (q_iconst (q_iconst (q_iconst hrr))))))) ?_
          obtain ⟨_, mm7, pp7, K7, _, _, cc7, ss7, hV7, hK7, hKB7, hS7, rfl, hC7, rfl, rfl⟩ := e_systemX (X := X) (K := K) (sh := sh) (nn := e6) (d := d) (by omega) hC (n := two % 6) (by omega) (by omega)
          have hKB7 : K7 ≤ K + 1 := hKB7
          refine rw_of (fun rr hrr => q_invS hV7 rfl rfl (okar_cons rfl (okar_cons rfl (okar_cons rfl (okar_cons rfl (okar_cons rfl (okar_cons rfl (okar_cons rfl okar_nil))))))) (Nat.le_of_ble_eq_true rfl) (q_iload rfl hrr)) ?_
          refine rw_if_ne ⟨by omega, by omega⟩ (t := 108) rfl (fun hc8 => ?_) (fun hc8 => ?_)
          · exact absurd hc8 (by decide)
          · skip
            refine rw_of (fun rr hrr => q_sipush rfl (q_goto (t := 124) rfl hrr)) ?_
            refine rw_blk lk_L_isAct_124 ?_
            refine rw_icmp_ne ⟨by omega, by omega⟩ ⟨by omega, by omega⟩ (t := 131) rfl (fun hc9 => ?_) (fun hc9 => ?_)
            · exfalso; omega
            · skip
              refine rw_of (fun rr hrr => q_iconst (q_goto (t := 132) rfl hrr)) ?_
              refine rw_blk lk_L_isAct_132 ?_
              refine lw_end hQ (q_ireturn (by omega)) (by omega) (by omega) (FrS_tr (by omega) FrS_rfl hS7) ?_
              exact ⟨rfl, k, cp, ci, N, by omega, (fun h => by omega), (hC7).1, ((show e6 gg 0 = (((k : Nat) : Int) + 0) from (kA hm5)).trans (by omega)), ((kB hm5 (by omega)).trans hg1), ((kB hm5 (by omega)).trans hg2), ⟨PP, fun i hi => (show e6 rp i = nn rp i from congrFun (kN hm5 (by omega)) _).trans (hpp i hi), fun i hi => (hpc i hi).trans (congrFun (hC7).P i).symm⟩, fun i hi => ((show e6 ur i = nn ur i from congrFun (kN hm5 (by omega)) _).trans (huu i hi)).trans (congrArg vF (congrFun (hC7).U i).symm)⟩
        · exact absurd hc4 (by decide)
      · exact absurd hc3 (by decide)
    · skip
      refine rw_of (fun rr hrr => q_iload rfl (q_iconst hrr)) ?_
      refine rw_icmp_ge ⟨by omega, by omega⟩ ⟨by omega, by omega⟩ (t := 47) rfl (fun hc10 => ?_) (fun hc10 => ?_)
      · skip
        refine rw_blk lk_L_isAct_47 ?_
        refine rw_of (fun rr hrr => q_iconst hrr) ?_
        refine rw_blk lk_L_isAct_48 ?_
        refine rw_of (fun rr hrr => q_istore (Nat.le_of_ble_eq_true rfl) rfl (q_iload rfl hrr)) ?_
        refine rw_if_eq ⟨by omega, by omega⟩ (t := 67) rfl (fun hc11 => ?_) (fun hc11 => ?_)
        · skip
          refine rw_blk lk_L_isAct_67 ?_
          refine rw_of (fun rr hrr => q_iconst hrr) ?_
          refine rw_blk lk_L_isAct_68 ?_
          refine rw_of (fun rr hrr => q_istore (Nat.le_of_ble_eq_true rfl) rfl (q_aload_n rfl (q_iconst (q_dup2 rfl rfl (q_lald (j := 0) hgr rfl (by omega) hg0 (q_iload rfl hrr)))))) ?_
          refine rw_if_eq ⟨by omega, by omega⟩ (t := 83) rfl (fun hc12 => ?_) (fun hc12 => ?_)
          · skip
            refine rw_blk lk_L_isAct_83 ?_
            refine rw_of (fun rr hrr => q_iconst hrr) ?_
            refine rw_blk lk_L_isAct_84 ?_
            refine rw_of (fun rr hrr => q_iadd (q_last (j := 0) hgr rfl (by omega) hrr)) ?_
            generalize hm13 : wI nn gg 0 ((((k : Nat) : Int) + 0)) = e14
            refine rw_of (fun rr hrr => q_aload_n rfl (q_iconst (q_iload rfl (q_iconst (q_iconst (q_iconst (q_iconst hrr))))))) ?_
            obtain ⟨_, mm15, pp15, K15, _, _, cc15, ss15, hV15, hK15, hKB15, hS15, rfl, hC15, rfl, rfl⟩ := e_systemX (X := X) (K := K) (sh := sh) (nn := e14) (d := d) (by omega) hC (n := two % 6) (by omega) (by omega)
            have hKB15 : K15 ≤ K + 1 := hKB15
            refine rw_of (fun rr hrr => q_invS hV15 rfl rfl (okar_cons rfl (okar_cons rfl (okar_cons rfl (okar_cons rfl (okar_cons rfl (okar_cons rfl (okar_cons rfl okar_nil))))))) (Nat.le_of_ble_eq_true rfl) (q_iload rfl hrr)) ?_
            refine rw_if_ne ⟨by omega, by omega⟩ (t := 108) rfl (fun hc16 => ?_) (fun hc16 => ?_)
            · exact absurd hc16 (by decide)
            · skip
              refine rw_of (fun rr hrr => q_sipush rfl (q_goto (t := 124) rfl hrr)) ?_
              refine rw_blk lk_L_isAct_124 ?_
              refine rw_icmp_ne ⟨by omega, by omega⟩ ⟨by omega, by omega⟩ (t := 131) rfl (fun hc17 => ?_) (fun hc17 => ?_)
              · exfalso; omega
              · skip
                refine rw_of (fun rr hrr => q_iconst (q_goto (t := 132) rfl hrr)) ?_
                refine rw_blk lk_L_isAct_132 ?_
                refine lw_end hQ (q_ireturn (by omega)) (by omega) (by omega) (FrS_tr (by omega) FrS_rfl hS15) ?_
                exact ⟨rfl, k, cp, ci, N, by omega, (fun h => by omega), (hC15).1, ((show e14 gg 0 = (((k : Nat) : Int) + 0) from (kA hm13)).trans (by omega)), ((kB hm13 (by omega)).trans hg1), ((kB hm13 (by omega)).trans hg2), ⟨PP, fun i hi => (show e14 rp i = nn rp i from congrFun (kN hm13 (by omega)) _).trans (hpp i hi), fun i hi => (hpc i hi).trans (congrFun (hC15).P i).symm⟩, fun i hi => ((show e14 ur i = nn ur i from congrFun (kN hm13 (by omega)) _).trans (huu i hi)).trans (congrArg vF (congrFun (hC15).U i).symm)⟩
          · exact absurd hc12 (by decide)
        · exact absurd hc11 (by decide)
      · skip
        refine rw_of (fun rr hrr => q_iconst (q_goto (t := 48) rfl hrr)) ?_
        refine rw_blk lk_L_isAct_48 ?_
        refine rw_of (fun rr hrr => q_istore (Nat.le_of_ble_eq_true rfl) rfl (q_iload rfl hrr)) ?_
        refine rw_if_eq ⟨by omega, by omega⟩ (t := 67) rfl (fun hc18 => ?_) (fun hc18 => ?_)
        · exact absurd hc18 (by decide)
        · skip
          refine rw_of (fun rr hrr => q_aload_n rfl (q_iconst (q_lald (j := 0) hgr rfl (by omega) hg0 (q_bipush rfl hrr)))) ?_
          refine rw_icmp_ge ⟨by omega, by omega⟩ ⟨by omega, by omega⟩ (t := 67) rfl (fun hc19 => ?_) (fun hc19 => ?_)
          · skip
            refine rw_blk lk_L_isAct_67 ?_
            refine rw_of (fun rr hrr => q_iconst hrr) ?_
            refine rw_blk lk_L_isAct_68 ?_
            refine rw_of (fun rr hrr => q_istore (Nat.le_of_ble_eq_true rfl) rfl (q_aload_n rfl (q_iconst (q_dup2 rfl rfl (q_lald (j := 0) hgr rfl (by omega) hg0 (q_iload rfl hrr)))))) ?_
            refine rw_if_eq ⟨by omega, by omega⟩ (t := 83) rfl (fun hc20 => ?_) (fun hc20 => ?_)
            · skip
              refine rw_blk lk_L_isAct_83 ?_
              refine rw_of (fun rr hrr => q_iconst hrr) ?_
              refine rw_blk lk_L_isAct_84 ?_
              refine rw_of (fun rr hrr => q_iadd (q_last (j := 0) hgr rfl (by omega) hrr)) ?_
              generalize hm21 : wI nn gg 0 ((((k : Nat) : Int) + 0)) = e22
              refine rw_of (fun rr hrr => q_aload_n rfl (q_iconst (q_iload rfl (q_iconst (q_iconst (q_iconst (q_iconst hrr))))))) ?_
              obtain ⟨_, mm23, pp23, K23, _, _, cc23, ss23, hV23, hK23, hKB23, hS23, rfl, hC23, rfl, rfl⟩ := e_systemF (X := X) (K := K) (sh := sh) (nn := e22) (d := d) (by omega) hC (n := two % 6) ⟨by omega, by omega⟩ (by omega)
              have hKB23 : K23 ≤ K + 1 := hKB23
              refine rw_of (fun rr hrr => q_invS hV23 rfl rfl (okar_cons rfl (okar_cons rfl (okar_cons rfl (okar_cons rfl (okar_cons rfl (okar_cons rfl (okar_cons rfl okar_nil))))))) (Nat.le_of_ble_eq_true rfl) (q_iload rfl hrr)) ?_
              refine rw_if_ne ⟨by omega, by omega⟩ (t := 108) rfl (fun hc24 => ?_) (fun hc24 => ?_)
              · skip
                refine rw_blk lk_L_isAct_108 ?_
                refine rw_of (fun rr hrr => q_iload rfl hrr) ?_
                refine rw_if_eq ⟨by omega, by omega⟩ (t := 121) rfl (fun hc25 => ?_) (fun hc25 => ?_)
                · skip
                  refine rw_blk lk_L_isAct_121 ?_
                  refine rw_of (fun rr hrr => q_sipush rfl hrr) ?_
                  refine rw_blk lk_L_isAct_124 ?_
                  refine rw_icmp_ne ⟨by omega, by omega⟩ ⟨by omega, by omega⟩ (t := 131) rfl (fun hc26 => ?_) (fun hc26 => ?_)
                  · exfalso; omega
                  · skip
                    refine rw_of (fun rr hrr => q_iconst (q_goto (t := 132) rfl hrr)) ?_
                    refine rw_blk lk_L_isAct_132 ?_
                    refine lw_end hQ (q_ireturn (by omega)) (by omega) (by omega) (FrS_tr (by omega) FrS_rfl hS23) ?_
                    exact ⟨rfl, k, cp, ci, N, by omega, (fun h => by omega), (hC23).1, ((show e22 gg 0 = (((k : Nat) : Int) + 0) from (kA hm21)).trans (by omega)), ((kB hm21 (by omega)).trans hg1), ((kB hm21 (by omega)).trans hg2), ⟨PP, fun i hi => (show e22 rp i = nn rp i from congrFun (kN hm21 (by omega)) _).trans (hpp i hi), fun i hi => (hpc i hi).trans (congrFun (hC23).P i).symm⟩, fun i hi => ((show e22 ur i = nn ur i from congrFun (kN hm21 (by omega)) _).trans (huu i hi)).trans (congrArg vF (congrFun (hC23).U i).symm)⟩
                · exact absurd hc25 (by decide)
              · exact absurd hc24 (by decide)
            · exact absurd hc20 (by decide)
          · skip
            refine rw_of (fun rr hrr => q_iconst (q_goto (t := 68) rfl hrr)) ?_
            refine rw_blk lk_L_isAct_68 ?_
            refine rw_of (fun rr hrr => q_istore (Nat.le_of_ble_eq_true rfl) rfl (q_aload_n rfl (q_iconst (q_dup2 rfl rfl (q_lald (j := 0) hgr rfl (by omega) hg0 (q_iload rfl hrr)))))) ?_
            refine rw_if_eq ⟨by omega, by omega⟩ (t := 83) rfl (fun hc27 => ?_) (fun hc27 => ?_)
            · exact absurd hc27 (by decide)
            · skip
              refine rw_of (fun rr hrr => q_iconst (q_goto (t := 84) rfl hrr)) ?_
              refine rw_blk lk_L_isAct_84 ?_
              refine rw_of (fun rr hrr => q_iadd (q_last (j := 0) hgr rfl (by omega) hrr)) ?_
              generalize hm28 : wI nn gg 0 ((((k : Nat) : Int) + 1)) = e29
              refine rw_of (fun rr hrr => q_aload_n rfl (q_iconst (q_iload rfl (q_iconst (q_iconst (q_iconst (q_iconst hrr))))))) ?_
              obtain ⟨_, mm30, pp30, K30, _, _, cc30, ss30, hV30, hK30, hKB30, hS30, rfl, ⟨hC30, hN30⟩, rfl, rfl⟩ := e_system (X := X) (K := K) (sh := sh) (nn := e29) (d := d) (by omega) hC (by omega) (n := two % 6) ⟨by omega, by omega⟩
              have hKB30 : K30 ≤ K + 1 := hKB30
              refine rw_of (fun rr hrr => q_invS hV30 rfl rfl (okar_cons rfl (okar_cons rfl (okar_cons rfl (okar_cons rfl (okar_cons rfl (okar_cons rfl (okar_cons rfl okar_nil))))))) (Nat.le_of_ble_eq_true rfl) (q_iload rfl hrr)) ?_
              refine rw_if_ne ⟨by omega, by omega⟩ (t := 108) rfl (fun hc31 => ?_) (fun hc31 => ?_)
              · skip
                refine rw_blk lk_L_isAct_108 ?_
                refine rw_of (fun rr hrr => q_iload rfl hrr) ?_
                refine rw_if_eq ⟨by omega, by omega⟩ (t := 121) rfl (fun hc32 => ?_) (fun hc32 => ?_)
                · exact absurd hc32 (by decide)
                · skip
                  refine rw_of (fun rr hrr => q_aload_n rfl (q_iconst (q_lald (j := 0) (Ro_call hK30 hS30 hgr) rfl (by omega) (kA hm28) (q_iconst (q_isub (q_goto (t := 124) rfl hrr)))))) ?_
                  refine rw_blk lk_L_isAct_124 ?_
                  refine rw_icmp_ne ⟨by omega, by omega⟩ ⟨by omega, by omega⟩ (t := 131) rfl (fun hc33 => ?_) (fun hc33 => ?_)
                  · exfalso; omega
                  · skip
                    refine rw_of (fun rr hrr => q_iconst (q_goto (t := 132) rfl hrr)) ?_
                    refine rw_blk lk_L_isAct_132 ?_
                    refine lw_end hQ (q_ireturn (by omega)) (by omega) (by omega) (FrS_tr (by omega) FrS_rfl hS30) ?_
                    exact ⟨rfl, k + 1, cp, ci, upN N k (two % 6), by omega, (fun h => by omega), (hC30).1, ((show e29 gg 0 = (((k : Nat) : Int) + 1) from (kA hm28)).trans (by omega)), ((kB hm28 (by omega)).trans hg1), ((kB hm28 (by omega)).trans hg2), ⟨PP, fun i hi => (show e29 rp i = nn rp i from congrFun (kN hm28 (by omega)) _).trans (hpp i hi), fun i hi => (hpc i hi).trans (congrFun ((hC30).P.trans hN30.P) i).symm⟩, fun i hi => ((show e29 ur i = nn ur i from congrFun (kN hm28 (by omega)) _).trans (huu i hi)).trans (congrArg vF (congrFun ((hC30).U.trans hN30.U) i).symm)⟩
              · exact absurd hc31 (by decide)
theorem c_L_isAct1 {d : Nat} {X : MC} {m : M1} {p : M2} {K : Nat} {sh : Nat → Nat} {nn : N2} (hd : 11 ≤ d) (hK : 260 ≤ K) (rp ur gg one two : Nat) (k cp ci : Nat) (N : Nat → Nat) (hC0 : CI k N cp ci m p) (hpr : Ro K sh rp 32) (hur : Ro K sh ur 20) (hgr : Ro K sh gg 3) (hrg : rp ≠ gg) (hug : ur ≠ gg) (hru : rp ≠ ur) (hLR : LR rp ur gg k cp ci m nn) (h1 : one < 60000) (h2 : two < 60000) (hk1 : 1 ≤ k) : Lc d k_L_isAct X [.ref (1), .ref (rp), .ref (ur), .ref (gg), .int (iI (1)), .int (iI (((one : Nat) : Int))), .int (iI (((two : Nat) : Int)))] m p K sh nn (fun v m' p' K' sh' n' => v = some (.int (iI 1)) ∧ ∃ k' cp' ci', ∃ N' : Nat → Nat, k ≤ k' ∧ CI k' N' cp' ci' m' p' ∧ LR rp ur gg k' cp' ci' m' n') := by
  obtain ⟨d, rfl⟩ : ∃ e, d = e + 1 := ⟨d - 1, by omega⟩
  have hpr8 := hpr.1; have hpr9 := hpr.2.1
  have hur8 := hur.1; have hur9 := hur.2.1
  have hgr8 := hgr.1; have hgr9 := hgr.2.1
  have hC := CS_rf hC0
  have hk12 := hC.k12
  have hcp16 := hC.p16
  have hci20 := hC.i20
  obtain ⟨hg0, hg1, hg2, ⟨PP, hpp, hpc⟩, huu⟩ := hLR
  obtain ⟨sy, hsy0⟩ : ∃ z, z = one % (k + 1) := ⟨_, rfl⟩
  obtain ⟨ot, hot0⟩ : ∃ z, z = two % (k + 1) := ⟨_, rfl⟩
  have hsy : sy ≤ k := by rw [hsy0]; exact Nat.le_of_lt_succ (Nat.mod_lt _ (Nat.succ_pos _))
  have hot : ot ≤ k := by rw [hot0]; exact Nat.le_of_lt_succ (Nat.mod_lt _ (Nat.succ_pos _))
  refine lc_go (lv := [some (.ref (1)), some (.ref (rp)), some (.ref (ur)), some (.ref (gg)), some (.int (iI (1))), some (.int (iI (((one : Nat) : Int)))), some (.int (iI (((two : Nat) : Int)))), none, none, none, none, none, none, none, none, none, none]) (B := 7) (Nat.le_of_ble_eq_true rfl) (okar_cons rfl (okar_cons rfl (okar_cons rfl (okar_cons rfl (okar_cons rfl (okar_cons rfl (okar_cons rfl okar_nil))))))) rfl rfl (fun Qr hQ => ?_)
  refine rw_blk lk_L_isAct_0 ?_
  refine rw_of (fun rr hrr => q_iload rfl (q_aload_n rfl (q_iconst (q_lald (j := 0) hgr rfl (by omega) hg0 (q_iconst (q_iadd (q_irem ⟨by omega, by omega⟩ ⟨by omega, by omega⟩ (by omega) (show (((one : Nat) : Int)).tmod ((((k : Nat) : Int) + 1)) = ((sy : Nat) : Int) from by rw [hsy0]; rfl) (q_istore (Nat.le_of_ble_eq_true rfl) rfl (q_iload rfl (q_aload_n rfl (q_iconst (q_lald (j := 0) hgr rfl (by omega) hg0 (q_iconst (q_iadd (q_irem ⟨by omega, by omega⟩ ⟨by omega, by omega⟩ (by omega) (show (((two : Nat) : Int)).tmod ((((k : Nat) : Int) + 1)) = ((ot : Nat) : Int) from by rw [hot0]; rfl) (q_istore (Nat.le_of_ble_eq_true rfl) rfl (q_iload rfl hrr))))))))))))))))) ?_
  refine rw_if_ne ⟨by omega, by omega⟩ (t := 133) rfl (fun hc1 => ?_) (fun hc1 => ?_)
  · skip
    refine rw_blk lk_L_isAct_133 ?_
    refine rw_of (fun rr hrr => q_iload rfl (q_iconst hrr)) ?_
    refine rw_icmp_ge ⟨by omega, by omega⟩ ⟨by omega, by omega⟩ (t := 312) rfl (fun hc2 => ?_) (fun hc2 => ?_)
    · exact absurd hc2 (by decide)
    · skip
      refine rw_of (fun rr hrr => q_aload_n rfl (q_iconst (q_lald (j := 0) hgr rfl (by omega) hg0 hrr))) ?_
      refine rw_if_le ⟨by omega, by omega⟩ (t := 312) rfl (fun hc3 => ?_) (fun hc3 => ?_)
      · exfalso; omega
      · skip
        refine rw_of (fun rr hrr => q_iload rfl (q_aload_n rfl (q_iconst (q_lald (j := 0) hgr rfl (by omega) hg0 hrr)))) ?_
        refine rw_icmp_ge ⟨by omega, by omega⟩ ⟨by omega, by omega⟩ (t := 165) rfl (fun hc4 => ?_) (fun hc4 => ?_)
        · skip
          refine rw_blk lk_L_isAct_165 ?_
          refine rw_of (fun rr hrr => q_iconst hrr) ?_
          refine rw_blk lk_L_isAct_166 ?_
          refine rw_of (fun rr hrr => q_istore (Nat.le_of_ble_eq_true rfl) rfl (q_iload rfl hrr)) ?_
          refine rw_if_eq ⟨by omega, by omega⟩ (t := 189) rfl (fun hc5 => ?_) (fun hc5 => ?_)
          · skip
            refine rw_blk lk_L_isAct_189 ?_
            refine rw_of (fun rr hrr => q_iconst hrr) ?_
            refine rw_blk lk_L_isAct_190 ?_
            refine rw_of (fun rr hrr => q_istore (Nat.le_of_ble_eq_true rfl) rfl (q_iload rfl hrr)) ?_
            refine rw_if_eq ⟨by omega, by omega⟩ (t := 216) rfl (fun hc6 => ?_) (fun hc6 => ?_)
            · skip
              refine rw_blk lk_L_isAct_216 ?_
              refine rw_of (fun rr hrr => q_iconst hrr) ?_
              refine rw_blk lk_L_isAct_217 ?_
              refine rw_of (fun rr hrr => q_istore (Nat.le_of_ble_eq_true rfl) rfl (q_aload_n rfl (q_iconst (q_dup2 rfl rfl (q_lald (j := 0) hgr rfl (by omega) hg0 (q_iload rfl hrr)))))) ?_
              refine rw_if_eq ⟨by omega, by omega⟩ (t := 232) rfl (fun hc7 => ?_) (fun hc7 => ?_)
              · skip
                refine rw_blk lk_L_isAct_232 ?_
                refine rw_of (fun rr hrr => q_iconst hrr) ?_
                refine rw_blk lk_L_isAct_233 ?_
                refine rw_of (fun rr hrr => q_iadd (q_last (j := 0) hgr rfl (by omega) hrr)) ?_
                generalize hm8 : wI nn gg 0 ((((k : Nat) : Int) + 0)) = e9
                refine rw_of (fun rr hrr => q_aload_n rfl (q_iconst (q_iload rfl (q_iload rfl (q_iload rfl (q_iconst (q_isub (q_eqv (show ((1 - 1) : Int) = 0 from by decide) (q_iconst (q_iconst hrr)))))))))) ?_
                obtain ⟨_, mm10, pp10, K10, _, _, cc10, ss10, hV10, hK10, hKB10, hS10, rfl, hC10, rfl, rfl⟩ := e_joinP (c := 0) (Or.inl rfl) (X := X) (K := K) (sh := sh) (nn := e9) (d := d) (by omega) hC (a := sy) (b := ot) (by omega) (by omega) (by omega)
                have hKB10 : K10 ≤ K + 1 := hKB10
                refine rw_of (fun rr hrr => q_invS hV10 rfl rfl (okar_cons rfl (okar_cons rfl (okar_cons rfl (okar_cons rfl (okar_cons rfl (okar_cons rfl (okar_cons rfl okar_nil))))))) (Nat.le_of_ble_eq_true rfl) (q_iload rfl hrr)) ?_
                refine rw_if_ne ⟨by omega, by omega⟩ (t := 261) rfl (fun hc11 => ?_) (fun hc11 => ?_)
                · exact absurd hc11 (by decide)
                · skip
                  refine rw_of (fun rr hrr => q_sipush rfl (q_goto (t := 277) rfl hrr)) ?_
                  refine rw_blk lk_L_isAct_277 ?_
                  refine rw_icmp_ne ⟨by omega, by omega⟩ ⟨by omega, by omega⟩ (t := 310) rfl (fun hc12 => ?_) (fun hc12 => ?_)
                  · exfalso; omega
                  · skip
                    refine rw_of (fun rr hrr => q_iload rfl hrr) ?_
                    refine rw_if_eq ⟨by omega, by omega⟩ (t := 306) rfl (fun hc13 => ?_) (fun hc13 => ?_)
                    · skip
                      refine rw_blk lk_L_isAct_306 ?_
                      refine rw_of (fun rr hrr => q_iconst (q_goto (t := 311) rfl hrr)) ?_
                      refine rw_blk lk_L_isAct_311 ?_
                      refine lw_end hQ (q_ireturn (by omega)) (by omega) (by omega) (FrS_tr (by omega) FrS_rfl hS10) ?_
                      exact ⟨rfl, k, cp, ci, N, by omega, (hC10).1, ((show e9 gg 0 = (((k : Nat) : Int) + 0) from (kA hm8)).trans (by omega)), ((kB hm8 (by omega)).trans hg1), ((kB hm8 (by omega)).trans hg2), ⟨PP, fun i hi => (show e9 rp i = nn rp i from congrFun (kN hm8 (by omega)) _).trans (hpp i hi), fun i hi => (hpc i hi).trans (congrFun (hC10).P i).symm⟩, fun i hi => ((show e9 ur i = nn ur i from congrFun (kN hm8 (by omega)) _).trans (huu i hi)).trans (congrArg vF (congrFun (hC10).U i).symm)⟩
                    · exact absurd hc13 (by decide)
              · exact absurd hc7 (by decide)
            · exact absurd hc6 (by decide)
          · exact absurd hc5 (by decide)
        · skip
          refine rw_of (fun rr hrr => q_iload rfl (q_aload_n rfl (q_iconst (q_lald (j := 0) hgr rfl (by omega) hg0 hrr)))) ?_
          refine rw_icmp_ge ⟨by omega, by omega⟩ ⟨by omega, by omega⟩ (t := 165) rfl (fun hc14 => ?_) (fun hc14 => ?_)
          · skip
            refine rw_blk lk_L_isAct_165 ?_
            refine rw_of (fun rr hrr => q_iconst hrr) ?_
            refine rw_blk lk_L_isAct_166 ?_
            refine rw_of (fun rr hrr => q_istore (Nat.le_of_ble_eq_true rfl) rfl (q_iload rfl hrr)) ?_
            refine rw_if_eq ⟨by omega, by omega⟩ (t := 189) rfl (fun hc15 => ?_) (fun hc15 => ?_)
            · skip
              refine rw_blk lk_L_isAct_189 ?_
              refine rw_of (fun rr hrr => q_iconst hrr) ?_
              refine rw_blk lk_L_isAct_190 ?_
              refine rw_of (fun rr hrr => q_istore (Nat.le_of_ble_eq_true rfl) rfl (q_iload rfl hrr)) ?_
              refine rw_if_eq ⟨by omega, by omega⟩ (t := 216) rfl (fun hc16 => ?_) (fun hc16 => ?_)
              · skip
                refine rw_blk lk_L_isAct_216 ?_
                refine rw_of (fun rr hrr => q_iconst hrr) ?_
                refine rw_blk lk_L_isAct_217 ?_
                refine rw_of (fun rr hrr => q_istore (Nat.le_of_ble_eq_true rfl) rfl (q_aload_n rfl (q_iconst (q_dup2 rfl rfl (q_lald (j := 0) hgr rfl (by omega) hg0 (q_iload rfl hrr)))))) ?_
                refine rw_if_eq ⟨by omega, by omega⟩ (t := 232) rfl (fun hc17 => ?_) (fun hc17 => ?_)
                · skip
                  refine rw_blk lk_L_isAct_232 ?_
                  refine rw_of (fun rr hrr => q_iconst hrr) ?_
                  refine rw_blk lk_L_isAct_233 ?_
                  refine rw_of (fun rr hrr => q_iadd (q_last (j := 0) hgr rfl (by omega) hrr)) ?_
                  generalize hm18 : wI nn gg 0 ((((k : Nat) : Int) + 0)) = e19
                  refine rw_of (fun rr hrr => q_aload_n rfl (q_iconst (q_iload rfl (q_iload rfl (q_iload rfl (q_iconst (q_isub (q_eqv (show ((1 - 1) : Int) = 0 from by decide) (q_iconst (q_iconst hrr)))))))))) ?_
                  obtain ⟨_, mm20, pp20, K20, _, _, cc20, ss20, hV20, hK20, hKB20, hS20, rfl, hC20, rfl, rfl⟩ := e_joinP (c := 0) (Or.inl rfl) (X := X) (K := K) (sh := sh) (nn := e19) (d := d) (by omega) hC (a := sy) (b := ot) (by omega) (by omega) (by omega)
                  have hKB20 : K20 ≤ K + 1 := hKB20
                  refine rw_of (fun rr hrr => q_invS hV20 rfl rfl (okar_cons rfl (okar_cons rfl (okar_cons rfl (okar_cons rfl (okar_cons rfl (okar_cons rfl (okar_cons rfl okar_nil))))))) (Nat.le_of_ble_eq_true rfl) (q_iload rfl hrr)) ?_
                  refine rw_if_ne ⟨by omega, by omega⟩ (t := 261) rfl (fun hc21 => ?_) (fun hc21 => ?_)
                  · exact absurd hc21 (by decide)
                  · skip
                    refine rw_of (fun rr hrr => q_sipush rfl (q_goto (t := 277) rfl hrr)) ?_
                    refine rw_blk lk_L_isAct_277 ?_
                    refine rw_icmp_ne ⟨by omega, by omega⟩ ⟨by omega, by omega⟩ (t := 310) rfl (fun hc22 => ?_) (fun hc22 => ?_)
                    · exfalso; omega
                    · skip
                      refine rw_of (fun rr hrr => q_iload rfl hrr) ?_
                      refine rw_if_eq ⟨by omega, by omega⟩ (t := 306) rfl (fun hc23 => ?_) (fun hc23 => ?_)
                      · skip
                        refine rw_blk lk_L_isAct_306 ?_
                        refine rw_of (fun rr hrr => q_iconst (q_goto (t := 311) rfl hrr)) ?_
                        refine rw_blk lk_L_isAct_311 ?_
                        refine lw_end hQ (q_ireturn (by omega)) (by omega) (by omega) (FrS_tr (by omega) FrS_rfl hS20) ?_
                        exact ⟨rfl, k, cp, ci, N, by omega, (hC20).1, ((show e19 gg 0 = (((k : Nat) : Int) + 0) from (kA hm18)).trans (by omega)), ((kB hm18 (by omega)).trans hg1), ((kB hm18 (by omega)).trans hg2), ⟨PP, fun i hi => (show e19 rp i = nn rp i from congrFun (kN hm18 (by omega)) _).trans (hpp i hi), fun i hi => (hpc i hi).trans (congrFun (hC20).P i).symm⟩, fun i hi => ((show e19 ur i = nn ur i from congrFun (kN hm18 (by omega)) _).trans (huu i hi)).trans (congrArg vF (congrFun (hC20).U i).symm)⟩
                      · exact absurd hc23 (by decide)
                · exact absurd hc17 (by decide)
              · exact absurd hc16 (by decide)
            · exact absurd hc15 (by decide)
          · skip
            refine rw_of (fun rr hrr => q_iconst (q_goto (t := 166) rfl hrr)) ?_
            refine rw_blk lk_L_isAct_166 ?_
            refine rw_of (fun rr hrr => q_istore (Nat.le_of_ble_eq_true rfl) rfl (q_iload rfl hrr)) ?_
            refine rw_if_eq ⟨by omega, by omega⟩ (t := 189) rfl (fun hc24 => ?_) (fun hc24 => ?_)
            · exact absurd hc24 (by decide)
            · skip
              refine rw_of (fun rr hrr => q_aload_n rfl (q_iload rfl hrr)) ?_
              obtain ⟨_, mm25, pp25, hV25, rfl, hC25⟩ := w_order (S := (K, gB X sh nn)) (d := d) (by omega) hC (s := sy) (by omega)
              refine rw_of (fun rr hrr => q_invV hV25 (show SH 1 = (17, 0) from rfl) rfl rfl (okar_cons rfl okar_nil) (Nat.le_of_ble_eq_true rfl) (q_aload_n rfl (q_iload rfl hrr))) ?_
              obtain ⟨_, mm26, pp26, hV26, rfl, hC26⟩ := w_order (S := (K, gB X sh nn)) (d := d) (by omega) hC25 (s := ot) (by omega)
              refine rw_of (fun rr hrr => q_invV hV26 (show SH 1 = (17, 0) from rfl) rfl rfl (okar_cons rfl okar_nil) (Nat.le_of_ble_eq_true rfl) (q_iadd (q_goto (t := 190) rfl hrr))) ?_
              refine rw_blk lk_L_isAct_190 ?_
              refine rw_of (fun rr hrr => q_istore (Nat.le_of_ble_eq_true rfl) rfl (q_iload rfl hrr)) ?_
              refine rw_if_eq ⟨by omega, by omega⟩ (t := 216) rfl (fun hc27 => ?_) (fun hc27 => ?_)
              · exact absurd hc27 (by decide)
              · skip
                refine rw_of (fun rr hrr => q_iload rfl (q_bipush rfl hrr)) ?_
                have hN1 := hC.N8 (s := sy) (by omega)
                have hN2 := hC.N8 (s := ot) (by omega)
                refine rw_icmp_ge ⟨by omega, by omega⟩ ⟨by omega, by omega⟩ (t := 216) rfl (fun hc28 => ?_) (fun hc28 => ?_)
                · skip
                  refine rw_blk lk_L_isAct_216 ?_
                  refine rw_of (fun rr hrr => q_iconst hrr) ?_
                  refine rw_blk lk_L_isAct_217 ?_
                  refine rw_of (fun rr hrr => q_istore (Nat.le_of_ble_eq_true rfl) rfl (q_aload_n rfl (q_iconst (q_dup2 rfl rfl (q_lald (j := 0) hgr rfl (by omega) hg0 (q_iload rfl hrr)))))) ?_
                  refine rw_if_eq ⟨by omega, by omega⟩ (t := 232) rfl (fun hc29 => ?_) (fun hc29 => ?_)
                  · skip
                    refine rw_blk lk_L_isAct_232 ?_
                    refine rw_of (fun rr hrr => q_iconst hrr) ?_
                    refine rw_blk lk_L_isAct_233 ?_
                    refine rw_of (fun rr hrr => q_iadd (q_last (j := 0) hgr rfl (by omega) hrr)) ?_
                    generalize hm30 : wI nn gg 0 ((((k : Nat) : Int) + 0)) = e31
                    refine rw_of (fun rr hrr => q_aload_n rfl (q_iconst (q_iload rfl (q_iload rfl (q_iload rfl (q_iconst (q_isub (q_eqv (show ((1 - 1) : Int) = 0 from by decide) (q_iconst (q_iconst hrr)))))))))) ?_
                    obtain ⟨_, mm32, pp32, K32, _, _, cc32, ss32, hV32, hK32, hKB32, hS32, rfl, hC32, rfl, rfl⟩ := e_joinN (c := 0) (Or.inl rfl) (X := X) (K := K) (sh := sh) (nn := e31) (d := d) (by omega) hC26 (a := sy) (b := ot) (by omega) (by omega) (by omega)
                    have hKB32 : K32 ≤ K + 1 := hKB32
                    refine rw_of (fun rr hrr => q_invS hV32 rfl rfl (okar_cons rfl (okar_cons rfl (okar_cons rfl (okar_cons rfl (okar_cons rfl (okar_cons rfl (okar_cons rfl okar_nil))))))) (Nat.le_of_ble_eq_true rfl) (q_iload rfl hrr)) ?_
                    refine rw_if_ne ⟨by omega, by omega⟩ (t := 261) rfl (fun hc33 => ?_) (fun hc33 => ?_)
                    · skip
                      refine rw_blk lk_L_isAct_261 ?_
                      refine rw_of (fun rr hrr => q_iload rfl hrr) ?_
                      refine rw_if_eq ⟨by omega, by omega⟩ (t := 274) rfl (fun hc34 => ?_) (fun hc34 => ?_)
                      · skip
                        refine rw_blk lk_L_isAct_274 ?_
                        refine rw_of (fun rr hrr => q_sipush rfl hrr) ?_
                        refine rw_blk lk_L_isAct_277 ?_
                        refine rw_icmp_ne ⟨by omega, by omega⟩ ⟨by omega, by omega⟩ (t := 310) rfl (fun hc35 => ?_) (fun hc35 => ?_)
                        · exfalso; omega
                        · skip
                          refine rw_of (fun rr hrr => q_iload rfl hrr) ?_
                          refine rw_if_eq ⟨by omega, by omega⟩ (t := 306) rfl (fun hc36 => ?_) (fun hc36 => ?_)
                          · skip
                            refine rw_blk lk_L_isAct_306 ?_
                            refine rw_of (fun rr hrr => q_iconst (q_goto (t := 311) rfl hrr)) ?_
                            refine rw_blk lk_L_isAct_311 ?_
                            refine lw_end hQ (q_ireturn (by omega)) (by omega) (by omega) (FrS_tr (by omega) FrS_rfl hS32) ?_
                            exact ⟨rfl, k, cp, ci, N, by omega, (hC32).1, ((show e31 gg 0 = (((k : Nat) : Int) + 0) from (kA hm30)).trans (by omega)), ((kB hm30 (by omega)).trans hg1), ((kB hm30 (by omega)).trans hg2), ⟨PP, fun i hi => (show e31 rp i = nn rp i from congrFun (kN hm30 (by omega)) _).trans (hpp i hi), fun i hi => (hpc i hi).trans (congrFun (hC32).P i).symm⟩, fun i hi => ((show e31 ur i = nn ur i from congrFun (kN hm30 (by omega)) _).trans (huu i hi)).trans (congrArg vF (congrFun (hC32).U i).symm)⟩
                          · exact absurd hc36 (by decide)
                      · exact absurd hc34 (by decide)
                    · exact absurd hc33 (by decide)
                  · exact absurd hc29 (by decide)
                · skip
                  refine rw_of (fun rr hrr => q_aload_n rfl (q_iconst (q_lald (j := 0) hgr rfl (by omega) hg0 (q_bipush rfl hrr)))) ?_
                  refine rw_icmp_ge ⟨by omega, by omega⟩ ⟨by omega, by omega⟩ (t := 216) rfl (fun hc37 => ?_) (fun hc37 => ?_)
                  · skip
                    refine rw_blk lk_L_isAct_216 ?_
                    refine rw_of (fun rr hrr => q_iconst hrr) ?_
                    refine rw_blk lk_L_isAct_217 ?_
                    refine rw_of (fun rr hrr => q_istore (Nat.le_of_ble_eq_true rfl) rfl (q_aload_n rfl (q_iconst (q_dup2 rfl rfl (q_lald (j := 0) hgr rfl (by omega) hg0 (q_iload rfl hrr)))))) ?_
                    refine rw_if_eq ⟨by omega, by omega⟩ (t := 232) rfl (fun hc38 => ?_) (fun hc38 => ?_)
                    · skip
                      refine rw_blk lk_L_isAct_232 ?_
                      refine rw_of (fun rr hrr => q_iconst hrr) ?_
                      refine rw_blk lk_L_isAct_233 ?_
                      refine rw_of (fun rr hrr => q_iadd (q_last (j := 0) hgr rfl (by omega) hrr)) ?_
                      generalize hm39 : wI nn gg 0 ((((k : Nat) : Int) + 0)) = e40
                      refine rw_of (fun rr hrr => q_aload_n rfl (q_iconst (q_iload rfl (q_iload rfl (q_iload rfl (q_iconst (q_isub (q_eqv (show ((1 - 1) : Int) = 0 from by decide) (q_iconst (q_iconst hrr)))))))))) ?_
                      obtain ⟨_, mm41, pp41, K41, _, _, cc41, ss41, hV41, hK41, hKB41, hS41, rfl, hC41, rfl, rfl⟩ := e_joinN (c := 0) (Or.inl rfl) (X := X) (K := K) (sh := sh) (nn := e40) (d := d) (by omega) hC26 (a := sy) (b := ot) (by omega) (by omega) (by omega)
                      have hKB41 : K41 ≤ K + 1 := hKB41
                      refine rw_of (fun rr hrr => q_invS hV41 rfl rfl (okar_cons rfl (okar_cons rfl (okar_cons rfl (okar_cons rfl (okar_cons rfl (okar_cons rfl (okar_cons rfl okar_nil))))))) (Nat.le_of_ble_eq_true rfl) (q_iload rfl hrr)) ?_
                      refine rw_if_ne ⟨by omega, by omega⟩ (t := 261) rfl (fun hc42 => ?_) (fun hc42 => ?_)
                      · skip
                        refine rw_blk lk_L_isAct_261 ?_
                        refine rw_of (fun rr hrr => q_iload rfl hrr) ?_
                        refine rw_if_eq ⟨by omega, by omega⟩ (t := 274) rfl (fun hc43 => ?_) (fun hc43 => ?_)
                        · skip
                          refine rw_blk lk_L_isAct_274 ?_
                          refine rw_of (fun rr hrr => q_sipush rfl hrr) ?_
                          refine rw_blk lk_L_isAct_277 ?_
                          refine rw_icmp_ne ⟨by omega, by omega⟩ ⟨by omega, by omega⟩ (t := 310) rfl (fun hc44 => ?_) (fun hc44 => ?_)
                          · exfalso; omega
                          · skip
                            refine rw_of (fun rr hrr => q_iload rfl hrr) ?_
                            refine rw_if_eq ⟨by omega, by omega⟩ (t := 306) rfl (fun hc45 => ?_) (fun hc45 => ?_)
                            · skip
                              refine rw_blk lk_L_isAct_306 ?_
                              refine rw_of (fun rr hrr => q_iconst (q_goto (t := 311) rfl hrr)) ?_
                              refine rw_blk lk_L_isAct_311 ?_
                              refine lw_end hQ (q_ireturn (by omega)) (by omega) (by omega) (FrS_tr (by omega) FrS_rfl hS41) ?_
                              exact ⟨rfl, k, cp, ci, N, by omega, (hC41).1, ((show e40 gg 0 = (((k : Nat) : Int) + 0) from (kA hm39)).trans (by omega)), ((kB hm39 (by omega)).trans hg1), ((kB hm39 (by omega)).trans hg2), ⟨PP, fun i hi => (show e40 rp i = nn rp i from congrFun (kN hm39 (by omega)) _).trans (hpp i hi), fun i hi => (hpc i hi).trans (congrFun (hC41).P i).symm⟩, fun i hi => ((show e40 ur i = nn ur i from congrFun (kN hm39 (by omega)) _).trans (huu i hi)).trans (congrArg vF (congrFun (hC41).U i).symm)⟩
                            · exact absurd hc45 (by decide)
                        · exact absurd hc43 (by decide)
                      · exact absurd hc42 (by decide)
                    · exact absurd hc38 (by decide)
                  · skip
                    refine rw_of (fun rr hrr => q_iconst (q_goto (t := 217) rfl hrr)) ?_
                    refine rw_blk lk_L_isAct_217 ?_
                    refine rw_of (fun rr hrr => q_istore (Nat.le_of_ble_eq_true rfl) rfl (q_aload_n rfl (q_iconst (q_dup2 rfl rfl (q_lald (j := 0) hgr rfl (by omega) hg0 (q_iload rfl hrr)))))) ?_
                    refine rw_if_eq ⟨by omega, by omega⟩ (t := 232) rfl (fun hc46 => ?_) (fun hc46 => ?_)
                    · exact absurd hc46 (by decide)
                    · skip
                      refine rw_of (fun rr hrr => q_iconst (q_goto (t := 233) rfl hrr)) ?_
                      refine rw_blk lk_L_isAct_233 ?_
                      refine rw_of (fun rr hrr => q_iadd (q_last (j := 0) hgr rfl (by omega) hrr)) ?_
                      generalize hm47 : wI nn gg 0 ((((k : Nat) : Int) + 1)) = e48
                      refine rw_of (fun rr hrr => q_aload_n rfl (q_iconst (q_iload rfl (q_iload rfl (q_iload rfl (q_iconst (q_isub (q_eqv (show ((1 - 1) : Int) = 0 from by decide) (q_iconst (q_iconst hrr)))))))))) ?_
                      obtain ⟨_, mm49, pp49, K49, _, _, cc49, ss49, hV49, hK49, hKB49, hS49, rfl, ⟨⟨hC49, hN49⟩, q149, q249, q349, q449, q549⟩, rfl, rfl⟩ := e_join0 (X := X) (K := K) (sh := sh) (nn := e48) (d := d) (by omega) hC26 (a := sy) (b := ot) (by omega) (by omega) (by omega) (by omega)
                      have hKB49 : K49 ≤ K + 1 := hKB49
                      refine rw_of (fun rr hrr => q_invS hV49 rfl rfl (okar_cons rfl (okar_cons rfl (okar_cons rfl (okar_cons rfl (okar_cons rfl (okar_cons rfl (okar_cons rfl okar_nil))))))) (Nat.le_of_ble_eq_true rfl) (q_iload rfl hrr)) ?_
                      refine rw_if_ne ⟨by omega, by omega⟩ (t := 261) rfl (fun hc50 => ?_) (fun hc50 => ?_)
                      · skip
                        refine rw_blk lk_L_isAct_261 ?_
                        refine rw_of (fun rr hrr => q_iload rfl hrr) ?_
                        refine rw_if_eq ⟨by omega, by omega⟩ (t := 274) rfl (fun hc51 => ?_) (fun hc51 => ?_)
                        · exact absurd hc51 (by decide)
                        · skip
                          refine rw_of (fun rr hrr => q_aload_n rfl (q_iconst (q_lald (j := 0) (Ro_call hK49 hS49 hgr) rfl (by omega) (kA hm47) (q_iconst (q_isub (q_goto (t := 277) rfl hrr)))))) ?_
                          refine rw_blk lk_L_isAct_277 ?_
                          refine rw_icmp_ne ⟨by omega, by omega⟩ ⟨by omega, by omega⟩ (t := 310) rfl (fun hc52 => ?_) (fun hc52 => ?_)
                          · exfalso; omega
                          · skip
                            refine rw_of (fun rr hrr => q_iload rfl hrr) ?_
                            refine rw_if_eq ⟨by omega, by omega⟩ (t := 306) rfl (fun hc53 => ?_) (fun hc53 => ?_)
                            · exact absurd hc53 (by decide)
                            · skip
                              refine rw_of (fun rr hrr => q_aload_n rfl (q_aload_n rfl (q_iconst (q_lald (j := 0) (Ro_call hK49 hS49 hgr) rfl (by omega) (kA hm47) (q_iconst (q_isub (q_eqv (show (((((k : Nat) : Int) + 1) - 1) : Int) = ((k : Nat) : Int) from by omega) (q_iload rfl (q_iload rfl (q_iload rfl (q_iconst (q_isub (q_eqv (show ((1 - 1) : Int) = 0 from by decide) (q_iconst hrr)))))))))))))) ?_
                              obtain ⟨_, mm54, pp54, K54, sh54, e54, cc54, ss54, hV54, hK54, hKB54, hS54, rfl, hC54, hF54⟩ := c_L_isMade0 (X := X) (m := mm49) (p := pp49) (K := K49) (sh := sh) (nn := e48) (d := d) (by omega) (by omega) k sy ot 0 (k + 1) cp ci (upN N k (N sy + N ot)) hC49 (Nat.lt_succ_self k) (by omega) (by omega) q149 q249 q349 q449 q549
                              have hKB54 : K54 ≤ K49 + 6 := hKB54
                              refine rw_of (fun rr hrr => q_invS hV54 rfl rfl (okar_cons rfl (okar_cons rfl (okar_cons rfl (okar_cons rfl (okar_cons rfl (okar_cons rfl okar_nil)))))) (Nat.le_of_ble_eq_true rfl) hrr) ?_
                              refine rw_if_eq ⟨by omega, by omega⟩ (t := 310) rfl (fun hc55 => ?_) (fun hc55 => ?_)
                              · exact absurd hc55 (by decide)
                              · skip
                                refine rw_blk lk_L_isAct_306 ?_
                                refine rw_of (fun rr hrr => q_iconst (q_goto (t := 311) rfl hrr)) ?_
                                refine rw_blk lk_L_isAct_311 ?_
                                refine lw_end hQ (q_ireturn (by omega)) (by omega) (by omega) (FrS_tr (by omega) (FrS_tr (by omega) FrS_rfl hS49) hS54) ?_
                                exact ⟨rfl, k + 1, cp, ci, upN N k (N sy + N ot), by omega, (hC54).1, ((show e54 gg 0 = (((k : Nat) : Int) + 1) from ((congrFun (hF54 gg (by show ¬ (K49 < gg); omega)) _).trans (kA hm47))).trans (by omega)), (((congrFun (hF54 gg (by show ¬ (K49 < gg); omega)) _).trans (kB hm47 (by omega))).trans hg1), (((congrFun (hF54 gg (by show ¬ (K49 < gg); omega)) _).trans (kB hm47 (by omega))).trans hg2), ⟨PP, fun i hi => (show e54 rp i = nn rp i from congrFun ((hF54 rp (by show ¬ (K49 < rp); omega)).trans (kN hm47 (by omega))) _).trans (hpp i hi), fun i hi => (hpc i hi).trans (congrFun ((hC54).P.trans hN49.P) i).symm⟩, fun i hi => ((show e54 ur i = nn ur i from congrFun ((hF54 ur (by show ¬ (K49 < ur); omega)).trans (kN hm47 (by omega))) _).trans (huu i hi)).trans (congrArg vF (congrFun ((hC54).U.trans hN49.U) i).symm)⟩
                      · exact absurd hc50 (by decide)
  · exact absurd hc1 (by decide)
theorem c_L_isAct2 {d : Nat} {X : MC} {m : M1} {p : M2} {K : Nat} {sh : Nat → Nat} {nn : N2} (hd : 11 ≤ d) (hK : 260 ≤ K) (rp ur gg one two : Nat) (k cp ci : Nat) (N : Nat → Nat) (hC0 : CI k N cp ci m p) (hpr : Ro K sh rp 32) (hur : Ro K sh ur 20) (hgr : Ro K sh gg 3) (hrg : rp ≠ gg) (hug : ur ≠ gg) (hru : rp ≠ ur) (hLR : LR rp ur gg k cp ci m nn) (h1 : one < 60000) (h2 : two < 60000) (hk1 : 1 ≤ k) : Lc d k_L_isAct X [.ref (1), .ref (rp), .ref (ur), .ref (gg), .int (iI (2)), .int (iI (((one : Nat) : Int))), .int (iI (((two : Nat) : Int)))] m p K sh nn (fun v m' p' K' sh' n' => v = some (.int (iI 1)) ∧ ∃ k' cp' ci', ∃ N' : Nat → Nat, k ≤ k' ∧ CI k' N' cp' ci' m' p' ∧ LR rp ur gg k' cp' ci' m' n') := by
  obtain ⟨d, rfl⟩ : ∃ e, d = e + 1 := ⟨d - 1, by omega⟩
  have hpr8 := hpr.1; have hpr9 := hpr.2.1
  have hur8 := hur.1; have hur9 := hur.2.1
  have hgr8 := hgr.1; have hgr9 := hgr.2.1
  have hC := CS_rf hC0
  have hk12 := hC.k12
  have hcp16 := hC.p16
  have hci20 := hC.i20
  obtain ⟨hg0, hg1, hg2, ⟨PP, hpp, hpc⟩, huu⟩ := hLR
  obtain ⟨sy, hsy0⟩ : ∃ z, z = one % (k + 1) := ⟨_, rfl⟩
  obtain ⟨ot, hot0⟩ : ∃ z, z = two % (k + 1) := ⟨_, rfl⟩
  have hsy : sy ≤ k := by rw [hsy0]; exact Nat.le_of_lt_succ (Nat.mod_lt _ (Nat.succ_pos _))
  have hot : ot ≤ k := by rw [hot0]; exact Nat.le_of_lt_succ (Nat.mod_lt _ (Nat.succ_pos _))
  refine lc_go (lv := [some (.ref (1)), some (.ref (rp)), some (.ref (ur)), some (.ref (gg)), some (.int (iI (2))), some (.int (iI (((one : Nat) : Int)))), some (.int (iI (((two : Nat) : Int)))), none, none, none, none, none, none, none, none, none, none]) (B := 7) (Nat.le_of_ble_eq_true rfl) (okar_cons rfl (okar_cons rfl (okar_cons rfl (okar_cons rfl (okar_cons rfl (okar_cons rfl (okar_cons rfl okar_nil))))))) rfl rfl (fun Qr hQ => ?_)
  refine rw_blk lk_L_isAct_0 ?_
  refine rw_of (fun rr hrr => q_iload rfl (q_aload_n rfl (q_iconst (q_lald (j := 0) hgr rfl (by omega) hg0 (q_iconst (q_iadd (q_irem ⟨by omega, by omega⟩ ⟨by omega, by omega⟩ (by omega) (show (((one : Nat) : Int)).tmod ((((k : Nat) : Int) + 1)) = ((sy : Nat) : Int) from by rw [hsy0]; rfl) (q_istore (Nat.le_of_ble_eq_true rfl) rfl (q_iload rfl (q_aload_n rfl (q_iconst (q_lald (j := 0) hgr rfl (by omega) hg0 (q_iconst (q_iadd (q_irem ⟨by omega, by omega⟩ ⟨by omega, by omega⟩ (by omega) (show (((two : Nat) : Int)).tmod ((((k : Nat) : Int) + 1)) = ((ot : Nat) : Int) from by rw [hot0]; rfl) (q_istore (Nat.le_of_ble_eq_true rfl) rfl (q_iload rfl hrr))))))))))))))))) ?_
  refine rw_if_ne ⟨by omega, by omega⟩ (t := 133) rfl (fun hc1 => ?_) (fun hc1 => ?_)
  · skip
    refine rw_blk lk_L_isAct_133 ?_
    refine rw_of (fun rr hrr => q_iload rfl (q_iconst hrr)) ?_
    refine rw_icmp_ge ⟨by omega, by omega⟩ ⟨by omega, by omega⟩ (t := 312) rfl (fun hc2 => ?_) (fun hc2 => ?_)
    · exact absurd hc2 (by decide)
    · skip
      refine rw_of (fun rr hrr => q_aload_n rfl (q_iconst (q_lald (j := 0) hgr rfl (by omega) hg0 hrr))) ?_
      refine rw_if_le ⟨by omega, by omega⟩ (t := 312) rfl (fun hc3 => ?_) (fun hc3 => ?_)
      · exfalso; omega
      · skip
        refine rw_of (fun rr hrr => q_iload rfl (q_aload_n rfl (q_iconst (q_lald (j := 0) hgr rfl (by omega) hg0 hrr)))) ?_
        refine rw_icmp_ge ⟨by omega, by omega⟩ ⟨by omega, by omega⟩ (t := 165) rfl (fun hc4 => ?_) (fun hc4 => ?_)
        · skip
          refine rw_blk lk_L_isAct_165 ?_
          refine rw_of (fun rr hrr => q_iconst hrr) ?_
          refine rw_blk lk_L_isAct_166 ?_
          refine rw_of (fun rr hrr => q_istore (Nat.le_of_ble_eq_true rfl) rfl (q_iload rfl hrr)) ?_
          refine rw_if_eq ⟨by omega, by omega⟩ (t := 189) rfl (fun hc5 => ?_) (fun hc5 => ?_)
          · skip
            refine rw_blk lk_L_isAct_189 ?_
            refine rw_of (fun rr hrr => q_iconst hrr) ?_
            refine rw_blk lk_L_isAct_190 ?_
            refine rw_of (fun rr hrr => q_istore (Nat.le_of_ble_eq_true rfl) rfl (q_iload rfl hrr)) ?_
            refine rw_if_eq ⟨by omega, by omega⟩ (t := 216) rfl (fun hc6 => ?_) (fun hc6 => ?_)
            · skip
              refine rw_blk lk_L_isAct_216 ?_
              refine rw_of (fun rr hrr => q_iconst hrr) ?_
              refine rw_blk lk_L_isAct_217 ?_
              refine rw_of (fun rr hrr => q_istore (Nat.le_of_ble_eq_true rfl) rfl (q_aload_n rfl (q_iconst (q_dup2 rfl rfl (q_lald (j := 0) hgr rfl (by omega) hg0 (q_iload rfl hrr)))))) ?_
              refine rw_if_eq ⟨by omega, by omega⟩ (t := 232) rfl (fun hc7 => ?_) (fun hc7 => ?_)
              · skip
                refine rw_blk lk_L_isAct_232 ?_
                refine rw_of (fun rr hrr => q_iconst hrr) ?_
                refine rw_blk lk_L_isAct_233 ?_
                refine rw_of (fun rr hrr => q_iadd (q_last (j := 0) hgr rfl (by omega) hrr)) ?_
                generalize hm8 : wI nn gg 0 ((((k : Nat) : Int) + 0)) = e9
                refine rw_of (fun rr hrr => q_aload_n rfl (q_iconst (q_iload rfl (q_iload rfl (q_iload rfl (q_iconst (q_isub (q_eqv (show ((2 - 1) : Int) = 1 from by decide) (q_iconst (q_iconst hrr)))))))))) ?_
                obtain ⟨_, mm10, pp10, K10, _, _, cc10, ss10, hV10, hK10, hKB10, hS10, rfl, hC10, rfl, rfl⟩ := e_joinP (c := 1) (Or.inr rfl) (X := X) (K := K) (sh := sh) (nn := e9) (d := d) (by omega) hC (a := sy) (b := ot) (by omega) (by omega) (by omega)
                have hKB10 : K10 ≤ K + 1 := hKB10
                refine rw_of (fun rr hrr => q_invS hV10 rfl rfl (okar_cons rfl (okar_cons rfl (okar_cons rfl (okar_cons rfl (okar_cons rfl (okar_cons rfl (okar_cons rfl okar_nil))))))) (Nat.le_of_ble_eq_true rfl) (q_iload rfl hrr)) ?_
                refine rw_if_ne ⟨by omega, by omega⟩ (t := 261) rfl (fun hc11 => ?_) (fun hc11 => ?_)
                · exact absurd hc11 (by decide)
                · skip
                  refine rw_of (fun rr hrr => q_sipush rfl (q_goto (t := 277) rfl hrr)) ?_
                  refine rw_blk lk_L_isAct_277 ?_
                  refine rw_icmp_ne ⟨by omega, by omega⟩ ⟨by omega, by omega⟩ (t := 310) rfl (fun hc12 => ?_) (fun hc12 => ?_)
                  · exfalso; omega
                  · skip
                    refine rw_of (fun rr hrr => q_iload rfl hrr) ?_
                    refine rw_if_eq ⟨by omega, by omega⟩ (t := 306) rfl (fun hc13 => ?_) (fun hc13 => ?_)
                    · skip
                      refine rw_blk lk_L_isAct_306 ?_
                      refine rw_of (fun rr hrr => q_iconst (q_goto (t := 311) rfl hrr)) ?_
                      refine rw_blk lk_L_isAct_311 ?_
                      refine lw_end hQ (q_ireturn (by omega)) (by omega) (by omega) (FrS_tr (by omega) FrS_rfl hS10) ?_
                      exact ⟨rfl, k, cp, ci, N, by omega, (hC10).1, ((show e9 gg 0 = (((k : Nat) : Int) + 0) from (kA hm8)).trans (by omega)), ((kB hm8 (by omega)).trans hg1), ((kB hm8 (by omega)).trans hg2), ⟨PP, fun i hi => (show e9 rp i = nn rp i from congrFun (kN hm8 (by omega)) _).trans (hpp i hi), fun i hi => (hpc i hi).trans (congrFun (hC10).P i).symm⟩, fun i hi => ((show e9 ur i = nn ur i from congrFun (kN hm8 (by omega)) _).trans (huu i hi)).trans (congrArg vF (congrFun (hC10).U i).symm)⟩
                    · exact absurd hc13 (by decide)
              · exact absurd hc7 (by decide)
            · exact absurd hc6 (by decide)
          · exact absurd hc5 (by decide)
        · skip
          refine rw_of (fun rr hrr => q_iload rfl (q_aload_n rfl (q_iconst (q_lald (j := 0) hgr rfl (by omega) hg0 hrr)))) ?_
          refine rw_icmp_ge ⟨by omega, by omega⟩ ⟨by omega, by omega⟩ (t := 165) rfl (fun hc14 => ?_) (fun hc14 => ?_)
          · skip
            refine rw_blk lk_L_isAct_165 ?_
            refine rw_of (fun rr hrr => q_iconst hrr) ?_
            refine rw_blk lk_L_isAct_166 ?_
            refine rw_of (fun rr hrr => q_istore (Nat.le_of_ble_eq_true rfl) rfl (q_iload rfl hrr)) ?_
            refine rw_if_eq ⟨by omega, by omega⟩ (t := 189) rfl (fun hc15 => ?_) (fun hc15 => ?_)
            · skip
              refine rw_blk lk_L_isAct_189 ?_
              refine rw_of (fun rr hrr => q_iconst hrr) ?_
              refine rw_blk lk_L_isAct_190 ?_
              refine rw_of (fun rr hrr => q_istore (Nat.le_of_ble_eq_true rfl) rfl (q_iload rfl hrr)) ?_
              refine rw_if_eq ⟨by omega, by omega⟩ (t := 216) rfl (fun hc16 => ?_) (fun hc16 => ?_)
              · skip
                refine rw_blk lk_L_isAct_216 ?_
                refine rw_of (fun rr hrr => q_iconst hrr) ?_
                refine rw_blk lk_L_isAct_217 ?_
                refine rw_of (fun rr hrr => q_istore (Nat.le_of_ble_eq_true rfl) rfl (q_aload_n rfl (q_iconst (q_dup2 rfl rfl (q_lald (j := 0) hgr rfl (by omega) hg0 (q_iload rfl hrr)))))) ?_
                refine rw_if_eq ⟨by omega, by omega⟩ (t := 232) rfl (fun hc17 => ?_) (fun hc17 => ?_)
                · skip
                  refine rw_blk lk_L_isAct_232 ?_
                  refine rw_of (fun rr hrr => q_iconst hrr) ?_
                  refine rw_blk lk_L_isAct_233 ?_
                  refine rw_of (fun rr hrr => q_iadd (q_last (j := 0) hgr rfl (by omega) hrr)) ?_
                  generalize hm18 : wI nn gg 0 ((((k : Nat) : Int) + 0)) = e19
                  refine rw_of (fun rr hrr => q_aload_n rfl (q_iconst (q_iload rfl (q_iload rfl (q_iload rfl (q_iconst (q_isub (q_eqv (show ((2 - 1) : Int) = 1 from by decide) (q_iconst (q_iconst hrr)))))))))) ?_
                  obtain ⟨_, mm20, pp20, K20, _, _, cc20, ss20, hV20, hK20, hKB20, hS20, rfl, hC20, rfl, rfl⟩ := e_joinP (c := 1) (Or.inr rfl) (X := X) (K := K) (sh := sh) (nn := e19) (d := d) (by omega) hC (a := sy) (b := ot) (by omega) (by omega) (by omega)
                  have hKB20 : K20 ≤ K + 1 := hKB20
                  refine rw_of (fun rr hrr => q_invS hV20 rfl rfl (okar_cons rfl (okar_cons rfl (okar_cons rfl (okar_cons rfl (okar_cons rfl (okar_cons rfl (okar_cons rfl okar_nil))))))) (Nat.le_of_ble_eq_true rfl) (q_iload rfl hrr)) ?_
                  refine rw_if_ne ⟨by omega, by omega⟩ (t := 261) rfl (fun hc21 => ?_) (fun hc21 => ?_)
                  · exact absurd hc21 (by decide)
                  · skip
                    refine rw_of (fun rr hrr => q_sipush rfl (q_goto (t := 277) rfl hrr)) ?_
                    refine rw_blk lk_L_isAct_277 ?_
                    refine rw_icmp_ne ⟨by omega, by omega⟩ ⟨by omega, by omega⟩ (t := 310) rfl (fun hc22 => ?_) (fun hc22 => ?_)
                    · exfalso; omega
                    · skip
                      refine rw_of (fun rr hrr => q_iload rfl hrr) ?_
                      refine rw_if_eq ⟨by omega, by omega⟩ (t := 306) rfl (fun hc23 => ?_) (fun hc23 => ?_)
                      · skip
                        refine rw_blk lk_L_isAct_306 ?_
                        refine rw_of (fun rr hrr => q_iconst (q_goto (t := 311) rfl hrr)) ?_
                        refine rw_blk lk_L_isAct_311 ?_
                        refine lw_end hQ (q_ireturn (by omega)) (by omega) (by omega) (FrS_tr (by omega) FrS_rfl hS20) ?_
                        exact ⟨rfl, k, cp, ci, N, by omega, (hC20).1, ((show e19 gg 0 = (((k : Nat) : Int) + 0) from (kA hm18)).trans (by omega)), ((kB hm18 (by omega)).trans hg1), ((kB hm18 (by omega)).trans hg2), ⟨PP, fun i hi => (show e19 rp i = nn rp i from congrFun (kN hm18 (by omega)) _).trans (hpp i hi), fun i hi => (hpc i hi).trans (congrFun (hC20).P i).symm⟩, fun i hi => ((show e19 ur i = nn ur i from congrFun (kN hm18 (by omega)) _).trans (huu i hi)).trans (congrArg vF (congrFun (hC20).U i).symm)⟩
                      · exact absurd hc23 (by decide)
                · exact absurd hc17 (by decide)
              · exact absurd hc16 (by decide)
            · exact absurd hc15 (by decide)
          · skip
            refine rw_of (fun rr hrr => q_iconst (q_goto (t := 166) rfl hrr)) ?_
            refine rw_blk lk_L_isAct_166 ?_
            refine rw_of (fun rr hrr => q_istore (Nat.le_of_ble_eq_true rfl) rfl (q_iload rfl hrr)) ?_
            refine rw_if_eq ⟨by omega, by omega⟩ (t := 189) rfl (fun hc24 => ?_) (fun hc24 => ?_)
            · exact absurd hc24 (by decide)
            · skip
              refine rw_of (fun rr hrr => q_aload_n rfl (q_iload rfl hrr)) ?_
              obtain ⟨_, mm25, pp25, hV25, rfl, hC25⟩ := w_order (S := (K, gB X sh nn)) (d := d) (by omega) hC (s := sy) (by omega)
              refine rw_of (fun rr hrr => q_invV hV25 (show SH 1 = (17, 0) from rfl) rfl rfl (okar_cons rfl okar_nil) (Nat.le_of_ble_eq_true rfl) (q_aload_n rfl (q_iload rfl hrr))) ?_
              obtain ⟨_, mm26, pp26, hV26, rfl, hC26⟩ := w_order (S := (K, gB X sh nn)) (d := d) (by omega) hC25 (s := ot) (by omega)
              refine rw_of (fun rr hrr => q_invV hV26 (show SH 1 = (17, 0) from rfl) rfl rfl (okar_cons rfl okar_nil) (Nat.le_of_ble_eq_true rfl) (q_iadd (q_goto (t := 190) rfl hrr))) ?_
              refine rw_blk lk_L_isAct_190 ?_
              refine rw_of (fun rr hrr => q_istore (Nat.le_of_ble_eq_true rfl) rfl (q_iload rfl hrr)) ?_
              refine rw_if_eq ⟨by omega, by omega⟩ (t := 216) rfl (fun hc27 => ?_) (fun hc27 => ?_)
              · exact absurd hc27 (by decide)
              · skip
                refine rw_of (fun rr hrr => q_iload rfl (q_bipush rfl hrr)) ?_
                have hN1 := hC.N8 (s := sy) (by omega)
                have hN2 := hC.N8 (s := ot) (by omega)
                refine rw_icmp_ge ⟨by omega, by omega⟩ ⟨by omega, by omega⟩ (t := 216) rfl (fun hc28 => ?_) (fun hc28 => ?_)
                · skip
                  refine rw_blk lk_L_isAct_216 ?_
                  refine rw_of (fun rr hrr => q_iconst hrr) ?_
                  refine rw_blk lk_L_isAct_217 ?_
                  refine rw_of (fun rr hrr => q_istore (Nat.le_of_ble_eq_true rfl) rfl (q_aload_n rfl (q_iconst (q_dup2 rfl rfl (q_lald (j := 0) hgr rfl (by omega) hg0 (q_iload rfl hrr)))))) ?_
                  refine rw_if_eq ⟨by omega, by omega⟩ (t := 232) rfl (fun hc29 => ?_) (fun hc29 => ?_)
                  · skip
                    refine rw_blk lk_L_isAct_232 ?_
                    refine rw_of (fun rr hrr => q_iconst hrr) ?_
                    refine rw_blk lk_L_isAct_233 ?_
                    refine rw_of (fun rr hrr => q_iadd (q_last (j := 0) hgr rfl (by omega) hrr)) ?_
                    generalize hm30 : wI nn gg 0 ((((k : Nat) : Int) + 0)) = e31
                    refine rw_of (fun rr hrr => q_aload_n rfl (q_iconst (q_iload rfl (q_iload rfl (q_iload rfl (q_iconst (q_isub (q_eqv (show ((2 - 1) : Int) = 1 from by decide) (q_iconst (q_iconst hrr)))))))))) ?_
                    obtain ⟨_, mm32, pp32, K32, _, _, cc32, ss32, hV32, hK32, hKB32, hS32, rfl, hC32, rfl, rfl⟩ := e_joinN (c := 1) (Or.inr rfl) (X := X) (K := K) (sh := sh) (nn := e31) (d := d) (by omega) hC26 (a := sy) (b := ot) (by omega) (by omega) (by omega)
                    have hKB32 : K32 ≤ K + 1 := hKB32
                    refine rw_of (fun rr hrr => q_invS hV32 rfl rfl (okar_cons rfl (okar_cons rfl (okar_cons rfl (okar_cons rfl (okar_cons rfl (okar_cons rfl (okar_cons rfl okar_nil))))))) (Nat.le_of_ble_eq_true rfl) (q_iload rfl hrr)) ?_
                    refine rw_if_ne ⟨by omega, by omega⟩ (t := 261) rfl (fun hc33 => ?_) (fun hc33 => ?_)
                    · skip
                      refine rw_blk lk_L_isAct_261 ?_
                      refine rw_of (fun rr hrr => q_iload rfl hrr) ?_
                      refine rw_if_eq ⟨by omega, by omega⟩ (t := 274) rfl (fun hc34 => ?_) (fun hc34 => ?_)
                      · skip
                        refine rw_blk lk_L_isAct_274 ?_
                        refine rw_of (fun rr hrr => q_sipush rfl hrr) ?_
                        refine rw_blk lk_L_isAct_277 ?_
                        refine rw_icmp_ne ⟨by omega, by omega⟩ ⟨by omega, by omega⟩ (t := 310) rfl (fun hc35 => ?_) (fun hc35 => ?_)
                        · exfalso; omega
                        · skip
                          refine rw_of (fun rr hrr => q_iload rfl hrr) ?_
                          refine rw_if_eq ⟨by omega, by omega⟩ (t := 306) rfl (fun hc36 => ?_) (fun hc36 => ?_)
                          · skip
                            refine rw_blk lk_L_isAct_306 ?_
                            refine rw_of (fun rr hrr => q_iconst (q_goto (t := 311) rfl hrr)) ?_
                            refine rw_blk lk_L_isAct_311 ?_
                            refine lw_end hQ (q_ireturn (by omega)) (by omega) (by omega) (FrS_tr (by omega) FrS_rfl hS32) ?_
                            exact ⟨rfl, k, cp, ci, N, by omega, (hC32).1, ((show e31 gg 0 = (((k : Nat) : Int) + 0) from (kA hm30)).trans (by omega)), ((kB hm30 (by omega)).trans hg1), ((kB hm30 (by omega)).trans hg2), ⟨PP, fun i hi => (show e31 rp i = nn rp i from congrFun (kN hm30 (by omega)) _).trans (hpp i hi), fun i hi => (hpc i hi).trans (congrFun (hC32).P i).symm⟩, fun i hi => ((show e31 ur i = nn ur i from congrFun (kN hm30 (by omega)) _).trans (huu i hi)).trans (congrArg vF (congrFun (hC32).U i).symm)⟩
                          · exact absurd hc36 (by decide)
                      · exact absurd hc34 (by decide)
                    · exact absurd hc33 (by decide)
                  · exact absurd hc29 (by decide)
                · skip
                  refine rw_of (fun rr hrr => q_aload_n rfl (q_iconst (q_lald (j := 0) hgr rfl (by omega) hg0 (q_bipush rfl hrr)))) ?_
                  refine rw_icmp_ge ⟨by omega, by omega⟩ ⟨by omega, by omega⟩ (t := 216) rfl (fun hc37 => ?_) (fun hc37 => ?_)
                  · skip
                    refine rw_blk lk_L_isAct_216 ?_
                    refine rw_of (fun rr hrr => q_iconst hrr) ?_
                    refine rw_blk lk_L_isAct_217 ?_
                    refine rw_of (fun rr hrr => q_istore (Nat.le_of_ble_eq_true rfl) rfl (q_aload_n rfl (q_iconst (q_dup2 rfl rfl (q_lald (j := 0) hgr rfl (by omega) hg0 (q_iload rfl hrr)))))) ?_
                    refine rw_if_eq ⟨by omega, by omega⟩ (t := 232) rfl (fun hc38 => ?_) (fun hc38 => ?_)
                    · skip
                      refine rw_blk lk_L_isAct_232 ?_
                      refine rw_of (fun rr hrr => q_iconst hrr) ?_
                      refine rw_blk lk_L_isAct_233 ?_
                      refine rw_of (fun rr hrr => q_iadd (q_last (j := 0) hgr rfl (by omega) hrr)) ?_
                      generalize hm39 : wI nn gg 0 ((((k : Nat) : Int) + 0)) = e40
                      refine rw_of (fun rr hrr => q_aload_n rfl (q_iconst (q_iload rfl (q_iload rfl (q_iload rfl (q_iconst (q_isub (q_eqv (show ((2 - 1) : Int) = 1 from by decide) (q_iconst (q_iconst hrr)))))))))) ?_
                      obtain ⟨_, mm41, pp41, K41, _, _, cc41, ss41, hV41, hK41, hKB41, hS41, rfl, hC41, rfl, rfl⟩ := e_joinN (c := 1) (Or.inr rfl) (X := X) (K := K) (sh := sh) (nn := e40) (d := d) (by omega) hC26 (a := sy) (b := ot) (by omega) (by omega) (by omega)
                      have hKB41 : K41 ≤ K + 1 := hKB41
                      refine rw_of (fun rr hrr => q_invS hV41 rfl rfl (okar_cons rfl (okar_cons rfl (okar_cons rfl (okar_cons rfl (okar_cons rfl (okar_cons rfl (okar_cons rfl okar_nil))))))) (Nat.le_of_ble_eq_true rfl) (q_iload rfl hrr)) ?_
                      refine rw_if_ne ⟨by omega, by omega⟩ (t := 261) rfl (fun hc42 => ?_) (fun hc42 => ?_)
                      · skip
                        refine rw_blk lk_L_isAct_261 ?_
                        refine rw_of (fun rr hrr => q_iload rfl hrr) ?_
                        refine rw_if_eq ⟨by omega, by omega⟩ (t := 274) rfl (fun hc43 => ?_) (fun hc43 => ?_)
                        · skip
                          refine rw_blk lk_L_isAct_274 ?_
                          refine rw_of (fun rr hrr => q_sipush rfl hrr) ?_
                          refine rw_blk lk_L_isAct_277 ?_
                          refine rw_icmp_ne ⟨by omega, by omega⟩ ⟨by omega, by omega⟩ (t := 310) rfl (fun hc44 => ?_) (fun hc44 => ?_)
                          · exfalso; omega
                          · skip
                            refine rw_of (fun rr hrr => q_iload rfl hrr) ?_
                            refine rw_if_eq ⟨by omega, by omega⟩ (t := 306) rfl (fun hc45 => ?_) (fun hc45 => ?_)
                            · skip
                              refine rw_blk lk_L_isAct_306 ?_
                              refine rw_of (fun rr hrr => q_iconst (q_goto (t := 311) rfl hrr)) ?_
                              refine rw_blk lk_L_isAct_311 ?_
                              refine lw_end hQ (q_ireturn (by omega)) (by omega) (by omega) (FrS_tr (by omega) FrS_rfl hS41) ?_
                              exact ⟨rfl, k, cp, ci, N, by omega, (hC41).1, ((show e40 gg 0 = (((k : Nat) : Int) + 0) from (kA hm39)).trans (by omega)), ((kB hm39 (by omega)).trans hg1), ((kB hm39 (by omega)).trans hg2), ⟨PP, fun i hi => (show e40 rp i = nn rp i from congrFun (kN hm39 (by omega)) _).trans (hpp i hi), fun i hi => (hpc i hi).trans (congrFun (hC41).P i).symm⟩, fun i hi => ((show e40 ur i = nn ur i from congrFun (kN hm39 (by omega)) _).trans (huu i hi)).trans (congrArg vF (congrFun (hC41).U i).symm)⟩
                            · exact absurd hc45 (by decide)
                        · exact absurd hc43 (by decide)
                      · exact absurd hc42 (by decide)
                    · exact absurd hc38 (by decide)
                  · skip
                    refine rw_of (fun rr hrr => q_iconst (q_goto (t := 217) rfl hrr)) ?_
                    refine rw_blk lk_L_isAct_217 ?_
                    refine rw_of (fun rr hrr => q_istore (Nat.le_of_ble_eq_true rfl) rfl (q_aload_n rfl (q_iconst (q_dup2 rfl rfl (q_lald (j := 0) hgr rfl (by omega) hg0 (q_iload rfl hrr)))))) ?_
                    refine rw_if_eq ⟨by omega, by omega⟩ (t := 232) rfl (fun hc46 => ?_) (fun hc46 => ?_)
                    · exact absurd hc46 (by decide)
                    · skip
                      refine rw_of (fun rr hrr => q_iconst (q_goto (t := 233) rfl hrr)) ?_
                      refine rw_blk lk_L_isAct_233 ?_
                      refine rw_of (fun rr hrr => q_iadd (q_last (j := 0) hgr rfl (by omega) hrr)) ?_
                      generalize hm47 : wI nn gg 0 ((((k : Nat) : Int) + 1)) = e48
                      refine rw_of (fun rr hrr => q_aload_n rfl (q_iconst (q_iload rfl (q_iload rfl (q_iload rfl (q_iconst (q_isub (q_eqv (show ((2 - 1) : Int) = 1 from by decide) (q_iconst (q_iconst hrr)))))))))) ?_
                      obtain ⟨_, mm49, pp49, K49, _, _, cc49, ss49, hV49, hK49, hKB49, hS49, rfl, ⟨⟨hC49, hN49⟩, q149, q249, q349, q449, q549⟩, rfl, rfl⟩ := e_join1 (X := X) (K := K) (sh := sh) (nn := e48) (d := d) (by omega) hC26 (a := sy) (b := ot) (by omega) (by omega) (by omega) (by omega)
                      have hKB49 : K49 ≤ K + 1 := hKB49
                      refine rw_of (fun rr hrr => q_invS hV49 rfl rfl (okar_cons rfl (okar_cons rfl (okar_cons rfl (okar_cons rfl (okar_cons rfl (okar_cons rfl (okar_cons rfl okar_nil))))))) (Nat.le_of_ble_eq_true rfl) (q_iload rfl hrr)) ?_
                      refine rw_if_ne ⟨by omega, by omega⟩ (t := 261) rfl (fun hc50 => ?_) (fun hc50 => ?_)
                      · skip
                        refine rw_blk lk_L_isAct_261 ?_
                        refine rw_of (fun rr hrr => q_iload rfl hrr) ?_
                        refine rw_if_eq ⟨by omega, by omega⟩ (t := 274) rfl (fun hc51 => ?_) (fun hc51 => ?_)
                        · exact absurd hc51 (by decide)
                        · skip
                          refine rw_of (fun rr hrr => q_aload_n rfl (q_iconst (q_lald (j := 0) (Ro_call hK49 hS49 hgr) rfl (by omega) (kA hm47) (q_iconst (q_isub (q_goto (t := 277) rfl hrr)))))) ?_
                          refine rw_blk lk_L_isAct_277 ?_
                          refine rw_icmp_ne ⟨by omega, by omega⟩ ⟨by omega, by omega⟩ (t := 310) rfl (fun hc52 => ?_) (fun hc52 => ?_)
                          · exfalso; omega
                          · skip
                            refine rw_of (fun rr hrr => q_iload rfl hrr) ?_
                            refine rw_if_eq ⟨by omega, by omega⟩ (t := 306) rfl (fun hc53 => ?_) (fun hc53 => ?_)
                            · exact absurd hc53 (by decide)
                            · skip
                              refine rw_of (fun rr hrr => q_aload_n rfl (q_aload_n rfl (q_iconst (q_lald (j := 0) (Ro_call hK49 hS49 hgr) rfl (by omega) (kA hm47) (q_iconst (q_isub (q_eqv (show (((((k : Nat) : Int) + 1) - 1) : Int) = ((k : Nat) : Int) from by omega) (q_iload rfl (q_iload rfl (q_iload rfl (q_iconst (q_isub (q_eqv (show ((2 - 1) : Int) = 1 from by decide) (q_iconst hrr)))))))))))))) ?_
                              obtain ⟨_, mm54, pp54, K54, sh54, e54, cc54, ss54, hV54, hK54, hKB54, hS54, rfl, hC54, hF54⟩ := c_L_isMade1 (X := X) (m := mm49) (p := pp49) (K := K49) (sh := sh) (nn := e48) (d := d) (by omega) (by omega) k sy ot 0 (k + 1) cp ci (upN N k (N sy + N ot)) hC49 (Nat.lt_succ_self k) (by omega) (by omega) q149 q249 q349 q449 q549
                              have hKB54 : K54 ≤ K49 + 6 := hKB54
                              refine rw_of (fun rr hrr => q_invS hV54 rfl rfl (okar_cons rfl (okar_cons rfl (okar_cons rfl (okar_cons rfl (okar_cons rfl (okar_cons rfl okar_nil)))))) (Nat.le_of_ble_eq_true rfl) hrr) ?_
                              refine rw_if_eq ⟨by omega, by omega⟩ (t := 310) rfl (fun hc55 => ?_) (fun hc55 => ?_)
                              · exact absurd hc55 (by decide)
                              · skip
                                refine rw_blk lk_L_isAct_306 ?_
                                refine rw_of (fun rr hrr => q_iconst (q_goto (t := 311) rfl hrr)) ?_
                                refine rw_blk lk_L_isAct_311 ?_
                                refine lw_end hQ (q_ireturn (by omega)) (by omega) (by omega) (FrS_tr (by omega) (FrS_tr (by omega) FrS_rfl hS49) hS54) ?_
                                exact ⟨rfl, k + 1, cp, ci, upN N k (N sy + N ot), by omega, (hC54).1, ((show e54 gg 0 = (((k : Nat) : Int) + 1) from ((congrFun (hF54 gg (by show ¬ (K49 < gg); omega)) _).trans (kA hm47))).trans (by omega)), (((congrFun (hF54 gg (by show ¬ (K49 < gg); omega)) _).trans (kB hm47 (by omega))).trans hg1), (((congrFun (hF54 gg (by show ¬ (K49 < gg); omega)) _).trans (kB hm47 (by omega))).trans hg2), ⟨PP, fun i hi => (show e54 rp i = nn rp i from congrFun ((hF54 rp (by show ¬ (K49 < rp); omega)).trans (kN hm47 (by omega))) _).trans (hpp i hi), fun i hi => (hpc i hi).trans (congrFun ((hC54).P.trans hN49.P) i).symm⟩, fun i hi => ((show e54 ur i = nn ur i from congrFun ((hF54 ur (by show ¬ (K49 < ur); omega)).trans (kN hm47 (by omega))) _).trans (huu i hi)).trans (congrArg vF (congrFun ((hC54).U.trans hN49.U) i).symm)⟩
                      · exact absurd hc50 (by decide)
  · exact absurd hc1 (by decide)
theorem c_L_isAct3 {d : Nat} {X : MC} {m : M1} {p : M2} {K : Nat} {sh : Nat → Nat} {nn : N2} (hd : 11 ≤ d) (hK : 260 ≤ K) (rp ur gg one two : Nat) (k cp ci : Nat) (N : Nat → Nat) (hC0 : CI k N cp ci m p) (hpr : Ro K sh rp 32) (hur : Ro K sh ur 20) (hgr : Ro K sh gg 3) (hrg : rp ≠ gg) (hug : ur ≠ gg) (hru : rp ≠ ur) (hLR : LR rp ur gg k cp ci m nn) (h1 : one < 60000) (h2 : two < 60000) (hk1 : 1 ≤ k) : Lc d k_L_isAct X [.ref (1), .ref (rp), .ref (ur), .ref (gg), .int (iI (3)), .int (iI (((one : Nat) : Int))), .int (iI (((two : Nat) : Int)))] m p K sh nn (fun v m' p' K' sh' n' => v = some (.int (iI 1)) ∧ ∃ k' cp' ci', ∃ N' : Nat → Nat, k ≤ k' ∧ CI k' N' cp' ci' m' p' ∧ LR rp ur gg k' cp' ci' m' n') := by
  obtain ⟨d, rfl⟩ : ∃ e, d = e + 1 := ⟨d - 1, by omega⟩
  have hpr8 := hpr.1; have hpr9 := hpr.2.1
  have hur8 := hur.1; have hur9 := hur.2.1
  have hgr8 := hgr.1; have hgr9 := hgr.2.1
  have hC := CS_rf hC0
  have hk12 := hC.k12
  have hcp16 := hC.p16
  have hci20 := hC.i20
  obtain ⟨hg0, hg1, hg2, ⟨PP, hpp, hpc⟩, huu⟩ := hLR
  obtain ⟨sy, hsy0⟩ : ∃ z, z = one % (k + 1) := ⟨_, rfl⟩
  obtain ⟨ot, hot0⟩ : ∃ z, z = two % (k + 1) := ⟨_, rfl⟩
  have hsy : sy ≤ k := by rw [hsy0]; exact Nat.le_of_lt_succ (Nat.mod_lt _ (Nat.succ_pos _))
  have hot : ot ≤ k := by rw [hot0]; exact Nat.le_of_lt_succ (Nat.mod_lt _ (Nat.succ_pos _))
  obtain ⟨x, hx0⟩ : ∃ x : Int, x = ((two % 20015 : Nat) : Int) - 10007 := ⟨_, rfl⟩
  have hxr : -10007 ≤ x ∧ x ≤ 10007 := by omega
  refine lc_go (lv := [some (.ref (1)), some (.ref (rp)), some (.ref (ur)), some (.ref (gg)), some (.int (iI (3))), some (.int (iI (((one : Nat) : Int)))), some (.int (iI (((two : Nat) : Int)))), none, none, none, none, none, none, none, none, none, none]) (B := 7) (Nat.le_of_ble_eq_true rfl) (okar_cons rfl (okar_cons rfl (okar_cons rfl (okar_cons rfl (okar_cons rfl (okar_cons rfl (okar_cons rfl okar_nil))))))) rfl rfl (fun Qr hQ => ?_)
  refine rw_blk lk_L_isAct_0 ?_
  refine rw_of (fun rr hrr => q_iload rfl (q_aload_n rfl (q_iconst (q_lald (j := 0) hgr rfl (by omega) hg0 (q_iconst (q_iadd (q_irem ⟨by omega, by omega⟩ ⟨by omega, by omega⟩ (by omega) (show (((one : Nat) : Int)).tmod ((((k : Nat) : Int) + 1)) = ((sy : Nat) : Int) from by rw [hsy0]; rfl) (q_istore (Nat.le_of_ble_eq_true rfl) rfl (q_iload rfl (q_aload_n rfl (q_iconst (q_lald (j := 0) hgr rfl (by omega) hg0 (q_iconst (q_iadd (q_irem ⟨by omega, by omega⟩ ⟨by omega, by omega⟩ (by omega) (show (((two : Nat) : Int)).tmod ((((k : Nat) : Int) + 1)) = ((ot : Nat) : Int) from by rw [hot0]; rfl) (q_istore (Nat.le_of_ble_eq_true rfl) rfl (q_iload rfl hrr))))))))))))))))) ?_
  refine rw_if_ne ⟨by omega, by omega⟩ (t := 133) rfl (fun hc1 => ?_) (fun hc1 => ?_)
  · skip
    refine rw_blk lk_L_isAct_133 ?_
    refine rw_of (fun rr hrr => q_iload rfl (q_iconst hrr)) ?_
    refine rw_icmp_ge ⟨by omega, by omega⟩ ⟨by omega, by omega⟩ (t := 312) rfl (fun hc2 => ?_) (fun hc2 => ?_)
    · skip
      refine rw_blk lk_L_isAct_312 ?_
      refine rw_of (fun rr hrr => q_iload rfl (q_iconst hrr)) ?_
      refine rw_icmp_ne ⟨by omega, by omega⟩ ⟨by omega, by omega⟩ (t := 538) rfl (fun hc3 => ?_) (fun hc3 => ?_)
      · exact absurd hc3 (by decide)
      · skip
        refine rw_of (fun rr hrr => q_aload_n rfl (q_iconst (q_lald (j := 0) hgr rfl (by omega) hg0 hrr))) ?_
        refine rw_if_le ⟨by omega, by omega⟩ (t := 538) rfl (fun hc4 => ?_) (fun hc4 => ?_)
        · exfalso; omega
        · skip
          refine rw_of (fun rr hrr => q_iload rfl (q_sipush rfl (q_irem ⟨by omega, by omega⟩ ⟨by omega, by omega⟩ (by omega) (show (((two : Nat) : Int)).tmod (20015) = ((two % 20015 : Nat) : Int) by rfl) (q_sipush rfl (q_isub (q_eqv (show ((((two % 20015 : Nat) : Int) - 10007) : Int) = x from hx0.symm) (q_istore (Nat.le_of_ble_eq_true rfl) rfl (q_iload rfl (q_aload_n rfl (q_iconst (q_lald (j := 0) hgr rfl (by omega) hg0 hrr))))))))))) ?_
          refine rw_icmp_ge ⟨by omega, by omega⟩ ⟨by omega, by omega⟩ (t := 348) rfl (fun hc5 => ?_) (fun hc5 => ?_)
          · skip
            refine rw_blk lk_L_isAct_348 ?_
            refine rw_of (fun rr hrr => q_iconst hrr) ?_
            refine rw_blk lk_L_isAct_349 ?_
            refine rw_of (fun rr hrr => q_istore (Nat.le_of_ble_eq_true rfl) rfl (q_iload rfl (q_sipush rfl hrr))) ?_
            refine rw_icmp_le ⟨by omega, by omega⟩ ⟨by omega, by omega⟩ (t := 371) rfl (fun hc6 => ?_) (fun hc6 => ?_)
            · skip
              refine rw_blk lk_L_isAct_371 ?_
              refine rw_of (fun rr hrr => q_iconst hrr) ?_
              refine rw_blk lk_L_isAct_372 ?_
              refine rw_of (fun rr hrr => q_istore (Nat.le_of_ble_eq_true rfl) rfl (q_iload rfl hrr)) ?_
              refine rw_if_eq ⟨by omega, by omega⟩ (t := 391) rfl (fun hc7 => ?_) (fun hc7 => ?_)
              · skip
                refine rw_blk lk_L_isAct_391 ?_
                refine rw_of (fun rr hrr => q_iconst hrr) ?_
                refine rw_blk lk_L_isAct_392 ?_
                refine rw_of (fun rr hrr => q_istore (Nat.le_of_ble_eq_true rfl) rfl (q_iload rfl hrr)) ?_
                refine rw_if_eq ⟨by omega, by omega⟩ (t := 436) rfl (fun hc8 => ?_) (fun hc8 => ?_)
                · skip
                  refine rw_blk lk_L_isAct_436 ?_
                  refine rw_of (fun rr hrr => q_iconst hrr) ?_
                  refine rw_blk lk_L_isAct_437 ?_
                  refine rw_of (fun rr hrr => q_istore (Nat.le_of_ble_eq_true rfl) rfl (q_aload_n rfl (q_iconst (q_dup2 rfl rfl (q_lald (j := 0) hgr rfl (by omega) hg0 (q_iload rfl hrr)))))) ?_
                  refine rw_if_eq ⟨by omega, by omega⟩ (t := 452) rfl (fun hc9 => ?_) (fun hc9 => ?_)
                  · skip
                    refine rw_blk lk_L_isAct_452 ?_
                    refine rw_of (fun rr hrr => q_iconst hrr) ?_
                    refine rw_blk lk_L_isAct_453 ?_
                    refine rw_of (fun rr hrr => q_iadd (q_last (j := 0) hgr rfl (by omega) hrr)) ?_
                    generalize hm10 : wI nn gg 0 ((((k : Nat) : Int) + 0)) = e11
                    refine rw_of (fun rr hrr => q_aload_n rfl (q_iconst (q_iload rfl (q_iload rfl (q_iconst (q_iconst (q_iconst hrr))))))) ?_
                    obtain ⟨_, mm12, pp12, K12, _, _, cc12, ss12, hV12, hK12, hKB12, hS12, rfl, hC12, rfl, rfl⟩ := e_loopP (X := X) (K := K) (sh := sh) (nn := e11) (d := d) (by omega) hC (s := sy) (x := x) (by omega) (by omega)
                    have hKB12 : K12 ≤ K + 1 := hKB12
                    refine rw_of (fun rr hrr => q_invS hV12 rfl rfl (okar_cons rfl (okar_cons rfl (okar_cons rfl (okar_cons rfl (okar_cons rfl (okar_cons rfl (okar_cons rfl okar_nil))))))) (Nat.le_of_ble_eq_true rfl) (q_iload rfl hrr)) ?_
                    refine rw_if_ne ⟨by omega, by omega⟩ (t := 478) rfl (fun hc13 => ?_) (fun hc13 => ?_)
                    · exact absurd hc13 (by decide)
                    · skip
                      refine rw_of (fun rr hrr => q_sipush rfl (q_goto (t := 505) rfl hrr)) ?_
                      refine rw_blk lk_L_isAct_505 ?_
                      refine rw_icmp_ne ⟨by omega, by omega⟩ ⟨by omega, by omega⟩ (t := 536) rfl (fun hc14 => ?_) (fun hc14 => ?_)
                      · exfalso; omega
                      · skip
                        refine rw_of (fun rr hrr => q_iload rfl hrr) ?_
                        refine rw_if_eq ⟨by omega, by omega⟩ (t := 532) rfl (fun hc15 => ?_) (fun hc15 => ?_)
                        · skip
                          refine rw_blk lk_L_isAct_532 ?_
                          refine rw_of (fun rr hrr => q_iconst (q_goto (t := 537) rfl hrr)) ?_
                          refine rw_blk lk_L_isAct_537 ?_
                          refine lw_end hQ (q_ireturn (by omega)) (by omega) (by omega) (FrS_tr (by omega) FrS_rfl hS12) ?_
                          exact ⟨rfl, k, cp, ci, N, by omega, (hC12).1, ((show e11 gg 0 = (((k : Nat) : Int) + 0) from (kA hm10)).trans (by omega)), ((kB hm10 (by omega)).trans hg1), ((kB hm10 (by omega)).trans hg2), ⟨PP, fun i hi => (show e11 rp i = nn rp i from congrFun (kN hm10 (by omega)) _).trans (hpp i hi), fun i hi => (hpc i hi).trans (congrFun (hC12).P i).symm⟩, fun i hi => ((show e11 ur i = nn ur i from congrFun (kN hm10 (by omega)) _).trans (huu i hi)).trans (congrArg vF (congrFun (hC12).U i).symm)⟩
                        · exact absurd hc15 (by decide)
                  · exact absurd hc9 (by decide)
                · exact absurd hc8 (by decide)
              · exact absurd hc7 (by decide)
            · skip
              refine rw_of (fun rr hrr => q_iload rfl (q_sipush rfl hrr)) ?_
              refine rw_icmp_ge ⟨by omega, by omega⟩ ⟨by omega, by omega⟩ (t := 371) rfl (fun hc16 => ?_) (fun hc16 => ?_)
              · skip
                refine rw_blk lk_L_isAct_371 ?_
                refine rw_of (fun rr hrr => q_iconst hrr) ?_
                refine rw_blk lk_L_isAct_372 ?_
                refine rw_of (fun rr hrr => q_istore (Nat.le_of_ble_eq_true rfl) rfl (q_iload rfl hrr)) ?_
                refine rw_if_eq ⟨by omega, by omega⟩ (t := 391) rfl (fun hc17 => ?_) (fun hc17 => ?_)
                · skip
                  refine rw_blk lk_L_isAct_391 ?_
                  refine rw_of (fun rr hrr => q_iconst hrr) ?_
                  refine rw_blk lk_L_isAct_392 ?_
                  refine rw_of (fun rr hrr => q_istore (Nat.le_of_ble_eq_true rfl) rfl (q_iload rfl hrr)) ?_
                  refine rw_if_eq ⟨by omega, by omega⟩ (t := 436) rfl (fun hc18 => ?_) (fun hc18 => ?_)
                  · skip
                    refine rw_blk lk_L_isAct_436 ?_
                    refine rw_of (fun rr hrr => q_iconst hrr) ?_
                    refine rw_blk lk_L_isAct_437 ?_
                    refine rw_of (fun rr hrr => q_istore (Nat.le_of_ble_eq_true rfl) rfl (q_aload_n rfl (q_iconst (q_dup2 rfl rfl (q_lald (j := 0) hgr rfl (by omega) hg0 (q_iload rfl hrr)))))) ?_
                    refine rw_if_eq ⟨by omega, by omega⟩ (t := 452) rfl (fun hc19 => ?_) (fun hc19 => ?_)
                    · skip
                      refine rw_blk lk_L_isAct_452 ?_
                      refine rw_of (fun rr hrr => q_iconst hrr) ?_
                      refine rw_blk lk_L_isAct_453 ?_
                      refine rw_of (fun rr hrr => q_iadd (q_last (j := 0) hgr rfl (by omega) hrr)) ?_
                      generalize hm20 : wI nn gg 0 ((((k : Nat) : Int) + 0)) = e21
                      refine rw_of (fun rr hrr => q_aload_n rfl (q_iconst (q_iload rfl (q_iload rfl (q_iconst (q_iconst (q_iconst hrr))))))) ?_
                      obtain ⟨_, mm22, pp22, K22, _, _, cc22, ss22, hV22, hK22, hKB22, hS22, rfl, hC22, rfl, rfl⟩ := e_loopP (X := X) (K := K) (sh := sh) (nn := e21) (d := d) (by omega) hC (s := sy) (x := x) (by omega) (by omega)
                      have hKB22 : K22 ≤ K + 1 := hKB22
                      refine rw_of (fun rr hrr => q_invS hV22 rfl rfl (okar_cons rfl (okar_cons rfl (okar_cons rfl (okar_cons rfl (okar_cons rfl (okar_cons rfl (okar_cons rfl okar_nil))))))) (Nat.le_of_ble_eq_true rfl) (q_iload rfl hrr)) ?_
                      refine rw_if_ne ⟨by omega, by omega⟩ (t := 478) rfl (fun hc23 => ?_) (fun hc23 => ?_)
                      · exact absurd hc23 (by decide)
                      · skip
                        refine rw_of (fun rr hrr => q_sipush rfl (q_goto (t := 505) rfl hrr)) ?_
                        refine rw_blk lk_L_isAct_505 ?_
                        refine rw_icmp_ne ⟨by omega, by omega⟩ ⟨by omega, by omega⟩ (t := 536) rfl (fun hc24 => ?_) (fun hc24 => ?_)
                        · exfalso; omega
                        · skip
                          refine rw_of (fun rr hrr => q_iload rfl hrr) ?_
                          refine rw_if_eq ⟨by omega, by omega⟩ (t := 532) rfl (fun hc25 => ?_) (fun hc25 => ?_)
                          · skip
                            refine rw_blk lk_L_isAct_532 ?_
                            refine rw_of (fun rr hrr => q_iconst (q_goto (t := 537) rfl hrr)) ?_
                            refine rw_blk lk_L_isAct_537 ?_
                            refine lw_end hQ (q_ireturn (by omega)) (by omega) (by omega) (FrS_tr (by omega) FrS_rfl hS22) ?_
                            exact ⟨rfl, k, cp, ci, N, by omega, (hC22).1, ((show e21 gg 0 = (((k : Nat) : Int) + 0) from (kA hm20)).trans (by omega)), ((kB hm20 (by omega)).trans hg1), ((kB hm20 (by omega)).trans hg2), ⟨PP, fun i hi => (show e21 rp i = nn rp i from congrFun (kN hm20 (by omega)) _).trans (hpp i hi), fun i hi => (hpc i hi).trans (congrFun (hC22).P i).symm⟩, fun i hi => ((show e21 ur i = nn ur i from congrFun (kN hm20 (by omega)) _).trans (huu i hi)).trans (congrArg vF (congrFun (hC22).U i).symm)⟩
                          · exact absurd hc25 (by decide)
                    · exact absurd hc19 (by decide)
                  · exact absurd hc18 (by decide)
                · exact absurd hc17 (by decide)
              · skip
                refine rw_of (fun rr hrr => q_iconst (q_goto (t := 372) rfl hrr)) ?_
                refine rw_blk lk_L_isAct_372 ?_
                refine rw_of (fun rr hrr => q_istore (Nat.le_of_ble_eq_true rfl) rfl (q_iload rfl hrr)) ?_
                refine rw_if_eq ⟨by omega, by omega⟩ (t := 391) rfl (fun hc26 => ?_) (fun hc26 => ?_)
                · skip
                  refine rw_blk lk_L_isAct_391 ?_
                  refine rw_of (fun rr hrr => q_iconst hrr) ?_
                  refine rw_blk lk_L_isAct_392 ?_
                  refine rw_of (fun rr hrr => q_istore (Nat.le_of_ble_eq_true rfl) rfl (q_iload rfl hrr)) ?_
                  refine rw_if_eq ⟨by omega, by omega⟩ (t := 436) rfl (fun hc27 => ?_) (fun hc27 => ?_)
                  · skip
                    refine rw_blk lk_L_isAct_436 ?_
                    refine rw_of (fun rr hrr => q_iconst hrr) ?_
                    refine rw_blk lk_L_isAct_437 ?_
                    refine rw_of (fun rr hrr => q_istore (Nat.le_of_ble_eq_true rfl) rfl (q_aload_n rfl (q_iconst (q_dup2 rfl rfl (q_lald (j := 0) hgr rfl (by omega) hg0 (q_iload rfl hrr)))))) ?_
                    refine rw_if_eq ⟨by omega, by omega⟩ (t := 452) rfl (fun hc28 => ?_) (fun hc28 => ?_)
                    · skip
                      refine rw_blk lk_L_isAct_452 ?_
                      refine rw_of (fun rr hrr => q_iconst hrr) ?_
                      refine rw_blk lk_L_isAct_453 ?_
                      refine rw_of (fun rr hrr => q_iadd (q_last (j := 0) hgr rfl (by omega) hrr)) ?_
                      generalize hm29 : wI nn gg 0 ((((k : Nat) : Int) + 0)) = e30
                      refine rw_of (fun rr hrr => q_aload_n rfl (q_iconst (q_iload rfl (q_iload rfl (q_iconst (q_iconst (q_iconst hrr))))))) ?_
                      obtain ⟨_, mm31, pp31, K31, _, _, cc31, ss31, hV31, hK31, hKB31, hS31, rfl, hC31, rfl, rfl⟩ := e_loopP (X := X) (K := K) (sh := sh) (nn := e30) (d := d) (by omega) hC (s := sy) (x := x) (by omega) (by omega)
                      have hKB31 : K31 ≤ K + 1 := hKB31
                      refine rw_of (fun rr hrr => q_invS hV31 rfl rfl (okar_cons rfl (okar_cons rfl (okar_cons rfl (okar_cons rfl (okar_cons rfl (okar_cons rfl (okar_cons rfl okar_nil))))))) (Nat.le_of_ble_eq_true rfl) (q_iload rfl hrr)) ?_
                      refine rw_if_ne ⟨by omega, by omega⟩ (t := 478) rfl (fun hc32 => ?_) (fun hc32 => ?_)
                      · exact absurd hc32 (by decide)
                      · skip
                        refine rw_of (fun rr hrr => q_sipush rfl (q_goto (t := 505) rfl hrr)) ?_
                        refine rw_blk lk_L_isAct_505 ?_
                        refine rw_icmp_ne ⟨by omega, by omega⟩ ⟨by omega, by omega⟩ (t := 536) rfl (fun hc33 => ?_) (fun hc33 => ?_)
                        · exfalso; omega
                        · skip
                          refine rw_of (fun rr hrr => q_iload rfl hrr) ?_
                          refine rw_if_eq ⟨by omega, by omega⟩ (t := 532) rfl (fun hc34 => ?_) (fun hc34 => ?_)
                          · skip
                            refine rw_blk lk_L_isAct_532 ?_
                            refine rw_of (fun rr hrr => q_iconst (q_goto (t := 537) rfl hrr)) ?_
                            refine rw_blk lk_L_isAct_537 ?_
                            refine lw_end hQ (q_ireturn (by omega)) (by omega) (by omega) (FrS_tr (by omega) FrS_rfl hS31) ?_
                            exact ⟨rfl, k, cp, ci, N, by omega, (hC31).1, ((show e30 gg 0 = (((k : Nat) : Int) + 0) from (kA hm29)).trans (by omega)), ((kB hm29 (by omega)).trans hg1), ((kB hm29 (by omega)).trans hg2), ⟨PP, fun i hi => (show e30 rp i = nn rp i from congrFun (kN hm29 (by omega)) _).trans (hpp i hi), fun i hi => (hpc i hi).trans (congrFun (hC31).P i).symm⟩, fun i hi => ((show e30 ur i = nn ur i from congrFun (kN hm29 (by omega)) _).trans (huu i hi)).trans (congrArg vF (congrFun (hC31).U i).symm)⟩
                          · exact absurd hc34 (by decide)
                    · exact absurd hc28 (by decide)
                  · exact absurd hc27 (by decide)
                · exact absurd hc26 (by decide)
          · skip
            refine rw_of (fun rr hrr => q_iconst (q_goto (t := 349) rfl hrr)) ?_
            refine rw_blk lk_L_isAct_349 ?_
            refine rw_of (fun rr hrr => q_istore (Nat.le_of_ble_eq_true rfl) rfl (q_iload rfl (q_sipush rfl hrr))) ?_
            refine rw_icmp_le ⟨by omega, by omega⟩ ⟨by omega, by omega⟩ (t := 371) rfl (fun hc35 => ?_) (fun hc35 => ?_)
            · skip
              refine rw_blk lk_L_isAct_371 ?_
              refine rw_of (fun rr hrr => q_iconst hrr) ?_
              refine rw_blk lk_L_isAct_372 ?_
              refine rw_of (fun rr hrr => q_istore (Nat.le_of_ble_eq_true rfl) rfl (q_iload rfl hrr)) ?_
              refine rw_if_eq ⟨by omega, by omega⟩ (t := 391) rfl (fun hc36 => ?_) (fun hc36 => ?_)
              · exact absurd hc36 (by decide)
              · skip
                refine rw_of (fun rr hrr => q_aload_n rfl (q_iload rfl (q_iconst (q_iconst (q_iconst hrr))))) ?_
                obtain ⟨_, mm37, pp37, hV37, rfl, hC37⟩ := w_at3 (S := (K, gB X sh nn)) (d := d) (by omega) hC (s := sy) (by omega) (i := 0) (j := 0)
                refine rw_of (fun rr hrr => q_invV hV37 (show SH 1 = (17, 0) from rfl) rfl rfl (okar_cons rfl (okar_cons rfl (okar_cons rfl (okar_cons rfl okar_nil)))) (Nat.le_of_ble_eq_true rfl) (q_goto (t := 392) rfl hrr)) ?_
                refine rw_blk lk_L_isAct_392 ?_
                refine rw_of (fun rr hrr => q_istore (Nat.le_of_ble_eq_true rfl) rfl (q_iload rfl hrr)) ?_
                refine rw_if_eq ⟨by omega, by omega⟩ (t := 436) rfl (fun hc38 => ?_) (fun hc38 => ?_)
                · exact absurd hc38 (by decide)
                · skip
                  refine rw_of (fun rr hrr => q_iload rfl hrr) ?_
                  refine rw_if_eq ⟨by omega, by omega⟩ (t := 436) rfl (fun hc39 => ?_) (fun hc39 => ?_)
                  · skip
                    refine rw_blk lk_L_isAct_436 ?_
                    refine rw_of (fun rr hrr => q_iconst hrr) ?_
                    refine rw_blk lk_L_isAct_437 ?_
                    refine rw_of (fun rr hrr => q_istore (Nat.le_of_ble_eq_true rfl) rfl (q_aload_n rfl (q_iconst (q_dup2 rfl rfl (q_lald (j := 0) hgr rfl (by omega) hg0 (q_iload rfl hrr)))))) ?_
                    refine rw_if_eq ⟨by omega, by omega⟩ (t := 452) rfl (fun hc40 => ?_) (fun hc40 => ?_)
                    · skip
                      refine rw_blk lk_L_isAct_452 ?_
                      refine rw_of (fun rr hrr => q_iconst hrr) ?_
                      refine rw_blk lk_L_isAct_453 ?_
                      refine rw_of (fun rr hrr => q_iadd (q_last (j := 0) hgr rfl (by omega) hrr)) ?_
                      generalize hm41 : wI nn gg 0 ((((k : Nat) : Int) + 0)) = e42
                      refine rw_of (fun rr hrr => q_aload_n rfl (q_iconst (q_iload rfl (q_iload rfl (q_iconst (q_iconst (q_iconst hrr))))))) ?_
                      obtain ⟨_, mm43, pp43, K43, _, _, cc43, ss43, hV43, hK43, hKB43, hS43, rfl, hC43, rfl, rfl⟩ := e_loopX (X := X) (K := K) (sh := sh) (nn := e42) (d := d) (by omega) hC37 (s := sy) (by omega) (x := x) (by omega) (by omega)
                      have hKB43 : K43 ≤ K + 1 := hKB43
                      refine rw_of (fun rr hrr => q_invS hV43 rfl rfl (okar_cons rfl (okar_cons rfl (okar_cons rfl (okar_cons rfl (okar_cons rfl (okar_cons rfl (okar_cons rfl okar_nil))))))) (Nat.le_of_ble_eq_true rfl) (q_iload rfl hrr)) ?_
                      refine rw_if_ne ⟨by omega, by omega⟩ (t := 478) rfl (fun hc44 => ?_) (fun hc44 => ?_)
                      · skip
                        refine rw_blk lk_L_isAct_478 ?_
                        refine rw_of (fun rr hrr => q_iload rfl hrr) ?_
                        refine rw_if_ne ⟨by omega, by omega⟩ (t := 489) rfl (fun hc45 => ?_) (fun hc45 => ?_)
                        · exact absurd hc45 (by decide)
                        · skip
                          refine rw_of (fun rr hrr => q_sipush rfl (q_goto (t := 505) rfl hrr)) ?_
                          refine rw_blk lk_L_isAct_505 ?_
                          refine rw_icmp_ne ⟨by omega, by omega⟩ ⟨by omega, by omega⟩ (t := 536) rfl (fun hc46 => ?_) (fun hc46 => ?_)
                          · exfalso; omega
                          · skip
                            refine rw_of (fun rr hrr => q_iload rfl hrr) ?_
                            refine rw_if_eq ⟨by omega, by omega⟩ (t := 532) rfl (fun hc47 => ?_) (fun hc47 => ?_)
                            · skip
                              refine rw_blk lk_L_isAct_532 ?_
                              refine rw_of (fun rr hrr => q_iconst (q_goto (t := 537) rfl hrr)) ?_
                              refine rw_blk lk_L_isAct_537 ?_
                              refine lw_end hQ (q_ireturn (by omega)) (by omega) (by omega) (FrS_tr (by omega) FrS_rfl hS43) ?_
                              exact ⟨rfl, k, cp, ci, N, by omega, (hC43).1, ((show e42 gg 0 = (((k : Nat) : Int) + 0) from (kA hm41)).trans (by omega)), ((kB hm41 (by omega)).trans hg1), ((kB hm41 (by omega)).trans hg2), ⟨PP, fun i hi => (show e42 rp i = nn rp i from congrFun (kN hm41 (by omega)) _).trans (hpp i hi), fun i hi => (hpc i hi).trans (congrFun (hC43).P i).symm⟩, fun i hi => ((show e42 ur i = nn ur i from congrFun (kN hm41 (by omega)) _).trans (huu i hi)).trans (congrArg vF (congrFun (hC43).U i).symm)⟩
                            · exact absurd hc47 (by decide)
                      · exact absurd hc44 (by decide)
                    · exact absurd hc40 (by decide)
                  · exact absurd hc39 (by decide)
            · skip
              refine rw_of (fun rr hrr => q_iload rfl (q_sipush rfl hrr)) ?_
              refine rw_icmp_ge ⟨by omega, by omega⟩ ⟨by omega, by omega⟩ (t := 371) rfl (fun hc48 => ?_) (fun hc48 => ?_)
              · skip
                refine rw_blk lk_L_isAct_371 ?_
                refine rw_of (fun rr hrr => q_iconst hrr) ?_
                refine rw_blk lk_L_isAct_372 ?_
                refine rw_of (fun rr hrr => q_istore (Nat.le_of_ble_eq_true rfl) rfl (q_iload rfl hrr)) ?_
                refine rw_if_eq ⟨by omega, by omega⟩ (t := 391) rfl (fun hc49 => ?_) (fun hc49 => ?_)
                · exact absurd hc49 (by decide)
                · skip
                  refine rw_of (fun rr hrr => q_aload_n rfl (q_iload rfl (q_iconst (q_iconst (q_iconst hrr))))) ?_
                  obtain ⟨_, mm50, pp50, hV50, rfl, hC50⟩ := w_at3 (S := (K, gB X sh nn)) (d := d) (by omega) hC (s := sy) (by omega) (i := 0) (j := 0)
                  refine rw_of (fun rr hrr => q_invV hV50 (show SH 1 = (17, 0) from rfl) rfl rfl (okar_cons rfl (okar_cons rfl (okar_cons rfl (okar_cons rfl okar_nil)))) (Nat.le_of_ble_eq_true rfl) (q_goto (t := 392) rfl hrr)) ?_
                  refine rw_blk lk_L_isAct_392 ?_
                  refine rw_of (fun rr hrr => q_istore (Nat.le_of_ble_eq_true rfl) rfl (q_iload rfl hrr)) ?_
                  refine rw_if_eq ⟨by omega, by omega⟩ (t := 436) rfl (fun hc51 => ?_) (fun hc51 => ?_)
                  · exact absurd hc51 (by decide)
                  · skip
                    refine rw_of (fun rr hrr => q_iload rfl hrr) ?_
                    refine rw_if_eq ⟨by omega, by omega⟩ (t := 436) rfl (fun hc52 => ?_) (fun hc52 => ?_)
                    · skip
                      refine rw_blk lk_L_isAct_436 ?_
                      refine rw_of (fun rr hrr => q_iconst hrr) ?_
                      refine rw_blk lk_L_isAct_437 ?_
                      refine rw_of (fun rr hrr => q_istore (Nat.le_of_ble_eq_true rfl) rfl (q_aload_n rfl (q_iconst (q_dup2 rfl rfl (q_lald (j := 0) hgr rfl (by omega) hg0 (q_iload rfl hrr)))))) ?_
                      refine rw_if_eq ⟨by omega, by omega⟩ (t := 452) rfl (fun hc53 => ?_) (fun hc53 => ?_)
                      · skip
                        refine rw_blk lk_L_isAct_452 ?_
                        refine rw_of (fun rr hrr => q_iconst hrr) ?_
                        refine rw_blk lk_L_isAct_453 ?_
                        refine rw_of (fun rr hrr => q_iadd (q_last (j := 0) hgr rfl (by omega) hrr)) ?_
                        generalize hm54 : wI nn gg 0 ((((k : Nat) : Int) + 0)) = e55
                        refine rw_of (fun rr hrr => q_aload_n rfl (q_iconst (q_iload rfl (q_iload rfl (q_iconst (q_iconst (q_iconst hrr))))))) ?_
                        obtain ⟨_, mm56, pp56, K56, _, _, cc56, ss56, hV56, hK56, hKB56, hS56, rfl, hC56, rfl, rfl⟩ := e_loopX (X := X) (K := K) (sh := sh) (nn := e55) (d := d) (by omega) hC50 (s := sy) (by omega) (x := x) (by omega) (by omega)
                        have hKB56 : K56 ≤ K + 1 := hKB56
                        refine rw_of (fun rr hrr => q_invS hV56 rfl rfl (okar_cons rfl (okar_cons rfl (okar_cons rfl (okar_cons rfl (okar_cons rfl (okar_cons rfl (okar_cons rfl okar_nil))))))) (Nat.le_of_ble_eq_true rfl) (q_iload rfl hrr)) ?_
                        refine rw_if_ne ⟨by omega, by omega⟩ (t := 478) rfl (fun hc57 => ?_) (fun hc57 => ?_)
                        · skip
                          refine rw_blk lk_L_isAct_478 ?_
                          refine rw_of (fun rr hrr => q_iload rfl hrr) ?_
                          refine rw_if_ne ⟨by omega, by omega⟩ (t := 489) rfl (fun hc58 => ?_) (fun hc58 => ?_)
                          · exact absurd hc58 (by decide)
                          · skip
                            refine rw_of (fun rr hrr => q_sipush rfl (q_goto (t := 505) rfl hrr)) ?_
                            refine rw_blk lk_L_isAct_505 ?_
                            refine rw_icmp_ne ⟨by omega, by omega⟩ ⟨by omega, by omega⟩ (t := 536) rfl (fun hc59 => ?_) (fun hc59 => ?_)
                            · exfalso; omega
                            · skip
                              refine rw_of (fun rr hrr => q_iload rfl hrr) ?_
                              refine rw_if_eq ⟨by omega, by omega⟩ (t := 532) rfl (fun hc60 => ?_) (fun hc60 => ?_)
                              · skip
                                refine rw_blk lk_L_isAct_532 ?_
                                refine rw_of (fun rr hrr => q_iconst (q_goto (t := 537) rfl hrr)) ?_
                                refine rw_blk lk_L_isAct_537 ?_
                                refine lw_end hQ (q_ireturn (by omega)) (by omega) (by omega) (FrS_tr (by omega) FrS_rfl hS56) ?_
                                exact ⟨rfl, k, cp, ci, N, by omega, (hC56).1, ((show e55 gg 0 = (((k : Nat) : Int) + 0) from (kA hm54)).trans (by omega)), ((kB hm54 (by omega)).trans hg1), ((kB hm54 (by omega)).trans hg2), ⟨PP, fun i hi => (show e55 rp i = nn rp i from congrFun (kN hm54 (by omega)) _).trans (hpp i hi), fun i hi => (hpc i hi).trans (congrFun (hC56).P i).symm⟩, fun i hi => ((show e55 ur i = nn ur i from congrFun (kN hm54 (by omega)) _).trans (huu i hi)).trans (congrArg vF (congrFun (hC56).U i).symm)⟩
                              · exact absurd hc60 (by decide)
                        · exact absurd hc57 (by decide)
                      · exact absurd hc53 (by decide)
                    · exact absurd hc52 (by decide)
              · skip
                refine rw_of (fun rr hrr => q_iconst (q_goto (t := 372) rfl hrr)) ?_
                refine rw_blk lk_L_isAct_372 ?_
                refine rw_of (fun rr hrr => q_istore (Nat.le_of_ble_eq_true rfl) rfl (q_iload rfl hrr)) ?_
                refine rw_if_eq ⟨by omega, by omega⟩ (t := 391) rfl (fun hc61 => ?_) (fun hc61 => ?_)
                · exact absurd hc61 (by decide)
                · skip
                  refine rw_of (fun rr hrr => q_aload_n rfl (q_iload rfl (q_iconst (q_iconst (q_iconst hrr))))) ?_
                  obtain ⟨_, mm62, pp62, hV62, rfl, hC62⟩ := w_at3 (S := (K, gB X sh nn)) (d := d) (by omega) hC (s := sy) (by omega) (i := 0) (j := 0)
                  refine rw_of (fun rr hrr => q_invV hV62 (show SH 1 = (17, 0) from rfl) rfl rfl (okar_cons rfl (okar_cons rfl (okar_cons rfl (okar_cons rfl okar_nil)))) (Nat.le_of_ble_eq_true rfl) (q_goto (t := 392) rfl hrr)) ?_
                  refine rw_blk lk_L_isAct_392 ?_
                  refine rw_of (fun rr hrr => q_istore (Nat.le_of_ble_eq_true rfl) rfl (q_iload rfl hrr)) ?_
                  refine rw_if_eq ⟨by omega, by omega⟩ (t := 436) rfl (fun hc63 => ?_) (fun hc63 => ?_)
                  · exact absurd hc63 (by decide)
                  · skip
                    refine rw_of (fun rr hrr => q_iload rfl hrr) ?_
                    refine rw_if_eq ⟨by omega, by omega⟩ (t := 436) rfl (fun hc64 => ?_) (fun hc64 => ?_)
                    · exact absurd hc64 (by decide)
                    · skip
                      refine rw_of (fun rr hrr => q_iconst (q_iload rfl hrr)) ?_
                      obtain ⟨_, _, _, hV65, rfl, rfl, rfl⟩ := c_L_rest (S := (K, gB X sh nn)) (fz := false) (m := mm62) (p := pp62) (d := d) (by omega) (x) ((toF x)) ⟨by omega, by omega⟩ (by simp only [toF_add, toF_mul, toF_sub, toF_neg, toF_vF, toF_nat, toF_0, toF_1, toF_M, F_add0, F_0sub])
                      refine rw_of (fun rr hrr => q_invS hV65 rfl rfl (okar_cons rfl okar_nil) (Nat.le_of_ble_eq_true rfl) (q_iload rfl (q_imul (q_sipush rfl (q_irem (rg_times _ _) ⟨by omega, by omega⟩ (by omega) (remF (Int.mul_nonneg (vF_ge _) (vF_ge _)) (show toF ((vF ((toF x)) * vF (Sd m sy))) = (((toF x)) * (Sd m sy)) by simp only [toF_add, toF_mul, toF_sub, toF_neg, toF_vF, toF_nat, toF_0, toF_1, toF_M, F_add0, F_0sub])) (q_iadd hrr)))))) ?_
                      obtain ⟨_, _, _, hV66, rfl, rfl, rfl⟩ := c_L_rest (S := (K, gB X sh nn)) (fz := false) (m := mm62) (p := pp62) (d := d) (by omega) ((1 + vF ((((toF x)) * (Sd m sy))))) ((1 + ((((toF x)) * (Sd m sy))))) ⟨by have := vF_ge ((((toF x)) * (Sd m sy))); have := vF_lt ((((toF x)) * (Sd m sy))); omega, by have := vF_ge ((((toF x)) * (Sd m sy))); have := vF_lt ((((toF x)) * (Sd m sy))); omega⟩ (by simp only [toF_add, toF_mul, toF_sub, toF_neg, toF_vF, toF_nat, toF_0, toF_1, toF_M, F_add0, F_0sub])
                      refine rw_of (fun rr hrr => q_invS hV66 rfl rfl (okar_cons rfl okar_nil) (Nat.le_of_ble_eq_true rfl) hrr) ?_
                      refine rw_if_le (rg_vF _) (t := 436) rfl (fun hc67 => ?_) (fun hc67 => ?_)
                      · skip
                        have hz9 : 1 + toF x * Sd m sy = 0 := vF_eq0.mp (by have := vF_ge (1 + toF x * Sd m sy); omega)
                        refine rw_blk lk_L_isAct_436 ?_
                        refine rw_of (fun rr hrr => q_iconst hrr) ?_
                        refine rw_blk lk_L_isAct_437 ?_
                        refine rw_of (fun rr hrr => q_istore (Nat.le_of_ble_eq_true rfl) rfl (q_aload_n rfl (q_iconst (q_dup2 rfl rfl (q_lald (j := 0) hgr rfl (by omega) hg0 (q_iload rfl hrr)))))) ?_
                        refine rw_if_eq ⟨by omega, by omega⟩ (t := 452) rfl (fun hc68 => ?_) (fun hc68 => ?_)
                        · skip
                          refine rw_blk lk_L_isAct_452 ?_
                          refine rw_of (fun rr hrr => q_iconst hrr) ?_
                          refine rw_blk lk_L_isAct_453 ?_
                          refine rw_of (fun rr hrr => q_iadd (q_last (j := 0) hgr rfl (by omega) hrr)) ?_
                          generalize hm69 : wI nn gg 0 ((((k : Nat) : Int) + 0)) = e70
                          refine rw_of (fun rr hrr => q_aload_n rfl (q_iconst (q_iload rfl (q_iload rfl (q_iconst (q_iconst (q_iconst hrr))))))) ?_
                          obtain ⟨_, mm71, pp71, K71, _, _, cc71, ss71, hV71, hK71, hKB71, hS71, rfl, hC71, rfl, rfl⟩ := e_loopN (X := X) (K := K) (sh := sh) (nn := e70) (d := d) (by omega) hC62 (s := sy) (by omega) (x := x) ⟨by omega, by omega⟩ (fun e => e.1 hz9)
                          have hKB71 : K71 ≤ K + 1 := hKB71
                          refine rw_of (fun rr hrr => q_invS hV71 rfl rfl (okar_cons rfl (okar_cons rfl (okar_cons rfl (okar_cons rfl (okar_cons rfl (okar_cons rfl (okar_cons rfl okar_nil))))))) (Nat.le_of_ble_eq_true rfl) (q_iload rfl hrr)) ?_
                          refine rw_if_ne ⟨by omega, by omega⟩ (t := 478) rfl (fun hc72 => ?_) (fun hc72 => ?_)
                          · skip
                            refine rw_blk lk_L_isAct_478 ?_
                            refine rw_of (fun rr hrr => q_iload rfl hrr) ?_
                            refine rw_if_ne ⟨by omega, by omega⟩ (t := 489) rfl (fun hc73 => ?_) (fun hc73 => ?_)
                            · skip
                              refine rw_blk lk_L_isAct_489 ?_
                              refine rw_of (fun rr hrr => q_iload rfl hrr) ?_
                              refine rw_if_eq ⟨by omega, by omega⟩ (t := 502) rfl (fun hc74 => ?_) (fun hc74 => ?_)
                              · skip
                                refine rw_blk lk_L_isAct_502 ?_
                                refine rw_of (fun rr hrr => q_sipush rfl hrr) ?_
                                refine rw_blk lk_L_isAct_505 ?_
                                refine rw_icmp_ne ⟨by omega, by omega⟩ ⟨by omega, by omega⟩ (t := 536) rfl (fun hc75 => ?_) (fun hc75 => ?_)
                                · exfalso; omega
                                · skip
                                  refine rw_of (fun rr hrr => q_iload rfl hrr) ?_
                                  refine rw_if_eq ⟨by omega, by omega⟩ (t := 532) rfl (fun hc76 => ?_) (fun hc76 => ?_)
                                  · skip
                                    refine rw_blk lk_L_isAct_532 ?_
                                    refine rw_of (fun rr hrr => q_iconst (q_goto (t := 537) rfl hrr)) ?_
                                    refine rw_blk lk_L_isAct_537 ?_
                                    refine lw_end hQ (q_ireturn (by omega)) (by omega) (by omega) (FrS_tr (by omega) FrS_rfl hS71) ?_
                                    exact ⟨rfl, k, cp, ci, N, by omega, (hC71).1, ((show e70 gg 0 = (((k : Nat) : Int) + 0) from (kA hm69)).trans (by omega)), ((kB hm69 (by omega)).trans hg1), ((kB hm69 (by omega)).trans hg2), ⟨PP, fun i hi => (show e70 rp i = nn rp i from congrFun (kN hm69 (by omega)) _).trans (hpp i hi), fun i hi => (hpc i hi).trans (congrFun (hC71).P i).symm⟩, fun i hi => ((show e70 ur i = nn ur i from congrFun (kN hm69 (by omega)) _).trans (huu i hi)).trans (congrArg vF (congrFun (hC71).U i).symm)⟩
                                  · exact absurd hc76 (by decide)
                              · exact absurd hc74 (by decide)
                            · exact absurd hc73 (by decide)
                          · exact absurd hc72 (by decide)
                        · exact absurd hc68 (by decide)
                      · skip
                        have hz9 : 1 + toF x * Sd m sy ≠ 0 := fun e => by have := vF_eq0.mpr e; omega
                        refine rw_of (fun rr hrr => q_aload_n rfl (q_iconst (q_lald (j := 0) hgr rfl (by omega) hg0 (q_bipush rfl hrr)))) ?_
                        refine rw_icmp_ge ⟨by omega, by omega⟩ ⟨by omega, by omega⟩ (t := 436) rfl (fun hc77 => ?_) (fun hc77 => ?_)
                        · skip
                          refine rw_blk lk_L_isAct_436 ?_
                          refine rw_of (fun rr hrr => q_iconst hrr) ?_
                          refine rw_blk lk_L_isAct_437 ?_
                          refine rw_of (fun rr hrr => q_istore (Nat.le_of_ble_eq_true rfl) rfl (q_aload_n rfl (q_iconst (q_dup2 rfl rfl (q_lald (j := 0) hgr rfl (by omega) hg0 (q_iload rfl hrr)))))) ?_
                          refine rw_if_eq ⟨by omega, by omega⟩ (t := 452) rfl (fun hc78 => ?_) (fun hc78 => ?_)
                          · skip
                            refine rw_blk lk_L_isAct_452 ?_
                            refine rw_of (fun rr hrr => q_iconst hrr) ?_
                            refine rw_blk lk_L_isAct_453 ?_
                            refine rw_of (fun rr hrr => q_iadd (q_last (j := 0) hgr rfl (by omega) hrr)) ?_
                            generalize hm79 : wI nn gg 0 ((((k : Nat) : Int) + 0)) = e80
                            refine rw_of (fun rr hrr => q_aload_n rfl (q_iconst (q_iload rfl (q_iload rfl (q_iconst (q_iconst (q_iconst hrr))))))) ?_
                            obtain ⟨_, mm81, pp81, K81, _, _, cc81, ss81, hV81, hK81, hKB81, hS81, rfl, hC81, rfl, rfl⟩ := e_loopN (X := X) (K := K) (sh := sh) (nn := e80) (d := d) (by omega) hC62 (s := sy) (by omega) (x := x) ⟨by omega, by omega⟩ (fun e => absurd e.2 (by omega))
                            have hKB81 : K81 ≤ K + 1 := hKB81
                            refine rw_of (fun rr hrr => q_invS hV81 rfl rfl (okar_cons rfl (okar_cons rfl (okar_cons rfl (okar_cons rfl (okar_cons rfl (okar_cons rfl (okar_cons rfl okar_nil))))))) (Nat.le_of_ble_eq_true rfl) (q_iload rfl hrr)) ?_
                            refine rw_if_ne ⟨by omega, by omega⟩ (t := 478) rfl (fun hc82 => ?_) (fun hc82 => ?_)
                            · skip
                              refine rw_blk lk_L_isAct_478 ?_
                              refine rw_of (fun rr hrr => q_iload rfl hrr) ?_
                              refine rw_if_ne ⟨by omega, by omega⟩ (t := 489) rfl (fun hc83 => ?_) (fun hc83 => ?_)
                              · skip
                                refine rw_blk lk_L_isAct_489 ?_
                                refine rw_of (fun rr hrr => q_iload rfl hrr) ?_
                                refine rw_if_eq ⟨by omega, by omega⟩ (t := 502) rfl (fun hc84 => ?_) (fun hc84 => ?_)
                                · skip
                                  refine rw_blk lk_L_isAct_502 ?_
                                  refine rw_of (fun rr hrr => q_sipush rfl hrr) ?_
                                  refine rw_blk lk_L_isAct_505 ?_
                                  refine rw_icmp_ne ⟨by omega, by omega⟩ ⟨by omega, by omega⟩ (t := 536) rfl (fun hc85 => ?_) (fun hc85 => ?_)
                                  · exfalso; omega
                                  · skip
                                    refine rw_of (fun rr hrr => q_iload rfl hrr) ?_
                                    refine rw_if_eq ⟨by omega, by omega⟩ (t := 532) rfl (fun hc86 => ?_) (fun hc86 => ?_)
                                    · skip
                                      refine rw_blk lk_L_isAct_532 ?_
                                      refine rw_of (fun rr hrr => q_iconst (q_goto (t := 537) rfl hrr)) ?_
                                      refine rw_blk lk_L_isAct_537 ?_
                                      refine lw_end hQ (q_ireturn (by omega)) (by omega) (by omega) (FrS_tr (by omega) FrS_rfl hS81) ?_
                                      exact ⟨rfl, k, cp, ci, N, by omega, (hC81).1, ((show e80 gg 0 = (((k : Nat) : Int) + 0) from (kA hm79)).trans (by omega)), ((kB hm79 (by omega)).trans hg1), ((kB hm79 (by omega)).trans hg2), ⟨PP, fun i hi => (show e80 rp i = nn rp i from congrFun (kN hm79 (by omega)) _).trans (hpp i hi), fun i hi => (hpc i hi).trans (congrFun (hC81).P i).symm⟩, fun i hi => ((show e80 ur i = nn ur i from congrFun (kN hm79 (by omega)) _).trans (huu i hi)).trans (congrArg vF (congrFun (hC81).U i).symm)⟩
                                    · exact absurd hc86 (by decide)
                                · exact absurd hc84 (by decide)
                              · exact absurd hc83 (by decide)
                            · exact absurd hc82 (by decide)
                          · exact absurd hc78 (by decide)
                        · skip
                          refine rw_of (fun rr hrr => q_iconst (q_goto (t := 437) rfl hrr)) ?_
                          refine rw_blk lk_L_isAct_437 ?_
                          refine rw_of (fun rr hrr => q_istore (Nat.le_of_ble_eq_true rfl) rfl (q_aload_n rfl (q_iconst (q_dup2 rfl rfl (q_lald (j := 0) hgr rfl (by omega) hg0 (q_iload rfl hrr)))))) ?_
                          refine rw_if_eq ⟨by omega, by omega⟩ (t := 452) rfl (fun hc87 => ?_) (fun hc87 => ?_)
                          · exact absurd hc87 (by decide)
                          · skip
                            refine rw_of (fun rr hrr => q_iconst (q_goto (t := 453) rfl hrr)) ?_
                            refine rw_blk lk_L_isAct_453 ?_
                            refine rw_of (fun rr hrr => q_iadd (q_last (j := 0) hgr rfl (by omega) hrr)) ?_
                            generalize hm88 : wI nn gg 0 ((((k : Nat) : Int) + 1)) = e89
                            refine rw_of (fun rr hrr => q_aload_n rfl (q_iconst (q_iload rfl (q_iload rfl (q_iconst (q_iconst (q_iconst hrr))))))) ?_
                            obtain ⟨_, mm90, pp90, K90, _, _, cc90, ss90, hV90, hK90, hKB90, hS90, rfl, ⟨⟨hC90, hN90⟩, q190, q290, q390, q490, q590⟩, rfl, rfl⟩ := e_loop (X := X) (K := K) (sh := sh) (nn := e89) (d := d) (by omega) hC62 (s := sy) (by omega) (x := x) ⟨by omega, by omega⟩ hz9 (by omega)
                            have hKB90 : K90 ≤ K + 1 := hKB90
                            refine rw_of (fun rr hrr => q_invS hV90 rfl rfl (okar_cons rfl (okar_cons rfl (okar_cons rfl (okar_cons rfl (okar_cons rfl (okar_cons rfl (okar_cons rfl okar_nil))))))) (Nat.le_of_ble_eq_true rfl) (q_iload rfl hrr)) ?_
                            refine rw_if_ne ⟨by omega, by omega⟩ (t := 478) rfl (fun hc91 => ?_) (fun hc91 => ?_)
                            · skip
                              refine rw_blk lk_L_isAct_478 ?_
                              refine rw_of (fun rr hrr => q_iload rfl hrr) ?_
                              refine rw_if_ne ⟨by omega, by omega⟩ (t := 489) rfl (fun hc92 => ?_) (fun hc92 => ?_)
                              · skip
                                refine rw_blk lk_L_isAct_489 ?_
                                refine rw_of (fun rr hrr => q_iload rfl hrr) ?_
                                refine rw_if_eq ⟨by omega, by omega⟩ (t := 502) rfl (fun hc93 => ?_) (fun hc93 => ?_)
                                · exact absurd hc93 (by decide)
                                · skip
                                  refine rw_of (fun rr hrr => q_aload_n rfl (q_iconst (q_lald (j := 0) (Ro_call hK90 hS90 hgr) rfl (by omega) (kA hm88) (q_iconst (q_isub (q_goto (t := 505) rfl hrr)))))) ?_
                                  refine rw_blk lk_L_isAct_505 ?_
                                  refine rw_icmp_ne ⟨by omega, by omega⟩ ⟨by omega, by omega⟩ (t := 536) rfl (fun hc94 => ?_) (fun hc94 => ?_)
                                  · exfalso; omega
                                  · skip
                                    refine rw_of (fun rr hrr => q_iload rfl hrr) ?_
                                    refine rw_if_eq ⟨by omega, by omega⟩ (t := 532) rfl (fun hc95 => ?_) (fun hc95 => ?_)
                                    · exact absurd hc95 (by decide)
                                    · skip
                                      refine rw_of (fun rr hrr => q_aload_n rfl (q_aload_n rfl (q_iconst (q_lald (j := 0) (Ro_call hK90 hS90 hgr) rfl (by omega) (kA hm88) (q_iconst (q_isub (q_eqv (show (((((k : Nat) : Int) + 1) - 1) : Int) = ((k : Nat) : Int) from by omega) (q_iload rfl (q_iload rfl (q_iconst (q_iload rfl hrr))))))))))) ?_
                                      obtain ⟨_, mm96, pp96, K96, sh96, e96, cc96, ss96, hV96, hK96, hKB96, hS96, rfl, hC96, hF96⟩ := c_L_isMade2 (X := X) (m := mm90) (p := pp90) (K := K90) (sh := sh) (nn := e89) (d := d) (by omega) (by omega) k sy sy x (k + 1) cp ci (upN N k (N sy)) hC90 (Nat.lt_succ_self k) (by omega) (by omega) ⟨by omega, by omega⟩ q190 q290 q390 q490 q590
                                      have hKB96 : K96 ≤ K90 + 6 := hKB96
                                      refine rw_of (fun rr hrr => q_invS hV96 rfl rfl (okar_cons rfl (okar_cons rfl (okar_cons rfl (okar_cons rfl (okar_cons rfl (okar_cons rfl okar_nil)))))) (Nat.le_of_ble_eq_true rfl) hrr) ?_
                                      refine rw_if_eq ⟨by omega, by omega⟩ (t := 536) rfl (fun hc97 => ?_) (fun hc97 => ?_)
                                      · exact absurd hc97 (by decide)
                                      · skip
                                        refine rw_blk lk_L_isAct_532 ?_
                                        refine rw_of (fun rr hrr => q_iconst (q_goto (t := 537) rfl hrr)) ?_
                                        refine rw_blk lk_L_isAct_537 ?_
                                        refine lw_end hQ (q_ireturn (by omega)) (by omega) (by omega) (FrS_tr (by omega) (FrS_tr (by omega) FrS_rfl hS90) hS96) ?_
                                        exact ⟨rfl, k + 1, cp, ci, upN N k (N sy), by omega, (hC96).1, ((show e96 gg 0 = (((k : Nat) : Int) + 1) from ((congrFun (hF96 gg (by show ¬ (K90 < gg); omega)) _).trans (kA hm88))).trans (by omega)), (((congrFun (hF96 gg (by show ¬ (K90 < gg); omega)) _).trans (kB hm88 (by omega))).trans hg1), (((congrFun (hF96 gg (by show ¬ (K90 < gg); omega)) _).trans (kB hm88 (by omega))).trans hg2), ⟨PP, fun i hi => (show e96 rp i = nn rp i from congrFun ((hF96 rp (by show ¬ (K90 < rp); omega)).trans (kN hm88 (by omega))) _).trans (hpp i hi), fun i hi => (hpc i hi).trans (congrFun ((hC96).P.trans hN90.P) i).symm⟩, fun i hi => ((show e96 ur i = nn ur i from congrFun ((hF96 ur (by show ¬ (K90 < ur); omega)).trans (kN hm88 (by omega))) _).trans (huu i hi)).trans (congrArg vF (congrFun ((hC96).U.trans hN90.U) i).symm)⟩
                              · exact absurd hc92 (by decide)
                            · exact absurd hc91 (by decide)
    · exact absurd hc2 (by decide)
  · exact absurd hc1 (by decide)
theorem c_L_isAct4 {d : Nat} {X : MC} {m : M1} {p : M2} {K : Nat} {sh : Nat → Nat} {nn : N2} (hd : 11 ≤ d) (hK : 260 ≤ K) (rp ur gg one two : Nat) (k cp ci : Nat) (N : Nat → Nat) (hC0 : CI k N cp ci m p) (hpr : Ro K sh rp 32) (hur : Ro K sh ur 20) (hgr : Ro K sh gg 3) (hrg : rp ≠ gg) (hug : ur ≠ gg) (hru : rp ≠ ur) (hLR : LR rp ur gg k cp ci m nn) (h1 : one < 60000) (h2 : two < 60000) (hk1 : 1 ≤ k) : Lc d k_L_isAct X [.ref (1), .ref (rp), .ref (ur), .ref (gg), .int (iI (4)), .int (iI (((one : Nat) : Int))), .int (iI (((two : Nat) : Int)))] m p K sh nn (fun v m' p' K' sh' n' => v = some (.int (iI 1)) ∧ ∃ k' cp' ci', ∃ N' : Nat → Nat, k ≤ k' ∧ CI k' N' cp' ci' m' p' ∧ LR rp ur gg k' cp' ci' m' n') := by
  obtain ⟨d, rfl⟩ : ∃ e, d = e + 1 := ⟨d - 1, by omega⟩
  have hpr8 := hpr.1; have hpr9 := hpr.2.1
  have hur8 := hur.1; have hur9 := hur.2.1
  have hgr8 := hgr.1; have hgr9 := hgr.2.1
  have hC := CS_rf hC0
  have hk12 := hC.k12
  have hcp16 := hC.p16
  have hci20 := hC.i20
  obtain ⟨hg0, hg1, hg2, ⟨PP, hpp, hpc⟩, huu⟩ := hLR
  obtain ⟨sy, hsy0⟩ : ∃ z, z = one % (k + 1) := ⟨_, rfl⟩
  obtain ⟨ot, hot0⟩ : ∃ z, z = two % (k + 1) := ⟨_, rfl⟩
  have hsy : sy ≤ k := by rw [hsy0]; exact Nat.le_of_lt_succ (Nat.mod_lt _ (Nat.succ_pos _))
  have hot : ot ≤ k := by rw [hot0]; exact Nat.le_of_lt_succ (Nat.mod_lt _ (Nat.succ_pos _))
  refine lc_go (lv := [some (.ref (1)), some (.ref (rp)), some (.ref (ur)), some (.ref (gg)), some (.int (iI (4))), some (.int (iI (((one : Nat) : Int)))), some (.int (iI (((two : Nat) : Int)))), none, none, none, none, none, none, none, none, none, none]) (B := 7) (Nat.le_of_ble_eq_true rfl) (okar_cons rfl (okar_cons rfl (okar_cons rfl (okar_cons rfl (okar_cons rfl (okar_cons rfl (okar_cons rfl okar_nil))))))) rfl rfl (fun Qr hQ => ?_)
  refine rw_blk lk_L_isAct_0 ?_
  refine rw_of (fun rr hrr => q_iload rfl (q_aload_n rfl (q_iconst (q_lald (j := 0) hgr rfl (by omega) hg0 (q_iconst (q_iadd (q_irem ⟨by omega, by omega⟩ ⟨by omega, by omega⟩ (by omega) (show (((one : Nat) : Int)).tmod ((((k : Nat) : Int) + 1)) = ((sy : Nat) : Int) from by rw [hsy0]; rfl) (q_istore (Nat.le_of_ble_eq_true rfl) rfl (q_iload rfl (q_aload_n rfl (q_iconst (q_lald (j := 0) hgr rfl (by omega) hg0 (q_iconst (q_iadd (q_irem ⟨by omega, by omega⟩ ⟨by omega, by omega⟩ (by omega) (show (((two : Nat) : Int)).tmod ((((k : Nat) : Int) + 1)) = ((ot : Nat) : Int) from by rw [hot0]; rfl) (q_istore (Nat.le_of_ble_eq_true rfl) rfl (q_iload rfl hrr))))))))))))))))) ?_
  refine rw_if_ne ⟨by omega, by omega⟩ (t := 133) rfl (fun hc1 => ?_) (fun hc1 => ?_)
  · skip
    refine rw_blk lk_L_isAct_133 ?_
    refine rw_of (fun rr hrr => q_iload rfl (q_iconst hrr)) ?_
    refine rw_icmp_ge ⟨by omega, by omega⟩ ⟨by omega, by omega⟩ (t := 312) rfl (fun hc2 => ?_) (fun hc2 => ?_)
    · skip
      refine rw_blk lk_L_isAct_312 ?_
      refine rw_of (fun rr hrr => q_iload rfl (q_iconst hrr)) ?_
      refine rw_icmp_ne ⟨by omega, by omega⟩ ⟨by omega, by omega⟩ (t := 538) rfl (fun hc3 => ?_) (fun hc3 => ?_)
      · skip
        refine rw_blk lk_L_isAct_538 ?_
        refine rw_of (fun rr hrr => q_iload rfl (q_bipush rfl hrr)) ?_
        refine rw_icmp_ge ⟨by omega, by omega⟩ ⟨by omega, by omega⟩ (t := 763) rfl (fun hc4 => ?_) (fun hc4 => ?_)
        · exact absurd hc4 (by decide)
        · skip
          refine rw_of (fun rr hrr => q_iload rfl (q_iconst hrr)) ?_
          refine rw_icmp_ne ⟨by omega, by omega⟩ ⟨by omega, by omega⟩ (t := 555) rfl (fun hc5 => ?_) (fun hc5 => ?_)
          · exact absurd hc5 (by decide)
          · skip
            refine rw_of (fun rr hrr => q_iconst (q_goto (t := 556) rfl hrr)) ?_
            refine rw_blk lk_L_isAct_556 ?_
            refine rw_of (fun rr hrr => q_istore (Nat.le_of_ble_eq_true rfl) rfl (q_iload rfl hrr)) ?_
            refine rw_if_eq ⟨by omega, by omega⟩ (t := 567) rfl (fun hc6 => ?_) (fun hc6 => ?_)
            · exact absurd hc6 (by decide)
            · skip
              refine rw_of (fun rr hrr => q_iconst (q_goto (t := 568) rfl hrr)) ?_
              refine rw_blk lk_L_isAct_568 ?_
              refine rw_of (fun rr hrr => q_istore (Nat.le_of_ble_eq_true rfl) rfl (q_iload rfl (q_iconst (q_irem ⟨by omega, by omega⟩ ⟨by omega, by omega⟩ (by omega) (show (((one : Nat) : Int)).tmod (4) = ((one % 4 : Nat) : Int) by rfl) hrr)))) ?_
              have hL597 : ∀ (cc ss : Nat) (x : Int), ((-10007 ≤ x ∧ x ≤ 10007)) → Rw (Ev d) k_L_isAct (597, [], [some (.ref (1)), some (.ref (rp)), some (.ref (ur)), some (.ref (gg)), some (.int (iI (4))), some (.int (iI (((one : Nat) : Int)))), some (.int (iI (((two : Nat) : Int)))), some (.int (iI (((sy : Nat) : Int)))), some (.int (iI (((ot : Nat) : Int)))), some (.int (iI (1))), some (.int (iI (1))), none, none, none, none, none, none], [.int (iI (x))], hB X m p K sh nn, cc, ss) Qr := by
                intro cc ss x
                intro hI
                have hx := hI
                refine rw_blk lk_L_isAct_597 ?_
                refine rw_of (fun rr hrr => q_istore (Nat.le_of_ble_eq_true rfl) rfl (q_iload rfl (q_sipush rfl hrr))) ?_
                refine rw_icmp_le ⟨by omega, by omega⟩ ⟨by omega, by omega⟩ (t := 619) rfl (fun hc7 => ?_) (fun hc7 => ?_)
                · skip
                  refine rw_blk lk_L_isAct_619 ?_
                  refine rw_of (fun rr hrr => q_iconst hrr) ?_
                  refine rw_blk lk_L_isAct_620 ?_
                  refine rw_of (fun rr hrr => q_istore (Nat.le_of_ble_eq_true rfl) rfl (q_iload rfl hrr)) ?_
                  refine rw_if_eq ⟨by omega, by omega⟩ (t := 650) rfl (fun hc8 => ?_) (fun hc8 => ?_)
                  · skip
                    refine rw_blk lk_L_isAct_650 ?_
                    refine rw_of (fun rr hrr => q_iconst hrr) ?_
                    refine rw_blk lk_L_isAct_651 ?_
                    refine rw_of (fun rr hrr => q_istore (Nat.le_of_ble_eq_true rfl) rfl (q_iload rfl hrr)) ?_
                    refine rw_if_eq ⟨by omega, by omega⟩ (t := 676) rfl (fun hc9 => ?_) (fun hc9 => ?_)
                    · skip
                      refine rw_blk lk_L_isAct_676 ?_
                      refine rw_of (fun rr hrr => q_iload rfl hrr) ?_
                      refine rw_if_eq ⟨by omega, by omega⟩ (t := 691) rfl (fun hc10 => ?_) (fun hc10 => ?_)
                      · skip
                        refine rw_blk lk_L_isAct_691 ?_
                        refine rw_of (fun rr hrr => q_aload_n rfl (q_iload rfl (q_dup2 rfl rfl (q_lald (j := 1) hgr rfl (by omega) hg1 (q_iload rfl hrr))))) ?_
                        refine rw_if_eq ⟨by omega, by omega⟩ (t := 705) rfl (fun hc11 => ?_) (fun hc11 => ?_)
                        · skip
                          refine rw_blk lk_L_isAct_705 ?_
                          refine rw_of (fun rr hrr => q_iconst hrr) ?_
                          refine rw_blk lk_L_isAct_706 ?_
                          refine rw_of (fun rr hrr => q_iadd (q_last (j := 1) hgr rfl (by omega) hrr)) ?_
                          generalize hm12 : wI nn gg 1 ((((cp : Nat) : Int) + 0)) = e13
                          refine rw_of (fun rr hrr => q_aload_n rfl (q_iload rfl hrr)) ?_
                          refine rw_if_eq ⟨by omega, by omega⟩ (t := 718) rfl (fun hc14 => ?_) (fun hc14 => ?_)
                          · exact absurd hc14 (by decide)
                          · skip
                            refine rw_of (fun rr hrr => q_iconst (q_goto (t := 719) rfl hrr)) ?_
                            refine rw_blk lk_L_isAct_719 ?_
                            refine rw_of (fun rr hrr => q_iload rfl (q_iconst (q_iconst (q_iconst (q_iconst hrr))))) ?_
                            obtain ⟨_, mm15, pp15, K15, _, _, cc15, ss15, hV15, hK15, hKB15, hS15, rfl, hC15, rfl, rfl⟩ := e_poleX (X := X) (K := K) (sh := sh) (nn := e13) (d := d) (by omega) hC (x := x) (by omega) (by omega)
                            have hKB15 : K15 ≤ K + 1 := hKB15
                            refine rw_of (fun rr hrr => q_invS hV15 rfl rfl (okar_cons rfl (okar_cons rfl (okar_cons rfl (okar_cons rfl (okar_cons rfl (okar_cons rfl (okar_cons rfl okar_nil))))))) (Nat.le_of_ble_eq_true rfl) (q_iload rfl hrr)) ?_
                            refine rw_if_ne ⟨by omega, by omega⟩ (t := 739) rfl (fun hc16 => ?_) (fun hc16 => ?_)
                            · exact absurd hc16 (by decide)
                            · skip
                              refine rw_of (fun rr hrr => q_sipush rfl (q_goto (t := 754) rfl hrr)) ?_
                              refine rw_blk lk_L_isAct_754 ?_
                              refine rw_icmp_ne ⟨by omega, by omega⟩ ⟨by omega, by omega⟩ (t := 761) rfl (fun hc17 => ?_) (fun hc17 => ?_)
                              · exfalso; omega
                              · skip
                                refine rw_of (fun rr hrr => q_iconst (q_goto (t := 762) rfl hrr)) ?_
                                refine rw_blk lk_L_isAct_762 ?_
                                refine lw_end hQ (q_ireturn (by omega)) (by omega) (by omega) (FrS_tr (by omega) FrS_rfl hS15) ?_
                                exact ⟨rfl, k, cp, ci, N, by omega, (hC15).1, ((kB hm12 (by omega)).trans hg0), ((show e13 gg 1 = (((cp : Nat) : Int) + 0) from (kA hm12)).trans (by omega)), ((kB hm12 (by omega)).trans hg2), ⟨PP, fun i hi => (show e13 rp i = nn rp i from congrFun (kN hm12 (by omega)) _).trans (hpp i hi), fun i hi => (hpc i hi).trans (congrFun (hC15).P i).symm⟩, fun i hi => ((show e13 ur i = nn ur i from congrFun (kN hm12 (by omega)) _).trans (huu i hi)).trans (congrArg vF (congrFun (hC15).U i).symm)⟩
                        · exact absurd hc11 (by decide)
                      · exact absurd hc10 (by decide)
                    · exact absurd hc9 (by decide)
                  · exact absurd hc8 (by decide)
                · skip
                  refine rw_of (fun rr hrr => q_iload rfl (q_sipush rfl hrr)) ?_
                  refine rw_icmp_ge ⟨by omega, by omega⟩ ⟨by omega, by omega⟩ (t := 619) rfl (fun hc18 => ?_) (fun hc18 => ?_)
                  · skip
                    refine rw_blk lk_L_isAct_619 ?_
                    refine rw_of (fun rr hrr => q_iconst hrr) ?_
                    refine rw_blk lk_L_isAct_620 ?_
                    refine rw_of (fun rr hrr => q_istore (Nat.le_of_ble_eq_true rfl) rfl (q_iload rfl hrr)) ?_
                    refine rw_if_eq ⟨by omega, by omega⟩ (t := 650) rfl (fun hc19 => ?_) (fun hc19 => ?_)
                    · skip
                      refine rw_blk lk_L_isAct_650 ?_
                      refine rw_of (fun rr hrr => q_iconst hrr) ?_
                      refine rw_blk lk_L_isAct_651 ?_
                      refine rw_of (fun rr hrr => q_istore (Nat.le_of_ble_eq_true rfl) rfl (q_iload rfl hrr)) ?_
                      refine rw_if_eq ⟨by omega, by omega⟩ (t := 676) rfl (fun hc20 => ?_) (fun hc20 => ?_)
                      · skip
                        refine rw_blk lk_L_isAct_676 ?_
                        refine rw_of (fun rr hrr => q_iload rfl hrr) ?_
                        refine rw_if_eq ⟨by omega, by omega⟩ (t := 691) rfl (fun hc21 => ?_) (fun hc21 => ?_)
                        · skip
                          refine rw_blk lk_L_isAct_691 ?_
                          refine rw_of (fun rr hrr => q_aload_n rfl (q_iload rfl (q_dup2 rfl rfl (q_lald (j := 1) hgr rfl (by omega) hg1 (q_iload rfl hrr))))) ?_
                          refine rw_if_eq ⟨by omega, by omega⟩ (t := 705) rfl (fun hc22 => ?_) (fun hc22 => ?_)
                          · skip
                            refine rw_blk lk_L_isAct_705 ?_
                            refine rw_of (fun rr hrr => q_iconst hrr) ?_
                            refine rw_blk lk_L_isAct_706 ?_
                            refine rw_of (fun rr hrr => q_iadd (q_last (j := 1) hgr rfl (by omega) hrr)) ?_
                            generalize hm23 : wI nn gg 1 ((((cp : Nat) : Int) + 0)) = e24
                            refine rw_of (fun rr hrr => q_aload_n rfl (q_iload rfl hrr)) ?_
                            refine rw_if_eq ⟨by omega, by omega⟩ (t := 718) rfl (fun hc25 => ?_) (fun hc25 => ?_)
                            · exact absurd hc25 (by decide)
                            · skip
                              refine rw_of (fun rr hrr => q_iconst (q_goto (t := 719) rfl hrr)) ?_
                              refine rw_blk lk_L_isAct_719 ?_
                              refine rw_of (fun rr hrr => q_iload rfl (q_iconst (q_iconst (q_iconst (q_iconst hrr))))) ?_
                              obtain ⟨_, mm26, pp26, K26, _, _, cc26, ss26, hV26, hK26, hKB26, hS26, rfl, hC26, rfl, rfl⟩ := e_poleX (X := X) (K := K) (sh := sh) (nn := e24) (d := d) (by omega) hC (x := x) (by omega) (by omega)
                              have hKB26 : K26 ≤ K + 1 := hKB26
                              refine rw_of (fun rr hrr => q_invS hV26 rfl rfl (okar_cons rfl (okar_cons rfl (okar_cons rfl (okar_cons rfl (okar_cons rfl (okar_cons rfl (okar_cons rfl okar_nil))))))) (Nat.le_of_ble_eq_true rfl) (q_iload rfl hrr)) ?_
                              refine rw_if_ne ⟨by omega, by omega⟩ (t := 739) rfl (fun hc27 => ?_) (fun hc27 => ?_)
                              · exact absurd hc27 (by decide)
                              · skip
                                refine rw_of (fun rr hrr => q_sipush rfl (q_goto (t := 754) rfl hrr)) ?_
                                refine rw_blk lk_L_isAct_754 ?_
                                refine rw_icmp_ne ⟨by omega, by omega⟩ ⟨by omega, by omega⟩ (t := 761) rfl (fun hc28 => ?_) (fun hc28 => ?_)
                                · exfalso; omega
                                · skip
                                  refine rw_of (fun rr hrr => q_iconst (q_goto (t := 762) rfl hrr)) ?_
                                  refine rw_blk lk_L_isAct_762 ?_
                                  refine lw_end hQ (q_ireturn (by omega)) (by omega) (by omega) (FrS_tr (by omega) FrS_rfl hS26) ?_
                                  exact ⟨rfl, k, cp, ci, N, by omega, (hC26).1, ((kB hm23 (by omega)).trans hg0), ((show e24 gg 1 = (((cp : Nat) : Int) + 0) from (kA hm23)).trans (by omega)), ((kB hm23 (by omega)).trans hg2), ⟨PP, fun i hi => (show e24 rp i = nn rp i from congrFun (kN hm23 (by omega)) _).trans (hpp i hi), fun i hi => (hpc i hi).trans (congrFun (hC26).P i).symm⟩, fun i hi => ((show e24 ur i = nn ur i from congrFun (kN hm23 (by omega)) _).trans (huu i hi)).trans (congrArg vF (congrFun (hC26).U i).symm)⟩
                          · exact absurd hc22 (by decide)
                        · exact absurd hc21 (by decide)
                      · exact absurd hc20 (by decide)
                    · exact absurd hc19 (by decide)
                  · skip
                    refine rw_of (fun rr hrr => q_iconst (q_goto (t := 620) rfl hrr)) ?_
                    refine rw_blk lk_L_isAct_620 ?_
                    refine rw_of (fun rr hrr => q_istore (Nat.le_of_ble_eq_true rfl) rfl (q_iload rfl hrr)) ?_
                    refine rw_if_eq ⟨by omega, by omega⟩ (t := 650) rfl (fun hc29 => ?_) (fun hc29 => ?_)
                    · exact absurd hc29 (by decide)
                    · skip
                      refine rw_of (fun rr hrr => q_aload_n rfl (q_iload rfl (q_lald (j := 1) hgr rfl (by omega) hg1 (q_iload rfl hrr)))) ?_
                      refine rw_if_eq ⟨by omega, by omega⟩ (t := 641) rfl (fun hc30 => ?_) (fun hc30 => ?_)
                      · exact absurd hc30 (by decide)
                      · skip
                        refine rw_of (fun rr hrr => q_bipush rfl (q_goto (t := 643) rfl hrr)) ?_
                        refine rw_blk lk_L_isAct_643 ?_
                        refine rw_icmp_ge ⟨by omega, by omega⟩ ⟨by omega, by omega⟩ (t := 650) rfl (fun hc31 => ?_) (fun hc31 => ?_)
                        · skip
                          refine rw_blk lk_L_isAct_650 ?_
                          refine rw_of (fun rr hrr => q_iconst hrr) ?_
                          refine rw_blk lk_L_isAct_651 ?_
                          refine rw_of (fun rr hrr => q_istore (Nat.le_of_ble_eq_true rfl) rfl (q_iload rfl hrr)) ?_
                          refine rw_if_eq ⟨by omega, by omega⟩ (t := 676) rfl (fun hc32 => ?_) (fun hc32 => ?_)
                          · skip
                            refine rw_blk lk_L_isAct_676 ?_
                            refine rw_of (fun rr hrr => q_iload rfl hrr) ?_
                            refine rw_if_eq ⟨by omega, by omega⟩ (t := 691) rfl (fun hc33 => ?_) (fun hc33 => ?_)
                            · skip
                              refine rw_blk lk_L_isAct_691 ?_
                              refine rw_of (fun rr hrr => q_aload_n rfl (q_iload rfl (q_dup2 rfl rfl (q_lald (j := 1) hgr rfl (by omega) hg1 (q_iload rfl hrr))))) ?_
                              refine rw_if_eq ⟨by omega, by omega⟩ (t := 705) rfl (fun hc34 => ?_) (fun hc34 => ?_)
                              · skip
                                refine rw_blk lk_L_isAct_705 ?_
                                refine rw_of (fun rr hrr => q_iconst hrr) ?_
                                refine rw_blk lk_L_isAct_706 ?_
                                refine rw_of (fun rr hrr => q_iadd (q_last (j := 1) hgr rfl (by omega) hrr)) ?_
                                generalize hm35 : wI nn gg 1 ((((cp : Nat) : Int) + 0)) = e36
                                refine rw_of (fun rr hrr => q_aload_n rfl (q_iload rfl hrr)) ?_
                                refine rw_if_eq ⟨by omega, by omega⟩ (t := 718) rfl (fun hc37 => ?_) (fun hc37 => ?_)
                                · exact absurd hc37 (by decide)
                                · skip
                                  refine rw_of (fun rr hrr => q_iconst (q_goto (t := 719) rfl hrr)) ?_
                                  refine rw_blk lk_L_isAct_719 ?_
                                  refine rw_of (fun rr hrr => q_iload rfl (q_iconst (q_iconst (q_iconst (q_iconst hrr))))) ?_
                                  obtain ⟨_, mm38, pp38, K38, _, _, cc38, ss38, hV38, hK38, hKB38, hS38, rfl, hC38, rfl, rfl⟩ := e_poleF (X := X) (K := K) (sh := sh) (nn := e36) (d := d) (by omega) hC (x := x) ⟨by omega, by omega⟩ (by omega)
                                  have hKB38 : K38 ≤ K + 1 := hKB38
                                  refine rw_of (fun rr hrr => q_invS hV38 rfl rfl (okar_cons rfl (okar_cons rfl (okar_cons rfl (okar_cons rfl (okar_cons rfl (okar_cons rfl (okar_cons rfl okar_nil))))))) (Nat.le_of_ble_eq_true rfl) (q_iload rfl hrr)) ?_
                                  refine rw_if_ne ⟨by omega, by omega⟩ (t := 739) rfl (fun hc39 => ?_) (fun hc39 => ?_)
                                  · skip
                                    refine rw_blk lk_L_isAct_739 ?_
                                    refine rw_of (fun rr hrr => q_iload rfl hrr) ?_
                                    refine rw_if_eq ⟨by omega, by omega⟩ (t := 751) rfl (fun hc40 => ?_) (fun hc40 => ?_)
                                    · skip
                                      refine rw_blk lk_L_isAct_751 ?_
                                      refine rw_of (fun rr hrr => q_sipush rfl hrr) ?_
                                      refine rw_blk lk_L_isAct_754 ?_
                                      refine rw_icmp_ne ⟨by omega, by omega⟩ ⟨by omega, by omega⟩ (t := 761) rfl (fun hc41 => ?_) (fun hc41 => ?_)
                                      · exfalso; omega
                                      · skip
                                        refine rw_of (fun rr hrr => q_iconst (q_goto (t := 762) rfl hrr)) ?_
                                        refine rw_blk lk_L_isAct_762 ?_
                                        refine lw_end hQ (q_ireturn (by omega)) (by omega) (by omega) (FrS_tr (by omega) FrS_rfl hS38) ?_
                                        exact ⟨rfl, k, cp, ci, N, by omega, (hC38).1, ((kB hm35 (by omega)).trans hg0), ((show e36 gg 1 = (((cp : Nat) : Int) + 0) from (kA hm35)).trans (by omega)), ((kB hm35 (by omega)).trans hg2), ⟨PP, fun i hi => (show e36 rp i = nn rp i from congrFun (kN hm35 (by omega)) _).trans (hpp i hi), fun i hi => (hpc i hi).trans (congrFun (hC38).P i).symm⟩, fun i hi => ((show e36 ur i = nn ur i from congrFun (kN hm35 (by omega)) _).trans (huu i hi)).trans (congrArg vF (congrFun (hC38).U i).symm)⟩
                                    · exact absurd hc40 (by decide)
                                  · exact absurd hc39 (by decide)
                              · exact absurd hc34 (by decide)
                            · exact absurd hc33 (by decide)
                          · exact absurd hc32 (by decide)
                        · skip
                          refine rw_of (fun rr hrr => q_iconst (q_goto (t := 651) rfl hrr)) ?_
                          refine rw_blk lk_L_isAct_651 ?_
                          refine rw_of (fun rr hrr => q_istore (Nat.le_of_ble_eq_true rfl) rfl (q_iload rfl hrr)) ?_
                          refine rw_if_eq ⟨by omega, by omega⟩ (t := 676) rfl (fun hc42 => ?_) (fun hc42 => ?_)
                          · exact absurd hc42 (by decide)
                          · skip
                            refine rw_of (fun rr hrr => q_iload rfl hrr) ?_
                            refine rw_if_eq ⟨by omega, by omega⟩ (t := 676) rfl (fun hc43 => ?_) (fun hc43 => ?_)
                            · exact absurd hc43 (by decide)
                            · skip
                              refine rw_of (fun rr hrr => q_aload_n rfl (q_aload_n rfl (q_iconst (q_lald (j := 1) hgr rfl (by omega) hg1 (q_iload rfl hrr))))) ?_
                              obtain ⟨_, _, _, hV44, rfl, rfl, rfl⟩ := c_L_rest (S := (K, gB X sh nn)) (fz := false) (m := m) (p := p) (d := d) (by omega) (x) ((toF x)) ⟨by omega, by omega⟩ (by simp only [toF_add, toF_mul, toF_sub, toF_neg, toF_vF, toF_nat, toF_0, toF_1, toF_M, F_add0, F_0sub])
                              refine rw_of (fun rr hrr => q_invS hV44 rfl rfl (okar_cons rfl okar_nil) (Nat.le_of_ble_eq_true rfl) (q_last (j := cp) hpr rfl (by omega) hrr)) ?_
                              generalize hm45 : wI nn rp cp (vF ((toF x))) = e46
                              refine rw_of (fun rr hrr => q_goto (t := 691) rfl hrr) ?_
                              refine rw_blk lk_L_isAct_691 ?_
                              refine rw_of (fun rr hrr => q_aload_n rfl (q_iload rfl (q_dup2 rfl rfl (q_lald (j := 1) hgr rfl (by omega) ((congrFun (kN hm45 (by omega)) _).trans hg1) (q_iload rfl hrr))))) ?_
                              refine rw_if_eq ⟨by omega, by omega⟩ (t := 705) rfl (fun hc47 => ?_) (fun hc47 => ?_)
                              · exact absurd hc47 (by decide)
                              · skip
                                refine rw_of (fun rr hrr => q_iconst (q_goto (t := 706) rfl hrr)) ?_
                                refine rw_blk lk_L_isAct_706 ?_
                                refine rw_of (fun rr hrr => q_iadd (q_last (j := 1) hgr rfl (by omega) hrr)) ?_
                                generalize hm48 : wI e46 gg 1 ((((cp : Nat) : Int) + 1)) = e49
                                refine rw_of (fun rr hrr => q_aload_n rfl (q_iload rfl hrr)) ?_
                                refine rw_if_eq ⟨by omega, by omega⟩ (t := 718) rfl (fun hc50 => ?_) (fun hc50 => ?_)
                                · exact absurd hc50 (by decide)
                                · skip
                                  refine rw_of (fun rr hrr => q_iconst (q_goto (t := 719) rfl hrr)) ?_
                                  refine rw_blk lk_L_isAct_719 ?_
                                  refine rw_of (fun rr hrr => q_iload rfl (q_iconst (q_iconst (q_iconst (q_iconst hrr))))) ?_
                                  obtain ⟨_, mm51, pp51, K51, _, _, cc51, ss51, hV51, hK51, hKB51, hS51, rfl, ⟨hC51, hE51, hO51⟩, rfl, rfl⟩ := e_pole (X := X) (K := K) (sh := sh) (nn := e49) (d := d) (by omega) hC (x := x) ⟨by omega, by omega⟩ (by omega)
                                  have hKB51 : K51 ≤ K + 1 := hKB51
                                  refine rw_of (fun rr hrr => q_invS hV51 rfl rfl (okar_cons rfl (okar_cons rfl (okar_cons rfl (okar_cons rfl (okar_cons rfl (okar_cons rfl (okar_cons rfl okar_nil))))))) (Nat.le_of_ble_eq_true rfl) (q_iload rfl hrr)) ?_
                                  refine rw_if_ne ⟨by omega, by omega⟩ (t := 739) rfl (fun hc52 => ?_) (fun hc52 => ?_)
                                  · skip
                                    refine rw_blk lk_L_isAct_739 ?_
                                    refine rw_of (fun rr hrr => q_iload rfl hrr) ?_
                                    refine rw_if_eq ⟨by omega, by omega⟩ (t := 751) rfl (fun hc53 => ?_) (fun hc53 => ?_)
                                    · exact absurd hc53 (by decide)
                                    · skip
                                      refine rw_of (fun rr hrr => q_aload_n rfl (q_iload rfl (q_lald (j := 1) (Ro_call hK51 hS51 hgr) rfl (by omega) (kA hm48) (q_goto (t := 754) rfl hrr)))) ?_
                                      refine rw_blk lk_L_isAct_754 ?_
                                      refine rw_icmp_ne ⟨by omega, by omega⟩ ⟨by omega, by omega⟩ (t := 761) rfl (fun hc54 => ?_) (fun hc54 => ?_)
                                      · exfalso; omega
                                      · skip
                                        refine rw_of (fun rr hrr => q_iconst (q_goto (t := 762) rfl hrr)) ?_
                                        refine rw_blk lk_L_isAct_762 ?_
                                        refine lw_end hQ (q_ireturn (by omega)) (by omega) (by omega) (FrS_tr (by omega) FrS_rfl hS51) ?_
                                        exact ⟨rfl, k, cp + 1, ci, N, by omega, (hC51).1, (((kB hm48 (by omega)).trans (congrFun (kN hm45 (by omega)) _)).trans hg0), ((show e49 gg 1 = (((cp : Nat) : Int) + 1) from (kA hm48)).trans (by omega)), (((kB hm48 (by omega)).trans (congrFun (kN hm45 (by omega)) _)).trans hg2), ⟨fun z => if z = cp then toF x else PP z, fun i hi => by
                                            rw [kN hm48 hrg]
                                            show _ = vF (if i = cp then toF x else PP i)
                                            by_cases q : i = cp
                                            · rw [if_pos q, q]
                                              exact kA hm45
                                            · rw [if_neg q]
                                              exact (kB hm45 q).trans (hpp i hi), fun i hi => by
                                            rw [hE51 i]
                                            show (if i = cp then toF x else PP i) = _
                                            by_cases q : i = cp
                                            · rw [if_pos q, if_pos q]
                                            · rw [if_neg q, if_neg q]
                                              exact hpc i (by omega)⟩, fun i hi => ((show e49 ur i = nn ur i from congrFun ((kN hm48 (by omega)).trans (kN hm45 (by omega))) _).trans (huu i hi)).trans (congrArg vF (congrFun hO51 i).symm)⟩
                                  · exact absurd hc52 (by decide)
              refine rw_if_ne ⟨by omega, by omega⟩ (t := 590) rfl (fun hc55 => ?_) (fun hc55 => ?_)
              · skip
                refine rw_blk lk_L_isAct_590 ?_
                refine rw_of (fun rr hrr => q_iload rfl (q_bipush rfl (q_irem ⟨by omega, by omega⟩ ⟨by omega, by omega⟩ (by omega) (show (((two : Nat) : Int)).tmod (7) = ((two % 7 : Nat) : Int) by rfl) (q_iconst (q_isub hrr))))) ?_
                have hA56 : -10007 ≤ ((((two % 7 : Nat) : Int) - 3)) ∧ ((((two % 7 : Nat) : Int) - 3)) ≤ 10007 := by
                  omega
                exact rw_casts (hL597 _ _ ((((two % 7 : Nat) : Int) - 3)) hA56) rfl rfl
              · skip
                refine rw_of (fun rr hrr => q_iload rfl (q_sipush rfl (q_irem ⟨by omega, by omega⟩ ⟨by omega, by omega⟩ (by omega) (show (((two : Nat) : Int)).tmod (20015) = ((two % 20015 : Nat) : Int) by rfl) (q_sipush rfl (q_isub (q_goto (t := 597) rfl hrr)))))) ?_
                have hA57 : -10007 ≤ ((((two % 20015 : Nat) : Int) - 10007)) ∧ ((((two % 20015 : Nat) : Int) - 10007)) ≤ 10007 := by
                  omega
                exact rw_casts (hL597 _ _ ((((two % 20015 : Nat) : Int) - 10007)) hA57) rfl rfl
      · exact absurd hc3 (by decide)
    · exact absurd hc2 (by decide)
  · exact absurd hc1 (by decide)
theorem c_L_isAct5 {d : Nat} {X : MC} {m : M1} {p : M2} {K : Nat} {sh : Nat → Nat} {nn : N2} (hd : 11 ≤ d) (hK : 260 ≤ K) (rp ur gg one two : Nat) (k cp ci : Nat) (N : Nat → Nat) (hC0 : CI k N cp ci m p) (hpr : Ro K sh rp 32) (hur : Ro K sh ur 20) (hgr : Ro K sh gg 3) (hrg : rp ≠ gg) (hug : ur ≠ gg) (hru : rp ≠ ur) (hLR : LR rp ur gg k cp ci m nn) (h1 : one < 60000) (h2 : two < 60000) (hk1 : 1 ≤ k) : Lc d k_L_isAct X [.ref (1), .ref (rp), .ref (ur), .ref (gg), .int (iI (5)), .int (iI (((one : Nat) : Int))), .int (iI (((two : Nat) : Int)))] m p K sh nn (fun v m' p' K' sh' n' => v = some (.int (iI 1)) ∧ ∃ k' cp' ci', ∃ N' : Nat → Nat, k ≤ k' ∧ CI k' N' cp' ci' m' p' ∧ LR rp ur gg k' cp' ci' m' n') := by
  obtain ⟨d, rfl⟩ : ∃ e, d = e + 1 := ⟨d - 1, by omega⟩
  have hpr8 := hpr.1; have hpr9 := hpr.2.1
  have hur8 := hur.1; have hur9 := hur.2.1
  have hgr8 := hgr.1; have hgr9 := hgr.2.1
  have hC := CS_rf hC0
  have hk12 := hC.k12
  have hcp16 := hC.p16
  have hci20 := hC.i20
  obtain ⟨hg0, hg1, hg2, ⟨PP, hpp, hpc⟩, huu⟩ := hLR
  obtain ⟨sy, hsy0⟩ : ∃ z, z = one % (k + 1) := ⟨_, rfl⟩
  obtain ⟨ot, hot0⟩ : ∃ z, z = two % (k + 1) := ⟨_, rfl⟩
  have hsy : sy ≤ k := by rw [hsy0]; exact Nat.le_of_lt_succ (Nat.mod_lt _ (Nat.succ_pos _))
  have hot : ot ≤ k := by rw [hot0]; exact Nat.le_of_lt_succ (Nat.mod_lt _ (Nat.succ_pos _))
  refine lc_go (lv := [some (.ref (1)), some (.ref (rp)), some (.ref (ur)), some (.ref (gg)), some (.int (iI (5))), some (.int (iI (((one : Nat) : Int)))), some (.int (iI (((two : Nat) : Int)))), none, none, none, none, none, none, none, none, none, none]) (B := 7) (Nat.le_of_ble_eq_true rfl) (okar_cons rfl (okar_cons rfl (okar_cons rfl (okar_cons rfl (okar_cons rfl (okar_cons rfl (okar_cons rfl okar_nil))))))) rfl rfl (fun Qr hQ => ?_)
  refine rw_blk lk_L_isAct_0 ?_
  refine rw_of (fun rr hrr => q_iload rfl (q_aload_n rfl (q_iconst (q_lald (j := 0) hgr rfl (by omega) hg0 (q_iconst (q_iadd (q_irem ⟨by omega, by omega⟩ ⟨by omega, by omega⟩ (by omega) (show (((one : Nat) : Int)).tmod ((((k : Nat) : Int) + 1)) = ((sy : Nat) : Int) from by rw [hsy0]; rfl) (q_istore (Nat.le_of_ble_eq_true rfl) rfl (q_iload rfl (q_aload_n rfl (q_iconst (q_lald (j := 0) hgr rfl (by omega) hg0 (q_iconst (q_iadd (q_irem ⟨by omega, by omega⟩ ⟨by omega, by omega⟩ (by omega) (show (((two : Nat) : Int)).tmod ((((k : Nat) : Int) + 1)) = ((ot : Nat) : Int) from by rw [hot0]; rfl) (q_istore (Nat.le_of_ble_eq_true rfl) rfl (q_iload rfl hrr))))))))))))))))) ?_
  refine rw_if_ne ⟨by omega, by omega⟩ (t := 133) rfl (fun hc1 => ?_) (fun hc1 => ?_)
  · skip
    refine rw_blk lk_L_isAct_133 ?_
    refine rw_of (fun rr hrr => q_iload rfl (q_iconst hrr)) ?_
    refine rw_icmp_ge ⟨by omega, by omega⟩ ⟨by omega, by omega⟩ (t := 312) rfl (fun hc2 => ?_) (fun hc2 => ?_)
    · skip
      refine rw_blk lk_L_isAct_312 ?_
      refine rw_of (fun rr hrr => q_iload rfl (q_iconst hrr)) ?_
      refine rw_icmp_ne ⟨by omega, by omega⟩ ⟨by omega, by omega⟩ (t := 538) rfl (fun hc3 => ?_) (fun hc3 => ?_)
      · skip
        refine rw_blk lk_L_isAct_538 ?_
        refine rw_of (fun rr hrr => q_iload rfl (q_bipush rfl hrr)) ?_
        refine rw_icmp_ge ⟨by omega, by omega⟩ ⟨by omega, by omega⟩ (t := 763) rfl (fun hc4 => ?_) (fun hc4 => ?_)
        · exact absurd hc4 (by decide)
        · skip
          refine rw_of (fun rr hrr => q_iload rfl (q_iconst hrr)) ?_
          refine rw_icmp_ne ⟨by omega, by omega⟩ ⟨by omega, by omega⟩ (t := 555) rfl (fun hc5 => ?_) (fun hc5 => ?_)
          · skip
            refine rw_blk lk_L_isAct_555 ?_
            refine rw_of (fun rr hrr => q_iconst hrr) ?_
            refine rw_blk lk_L_isAct_556 ?_
            refine rw_of (fun rr hrr => q_istore (Nat.le_of_ble_eq_true rfl) rfl (q_iload rfl hrr)) ?_
            refine rw_if_eq ⟨by omega, by omega⟩ (t := 567) rfl (fun hc6 => ?_) (fun hc6 => ?_)
            · skip
              refine rw_blk lk_L_isAct_567 ?_
              refine rw_of (fun rr hrr => q_iconst hrr) ?_
              refine rw_blk lk_L_isAct_568 ?_
              refine rw_of (fun rr hrr => q_istore (Nat.le_of_ble_eq_true rfl) rfl (q_iload rfl (q_iconst (q_irem ⟨by omega, by omega⟩ ⟨by omega, by omega⟩ (by omega) (show (((one : Nat) : Int)).tmod (4) = ((one % 4 : Nat) : Int) by rfl) hrr)))) ?_
              have hL597 : ∀ (cc ss : Nat) (x : Int), ((-10007 ≤ x ∧ x ≤ 10007)) → Rw (Ev d) k_L_isAct (597, [], [some (.ref (1)), some (.ref (rp)), some (.ref (ur)), some (.ref (gg)), some (.int (iI (5))), some (.int (iI (((one : Nat) : Int)))), some (.int (iI (((two : Nat) : Int)))), some (.int (iI (((sy : Nat) : Int)))), some (.int (iI (((ot : Nat) : Int)))), some (.int (iI (0))), some (.int (iI (2))), none, none, none, none, none, none], [.int (iI (x))], hB X m p K sh nn, cc, ss) Qr := by
                intro cc ss x
                intro hI
                have hx := hI
                refine rw_blk lk_L_isAct_597 ?_
                refine rw_of (fun rr hrr => q_istore (Nat.le_of_ble_eq_true rfl) rfl (q_iload rfl (q_sipush rfl hrr))) ?_
                refine rw_icmp_le ⟨by omega, by omega⟩ ⟨by omega, by omega⟩ (t := 619) rfl (fun hc7 => ?_) (fun hc7 => ?_)
                · skip
                  refine rw_blk lk_L_isAct_619 ?_
                  refine rw_of (fun rr hrr => q_iconst hrr) ?_
                  refine rw_blk lk_L_isAct_620 ?_
                  refine rw_of (fun rr hrr => q_istore (Nat.le_of_ble_eq_true rfl) rfl (q_iload rfl hrr)) ?_
                  refine rw_if_eq ⟨by omega, by omega⟩ (t := 650) rfl (fun hc8 => ?_) (fun hc8 => ?_)
                  · skip
                    refine rw_blk lk_L_isAct_650 ?_
                    refine rw_of (fun rr hrr => q_iconst hrr) ?_
                    refine rw_blk lk_L_isAct_651 ?_
                    refine rw_of (fun rr hrr => q_istore (Nat.le_of_ble_eq_true rfl) rfl (q_iload rfl hrr)) ?_
                    refine rw_if_eq ⟨by omega, by omega⟩ (t := 676) rfl (fun hc9 => ?_) (fun hc9 => ?_)
                    · skip
                      refine rw_blk lk_L_isAct_676 ?_
                      refine rw_of (fun rr hrr => q_iload rfl hrr) ?_
                      refine rw_if_eq ⟨by omega, by omega⟩ (t := 691) rfl (fun hc10 => ?_) (fun hc10 => ?_)
                      · skip
                        refine rw_blk lk_L_isAct_691 ?_
                        refine rw_of (fun rr hrr => q_aload_n rfl (q_iload rfl (q_dup2 rfl rfl (q_lald (j := 2) hgr rfl (by omega) hg2 (q_iload rfl hrr))))) ?_
                        refine rw_if_eq ⟨by omega, by omega⟩ (t := 705) rfl (fun hc11 => ?_) (fun hc11 => ?_)
                        · skip
                          refine rw_blk lk_L_isAct_705 ?_
                          refine rw_of (fun rr hrr => q_iconst hrr) ?_
                          refine rw_blk lk_L_isAct_706 ?_
                          refine rw_of (fun rr hrr => q_iadd (q_last (j := 2) hgr rfl (by omega) hrr)) ?_
                          generalize hm12 : wI nn gg 2 ((((ci : Nat) : Int) + 0)) = e13
                          refine rw_of (fun rr hrr => q_aload_n rfl (q_iload rfl hrr)) ?_
                          refine rw_if_eq ⟨by omega, by omega⟩ (t := 718) rfl (fun hc14 => ?_) (fun hc14 => ?_)
                          · skip
                            refine rw_blk lk_L_isAct_718 ?_
                            refine rw_of (fun rr hrr => q_iconst hrr) ?_
                            refine rw_blk lk_L_isAct_719 ?_
                            refine rw_of (fun rr hrr => q_iload rfl (q_iconst (q_iconst (q_iconst (q_iconst hrr))))) ?_
                            obtain ⟨_, mm15, pp15, K15, _, _, cc15, ss15, hV15, hK15, hKB15, hS15, rfl, hC15, rfl, rfl⟩ := e_inputX (X := X) (K := K) (sh := sh) (nn := e13) (d := d) (by omega) hC (x := x) (by omega) (by omega)
                            have hKB15 : K15 ≤ K + 1 := hKB15
                            refine rw_of (fun rr hrr => q_invS hV15 rfl rfl (okar_cons rfl (okar_cons rfl (okar_cons rfl (okar_cons rfl (okar_cons rfl (okar_cons rfl (okar_cons rfl okar_nil))))))) (Nat.le_of_ble_eq_true rfl) (q_iload rfl hrr)) ?_
                            refine rw_if_ne ⟨by omega, by omega⟩ (t := 739) rfl (fun hc16 => ?_) (fun hc16 => ?_)
                            · exact absurd hc16 (by decide)
                            · skip
                              refine rw_of (fun rr hrr => q_sipush rfl (q_goto (t := 754) rfl hrr)) ?_
                              refine rw_blk lk_L_isAct_754 ?_
                              refine rw_icmp_ne ⟨by omega, by omega⟩ ⟨by omega, by omega⟩ (t := 761) rfl (fun hc17 => ?_) (fun hc17 => ?_)
                              · exfalso; omega
                              · skip
                                refine rw_of (fun rr hrr => q_iconst (q_goto (t := 762) rfl hrr)) ?_
                                refine rw_blk lk_L_isAct_762 ?_
                                refine lw_end hQ (q_ireturn (by omega)) (by omega) (by omega) (FrS_tr (by omega) FrS_rfl hS15) ?_
                                exact ⟨rfl, k, cp, ci, N, by omega, (hC15).1, ((kB hm12 (by omega)).trans hg0), ((kB hm12 (by omega)).trans hg1), ((show e13 gg 2 = (((ci : Nat) : Int) + 0) from (kA hm12)).trans (by omega)), ⟨PP, fun i hi => (show e13 rp i = nn rp i from congrFun (kN hm12 (by omega)) _).trans (hpp i hi), fun i hi => (hpc i hi).trans (congrFun (hC15).P i).symm⟩, fun i hi => ((show e13 ur i = nn ur i from congrFun (kN hm12 (by omega)) _).trans (huu i hi)).trans (congrArg vF (congrFun (hC15).U i).symm)⟩
                          · exact absurd hc14 (by decide)
                        · exact absurd hc11 (by decide)
                      · exact absurd hc10 (by decide)
                    · exact absurd hc9 (by decide)
                  · exact absurd hc8 (by decide)
                · skip
                  refine rw_of (fun rr hrr => q_iload rfl (q_sipush rfl hrr)) ?_
                  refine rw_icmp_ge ⟨by omega, by omega⟩ ⟨by omega, by omega⟩ (t := 619) rfl (fun hc18 => ?_) (fun hc18 => ?_)
                  · skip
                    refine rw_blk lk_L_isAct_619 ?_
                    refine rw_of (fun rr hrr => q_iconst hrr) ?_
                    refine rw_blk lk_L_isAct_620 ?_
                    refine rw_of (fun rr hrr => q_istore (Nat.le_of_ble_eq_true rfl) rfl (q_iload rfl hrr)) ?_
                    refine rw_if_eq ⟨by omega, by omega⟩ (t := 650) rfl (fun hc19 => ?_) (fun hc19 => ?_)
                    · skip
                      refine rw_blk lk_L_isAct_650 ?_
                      refine rw_of (fun rr hrr => q_iconst hrr) ?_
                      refine rw_blk lk_L_isAct_651 ?_
                      refine rw_of (fun rr hrr => q_istore (Nat.le_of_ble_eq_true rfl) rfl (q_iload rfl hrr)) ?_
                      refine rw_if_eq ⟨by omega, by omega⟩ (t := 676) rfl (fun hc20 => ?_) (fun hc20 => ?_)
                      · skip
                        refine rw_blk lk_L_isAct_676 ?_
                        refine rw_of (fun rr hrr => q_iload rfl hrr) ?_
                        refine rw_if_eq ⟨by omega, by omega⟩ (t := 691) rfl (fun hc21 => ?_) (fun hc21 => ?_)
                        · skip
                          refine rw_blk lk_L_isAct_691 ?_
                          refine rw_of (fun rr hrr => q_aload_n rfl (q_iload rfl (q_dup2 rfl rfl (q_lald (j := 2) hgr rfl (by omega) hg2 (q_iload rfl hrr))))) ?_
                          refine rw_if_eq ⟨by omega, by omega⟩ (t := 705) rfl (fun hc22 => ?_) (fun hc22 => ?_)
                          · skip
                            refine rw_blk lk_L_isAct_705 ?_
                            refine rw_of (fun rr hrr => q_iconst hrr) ?_
                            refine rw_blk lk_L_isAct_706 ?_
                            refine rw_of (fun rr hrr => q_iadd (q_last (j := 2) hgr rfl (by omega) hrr)) ?_
                            generalize hm23 : wI nn gg 2 ((((ci : Nat) : Int) + 0)) = e24
                            refine rw_of (fun rr hrr => q_aload_n rfl (q_iload rfl hrr)) ?_
                            refine rw_if_eq ⟨by omega, by omega⟩ (t := 718) rfl (fun hc25 => ?_) (fun hc25 => ?_)
                            · skip
                              refine rw_blk lk_L_isAct_718 ?_
                              refine rw_of (fun rr hrr => q_iconst hrr) ?_
                              refine rw_blk lk_L_isAct_719 ?_
                              refine rw_of (fun rr hrr => q_iload rfl (q_iconst (q_iconst (q_iconst (q_iconst hrr))))) ?_
                              obtain ⟨_, mm26, pp26, K26, _, _, cc26, ss26, hV26, hK26, hKB26, hS26, rfl, hC26, rfl, rfl⟩ := e_inputX (X := X) (K := K) (sh := sh) (nn := e24) (d := d) (by omega) hC (x := x) (by omega) (by omega)
                              have hKB26 : K26 ≤ K + 1 := hKB26
                              refine rw_of (fun rr hrr => q_invS hV26 rfl rfl (okar_cons rfl (okar_cons rfl (okar_cons rfl (okar_cons rfl (okar_cons rfl (okar_cons rfl (okar_cons rfl okar_nil))))))) (Nat.le_of_ble_eq_true rfl) (q_iload rfl hrr)) ?_
                              refine rw_if_ne ⟨by omega, by omega⟩ (t := 739) rfl (fun hc27 => ?_) (fun hc27 => ?_)
                              · exact absurd hc27 (by decide)
                              · skip
                                refine rw_of (fun rr hrr => q_sipush rfl (q_goto (t := 754) rfl hrr)) ?_
                                refine rw_blk lk_L_isAct_754 ?_
                                refine rw_icmp_ne ⟨by omega, by omega⟩ ⟨by omega, by omega⟩ (t := 761) rfl (fun hc28 => ?_) (fun hc28 => ?_)
                                · exfalso; omega
                                · skip
                                  refine rw_of (fun rr hrr => q_iconst (q_goto (t := 762) rfl hrr)) ?_
                                  refine rw_blk lk_L_isAct_762 ?_
                                  refine lw_end hQ (q_ireturn (by omega)) (by omega) (by omega) (FrS_tr (by omega) FrS_rfl hS26) ?_
                                  exact ⟨rfl, k, cp, ci, N, by omega, (hC26).1, ((kB hm23 (by omega)).trans hg0), ((kB hm23 (by omega)).trans hg1), ((show e24 gg 2 = (((ci : Nat) : Int) + 0) from (kA hm23)).trans (by omega)), ⟨PP, fun i hi => (show e24 rp i = nn rp i from congrFun (kN hm23 (by omega)) _).trans (hpp i hi), fun i hi => (hpc i hi).trans (congrFun (hC26).P i).symm⟩, fun i hi => ((show e24 ur i = nn ur i from congrFun (kN hm23 (by omega)) _).trans (huu i hi)).trans (congrArg vF (congrFun (hC26).U i).symm)⟩
                            · exact absurd hc25 (by decide)
                          · exact absurd hc22 (by decide)
                        · exact absurd hc21 (by decide)
                      · exact absurd hc20 (by decide)
                    · exact absurd hc19 (by decide)
                  · skip
                    refine rw_of (fun rr hrr => q_iconst (q_goto (t := 620) rfl hrr)) ?_
                    refine rw_blk lk_L_isAct_620 ?_
                    refine rw_of (fun rr hrr => q_istore (Nat.le_of_ble_eq_true rfl) rfl (q_iload rfl hrr)) ?_
                    refine rw_if_eq ⟨by omega, by omega⟩ (t := 650) rfl (fun hc29 => ?_) (fun hc29 => ?_)
                    · exact absurd hc29 (by decide)
                    · skip
                      refine rw_of (fun rr hrr => q_aload_n rfl (q_iload rfl (q_lald (j := 2) hgr rfl (by omega) hg2 (q_iload rfl hrr)))) ?_
                      refine rw_if_eq ⟨by omega, by omega⟩ (t := 641) rfl (fun hc30 => ?_) (fun hc30 => ?_)
                      · skip
                        refine rw_blk lk_L_isAct_641 ?_
                        refine rw_of (fun rr hrr => q_bipush rfl hrr) ?_
                        refine rw_blk lk_L_isAct_643 ?_
                        refine rw_icmp_ge ⟨by omega, by omega⟩ ⟨by omega, by omega⟩ (t := 650) rfl (fun hc31 => ?_) (fun hc31 => ?_)
                        · skip
                          refine rw_blk lk_L_isAct_650 ?_
                          refine rw_of (fun rr hrr => q_iconst hrr) ?_
                          refine rw_blk lk_L_isAct_651 ?_
                          refine rw_of (fun rr hrr => q_istore (Nat.le_of_ble_eq_true rfl) rfl (q_iload rfl hrr)) ?_
                          refine rw_if_eq ⟨by omega, by omega⟩ (t := 676) rfl (fun hc32 => ?_) (fun hc32 => ?_)
                          · skip
                            refine rw_blk lk_L_isAct_676 ?_
                            refine rw_of (fun rr hrr => q_iload rfl hrr) ?_
                            refine rw_if_eq ⟨by omega, by omega⟩ (t := 691) rfl (fun hc33 => ?_) (fun hc33 => ?_)
                            · skip
                              refine rw_blk lk_L_isAct_691 ?_
                              refine rw_of (fun rr hrr => q_aload_n rfl (q_iload rfl (q_dup2 rfl rfl (q_lald (j := 2) hgr rfl (by omega) hg2 (q_iload rfl hrr))))) ?_
                              refine rw_if_eq ⟨by omega, by omega⟩ (t := 705) rfl (fun hc34 => ?_) (fun hc34 => ?_)
                              · skip
                                refine rw_blk lk_L_isAct_705 ?_
                                refine rw_of (fun rr hrr => q_iconst hrr) ?_
                                refine rw_blk lk_L_isAct_706 ?_
                                refine rw_of (fun rr hrr => q_iadd (q_last (j := 2) hgr rfl (by omega) hrr)) ?_
                                generalize hm35 : wI nn gg 2 ((((ci : Nat) : Int) + 0)) = e36
                                refine rw_of (fun rr hrr => q_aload_n rfl (q_iload rfl hrr)) ?_
                                refine rw_if_eq ⟨by omega, by omega⟩ (t := 718) rfl (fun hc37 => ?_) (fun hc37 => ?_)
                                · skip
                                  refine rw_blk lk_L_isAct_718 ?_
                                  refine rw_of (fun rr hrr => q_iconst hrr) ?_
                                  refine rw_blk lk_L_isAct_719 ?_
                                  refine rw_of (fun rr hrr => q_iload rfl (q_iconst (q_iconst (q_iconst (q_iconst hrr))))) ?_
                                  obtain ⟨_, mm38, pp38, K38, _, _, cc38, ss38, hV38, hK38, hKB38, hS38, rfl, hC38, rfl, rfl⟩ := e_inputF (X := X) (K := K) (sh := sh) (nn := e36) (d := d) (by omega) hC (x := x) ⟨by omega, by omega⟩ (by omega)
                                  have hKB38 : K38 ≤ K + 1 := hKB38
                                  refine rw_of (fun rr hrr => q_invS hV38 rfl rfl (okar_cons rfl (okar_cons rfl (okar_cons rfl (okar_cons rfl (okar_cons rfl (okar_cons rfl (okar_cons rfl okar_nil))))))) (Nat.le_of_ble_eq_true rfl) (q_iload rfl hrr)) ?_
                                  refine rw_if_ne ⟨by omega, by omega⟩ (t := 739) rfl (fun hc39 => ?_) (fun hc39 => ?_)
                                  · skip
                                    refine rw_blk lk_L_isAct_739 ?_
                                    refine rw_of (fun rr hrr => q_iload rfl hrr) ?_
                                    refine rw_if_eq ⟨by omega, by omega⟩ (t := 751) rfl (fun hc40 => ?_) (fun hc40 => ?_)
                                    · skip
                                      refine rw_blk lk_L_isAct_751 ?_
                                      refine rw_of (fun rr hrr => q_sipush rfl hrr) ?_
                                      refine rw_blk lk_L_isAct_754 ?_
                                      refine rw_icmp_ne ⟨by omega, by omega⟩ ⟨by omega, by omega⟩ (t := 761) rfl (fun hc41 => ?_) (fun hc41 => ?_)
                                      · exfalso; omega
                                      · skip
                                        refine rw_of (fun rr hrr => q_iconst (q_goto (t := 762) rfl hrr)) ?_
                                        refine rw_blk lk_L_isAct_762 ?_
                                        refine lw_end hQ (q_ireturn (by omega)) (by omega) (by omega) (FrS_tr (by omega) FrS_rfl hS38) ?_
                                        exact ⟨rfl, k, cp, ci, N, by omega, (hC38).1, ((kB hm35 (by omega)).trans hg0), ((kB hm35 (by omega)).trans hg1), ((show e36 gg 2 = (((ci : Nat) : Int) + 0) from (kA hm35)).trans (by omega)), ⟨PP, fun i hi => (show e36 rp i = nn rp i from congrFun (kN hm35 (by omega)) _).trans (hpp i hi), fun i hi => (hpc i hi).trans (congrFun (hC38).P i).symm⟩, fun i hi => ((show e36 ur i = nn ur i from congrFun (kN hm35 (by omega)) _).trans (huu i hi)).trans (congrArg vF (congrFun (hC38).U i).symm)⟩
                                    · exact absurd hc40 (by decide)
                                  · exact absurd hc39 (by decide)
                                · exact absurd hc37 (by decide)
                              · exact absurd hc34 (by decide)
                            · exact absurd hc33 (by decide)
                          · exact absurd hc32 (by decide)
                        · skip
                          refine rw_of (fun rr hrr => q_iconst (q_goto (t := 651) rfl hrr)) ?_
                          refine rw_blk lk_L_isAct_651 ?_
                          refine rw_of (fun rr hrr => q_istore (Nat.le_of_ble_eq_true rfl) rfl (q_iload rfl hrr)) ?_
                          refine rw_if_eq ⟨by omega, by omega⟩ (t := 676) rfl (fun hc42 => ?_) (fun hc42 => ?_)
                          · exact absurd hc42 (by decide)
                          · skip
                            refine rw_of (fun rr hrr => q_iload rfl hrr) ?_
                            refine rw_if_eq ⟨by omega, by omega⟩ (t := 676) rfl (fun hc43 => ?_) (fun hc43 => ?_)
                            · skip
                              refine rw_blk lk_L_isAct_676 ?_
                              refine rw_of (fun rr hrr => q_iload rfl hrr) ?_
                              refine rw_if_eq ⟨by omega, by omega⟩ (t := 691) rfl (fun hc44 => ?_) (fun hc44 => ?_)
                              · exact absurd hc44 (by decide)
                              · skip
                                refine rw_of (fun rr hrr => q_aload_n rfl (q_aload_n rfl (q_iconst (q_lald (j := 2) hgr rfl (by omega) hg2 (q_iload rfl hrr))))) ?_
                                obtain ⟨_, _, _, hV45, rfl, rfl, rfl⟩ := c_L_rest (S := (K, gB X sh nn)) (fz := false) (m := m) (p := p) (d := d) (by omega) (x) ((toF x)) ⟨by omega, by omega⟩ (by simp only [toF_add, toF_mul, toF_sub, toF_neg, toF_vF, toF_nat, toF_0, toF_1, toF_M, F_add0, F_0sub])
                                refine rw_of (fun rr hrr => q_invS hV45 rfl rfl (okar_cons rfl okar_nil) (Nat.le_of_ble_eq_true rfl) (q_last (j := ci) hur rfl (by omega) hrr)) ?_
                                generalize hm46 : wI nn ur ci (vF ((toF x))) = e47
                                refine rw_blk lk_L_isAct_691 ?_
                                refine rw_of (fun rr hrr => q_aload_n rfl (q_iload rfl (q_dup2 rfl rfl (q_lald (j := 2) hgr rfl (by omega) ((congrFun (kN hm46 (by omega)) _).trans hg2) (q_iload rfl hrr))))) ?_
                                refine rw_if_eq ⟨by omega, by omega⟩ (t := 705) rfl (fun hc48 => ?_) (fun hc48 => ?_)
                                · exact absurd hc48 (by decide)
                                · skip
                                  refine rw_of (fun rr hrr => q_iconst (q_goto (t := 706) rfl hrr)) ?_
                                  refine rw_blk lk_L_isAct_706 ?_
                                  refine rw_of (fun rr hrr => q_iadd (q_last (j := 2) hgr rfl (by omega) hrr)) ?_
                                  generalize hm49 : wI e47 gg 2 ((((ci : Nat) : Int) + 1)) = e50
                                  refine rw_of (fun rr hrr => q_aload_n rfl (q_iload rfl hrr)) ?_
                                  refine rw_if_eq ⟨by omega, by omega⟩ (t := 718) rfl (fun hc51 => ?_) (fun hc51 => ?_)
                                  · skip
                                    refine rw_blk lk_L_isAct_718 ?_
                                    refine rw_of (fun rr hrr => q_iconst hrr) ?_
                                    refine rw_blk lk_L_isAct_719 ?_
                                    refine rw_of (fun rr hrr => q_iload rfl (q_iconst (q_iconst (q_iconst (q_iconst hrr))))) ?_
                                    obtain ⟨_, mm52, pp52, K52, _, _, cc52, ss52, hV52, hK52, hKB52, hS52, rfl, ⟨hC52, hE52, hO52⟩, rfl, rfl⟩ := e_input (X := X) (K := K) (sh := sh) (nn := e50) (d := d) (by omega) hC (x := x) ⟨by omega, by omega⟩ (by omega)
                                    have hKB52 : K52 ≤ K + 1 := hKB52
                                    refine rw_of (fun rr hrr => q_invS hV52 rfl rfl (okar_cons rfl (okar_cons rfl (okar_cons rfl (okar_cons rfl (okar_cons rfl (okar_cons rfl (okar_cons rfl okar_nil))))))) (Nat.le_of_ble_eq_true rfl) (q_iload rfl hrr)) ?_
                                    refine rw_if_ne ⟨by omega, by omega⟩ (t := 739) rfl (fun hc53 => ?_) (fun hc53 => ?_)
                                    · skip
                                      refine rw_blk lk_L_isAct_739 ?_
                                      refine rw_of (fun rr hrr => q_iload rfl hrr) ?_
                                      refine rw_if_eq ⟨by omega, by omega⟩ (t := 751) rfl (fun hc54 => ?_) (fun hc54 => ?_)
                                      · exact absurd hc54 (by decide)
                                      · skip
                                        refine rw_of (fun rr hrr => q_aload_n rfl (q_iload rfl (q_lald (j := 2) (Ro_call hK52 hS52 hgr) rfl (by omega) (kA hm49) (q_goto (t := 754) rfl hrr)))) ?_
                                        refine rw_blk lk_L_isAct_754 ?_
                                        refine rw_icmp_ne ⟨by omega, by omega⟩ ⟨by omega, by omega⟩ (t := 761) rfl (fun hc55 => ?_) (fun hc55 => ?_)
                                        · exfalso; omega
                                        · skip
                                          refine rw_of (fun rr hrr => q_iconst (q_goto (t := 762) rfl hrr)) ?_
                                          refine rw_blk lk_L_isAct_762 ?_
                                          refine lw_end hQ (q_ireturn (by omega)) (by omega) (by omega) (FrS_tr (by omega) FrS_rfl hS52) ?_
                                          exact ⟨rfl, k, cp, ci + 1, N, by omega, (hC52).1, (((kB hm49 (by omega)).trans (congrFun (kN hm46 (by omega)) _)).trans hg0), (((kB hm49 (by omega)).trans (congrFun (kN hm46 (by omega)) _)).trans hg1), ((show e50 gg 2 = (((ci : Nat) : Int) + 1) from (kA hm49)).trans (by omega)), ⟨PP, fun i hi => (show e50 rp i = nn rp i from congrFun ((kN hm49 (by omega)).trans (kN hm46 (by omega))) _).trans (hpp i hi), fun i hi => (hpc i hi).trans (congrFun hO52 i).symm⟩, fun i hi => by
                                              rw [hE52 i, kN hm49 hug]
                                              by_cases q : i = ci
                                              · rw [if_pos q, q]
                                                exact kA hm46
                                              · rw [if_neg q]
                                                exact (kB hm46 q).trans (huu i (by omega))⟩
                                    · exact absurd hc53 (by decide)
                                  · exact absurd hc51 (by decide)
                            · exact absurd hc43 (by decide)
                      · exact absurd hc30 (by decide)
              refine rw_if_ne ⟨by omega, by omega⟩ (t := 590) rfl (fun hc56 => ?_) (fun hc56 => ?_)
              · skip
                refine rw_blk lk_L_isAct_590 ?_
                refine rw_of (fun rr hrr => q_iload rfl (q_bipush rfl (q_irem ⟨by omega, by omega⟩ ⟨by omega, by omega⟩ (by omega) (show (((two : Nat) : Int)).tmod (7) = ((two % 7 : Nat) : Int) by rfl) (q_iconst (q_isub hrr))))) ?_
                have hA57 : -10007 ≤ ((((two % 7 : Nat) : Int) - 3)) ∧ ((((two % 7 : Nat) : Int) - 3)) ≤ 10007 := by
                  omega
                exact rw_casts (hL597 _ _ ((((two % 7 : Nat) : Int) - 3)) hA57) rfl rfl
              · skip
                refine rw_of (fun rr hrr => q_iload rfl (q_sipush rfl (q_irem ⟨by omega, by omega⟩ ⟨by omega, by omega⟩ (by omega) (show (((two : Nat) : Int)).tmod (20015) = ((two % 20015 : Nat) : Int) by rfl) (q_sipush rfl (q_isub (q_goto (t := 597) rfl hrr)))))) ?_
                have hA58 : -10007 ≤ ((((two % 20015 : Nat) : Int) - 10007)) ∧ ((((two % 20015 : Nat) : Int) - 10007)) ≤ 10007 := by
                  omega
                exact rw_casts (hL597 _ _ ((((two % 20015 : Nat) : Int) - 10007)) hA58) rfl rfl
            · exact absurd hc6 (by decide)
          · exact absurd hc5 (by decide)
      · exact absurd hc3 (by decide)
    · exact absurd hc2 (by decide)
  · exact absurd hc1 (by decide)
theorem c_L_isAct6 {d : Nat} {X : MC} {m : M1} {p : M2} {K : Nat} {sh : Nat → Nat} {nn : N2} (hd : 11 ≤ d) (hK : 260 ≤ K) (rp ur gg one two : Nat) (k cp ci : Nat) (N : Nat → Nat) (hC0 : CI k N cp ci m p) (hpr : Ro K sh rp 32) (hur : Ro K sh ur 20) (hgr : Ro K sh gg 3) (hrg : rp ≠ gg) (hug : ur ≠ gg) (hru : rp ≠ ur) (hLR : LR rp ur gg k cp ci m nn) (h1 : one < 60000) (h2 : two < 60000) (hk1 : 1 ≤ k) : Lc d k_L_isAct X [.ref (1), .ref (rp), .ref (ur), .ref (gg), .int (iI (6)), .int (iI (((one : Nat) : Int))), .int (iI (((two : Nat) : Int)))] m p K sh nn (fun v m' p' K' sh' n' => v = some (.int (iI 1)) ∧ ∃ k' cp' ci', ∃ N' : Nat → Nat, k ≤ k' ∧ CI k' N' cp' ci' m' p' ∧ LR rp ur gg k' cp' ci' m' n') := by
  obtain ⟨d, rfl⟩ : ∃ e, d = e + 1 := ⟨d - 1, by omega⟩
  have hpr8 := hpr.1; have hpr9 := hpr.2.1
  have hur8 := hur.1; have hur9 := hur.2.1
  have hgr8 := hgr.1; have hgr9 := hgr.2.1
  have hC := CS_rf hC0
  have hk12 := hC.k12
  have hcp16 := hC.p16
  have hci20 := hC.i20
  obtain ⟨hg0, hg1, hg2, ⟨PP, hpp, hpc⟩, huu⟩ := hLR
  obtain ⟨sy, hsy0⟩ : ∃ z, z = one % (k + 1) := ⟨_, rfl⟩
  obtain ⟨ot, hot0⟩ : ∃ z, z = two % (k + 1) := ⟨_, rfl⟩
  have hsy : sy ≤ k := by rw [hsy0]; exact Nat.le_of_lt_succ (Nat.mod_lt _ (Nat.succ_pos _))
  have hot : ot ≤ k := by rw [hot0]; exact Nat.le_of_lt_succ (Nat.mod_lt _ (Nat.succ_pos _))
  refine lc_go (lv := [some (.ref (1)), some (.ref (rp)), some (.ref (ur)), some (.ref (gg)), some (.int (iI (6))), some (.int (iI (((one : Nat) : Int)))), some (.int (iI (((two : Nat) : Int)))), none, none, none, none, none, none, none, none, none, none]) (B := 7) (Nat.le_of_ble_eq_true rfl) (okar_cons rfl (okar_cons rfl (okar_cons rfl (okar_cons rfl (okar_cons rfl (okar_cons rfl (okar_cons rfl okar_nil))))))) rfl rfl (fun Qr hQ => ?_)
  refine rw_blk lk_L_isAct_0 ?_
  refine rw_of (fun rr hrr => q_iload rfl (q_aload_n rfl (q_iconst (q_lald (j := 0) hgr rfl (by omega) hg0 (q_iconst (q_iadd (q_irem ⟨by omega, by omega⟩ ⟨by omega, by omega⟩ (by omega) (show (((one : Nat) : Int)).tmod ((((k : Nat) : Int) + 1)) = ((sy : Nat) : Int) from by rw [hsy0]; rfl) (q_istore (Nat.le_of_ble_eq_true rfl) rfl (q_iload rfl (q_aload_n rfl (q_iconst (q_lald (j := 0) hgr rfl (by omega) hg0 (q_iconst (q_iadd (q_irem ⟨by omega, by omega⟩ ⟨by omega, by omega⟩ (by omega) (show (((two : Nat) : Int)).tmod ((((k : Nat) : Int) + 1)) = ((ot : Nat) : Int) from by rw [hot0]; rfl) (q_istore (Nat.le_of_ble_eq_true rfl) rfl (q_iload rfl hrr))))))))))))))))) ?_
  refine rw_if_ne ⟨by omega, by omega⟩ (t := 133) rfl (fun hc1 => ?_) (fun hc1 => ?_)
  · skip
    refine rw_blk lk_L_isAct_133 ?_
    refine rw_of (fun rr hrr => q_iload rfl (q_iconst hrr)) ?_
    refine rw_icmp_ge ⟨by omega, by omega⟩ ⟨by omega, by omega⟩ (t := 312) rfl (fun hc2 => ?_) (fun hc2 => ?_)
    · skip
      refine rw_blk lk_L_isAct_312 ?_
      refine rw_of (fun rr hrr => q_iload rfl (q_iconst hrr)) ?_
      refine rw_icmp_ne ⟨by omega, by omega⟩ ⟨by omega, by omega⟩ (t := 538) rfl (fun hc3 => ?_) (fun hc3 => ?_)
      · skip
        refine rw_blk lk_L_isAct_538 ?_
        refine rw_of (fun rr hrr => q_iload rfl (q_bipush rfl hrr)) ?_
        refine rw_icmp_ge ⟨by omega, by omega⟩ ⟨by omega, by omega⟩ (t := 763) rfl (fun hc4 => ?_) (fun hc4 => ?_)
        · skip
          refine rw_blk lk_L_isAct_763 ?_
          refine rw_of (fun rr hrr => q_iload rfl (q_bipush rfl hrr)) ?_
          refine rw_icmp_ne ⟨by omega, by omega⟩ ⟨by omega, by omega⟩ (t := 838) rfl (fun hc5 => ?_) (fun hc5 => ?_)
          · exact absurd hc5 (by decide)
          · skip
            refine rw_of (fun rr hrr => q_aload_n rfl (q_iconst (q_lald (j := 1) hgr rfl (by omega) hg1 (q_aload_n rfl (q_iconst (q_lald (j := 2) hgr rfl (by omega) hg2 (q_iadd (q_istore (Nat.le_of_ble_eq_true rfl) rfl (q_aload_n rfl (q_iconst (q_iload rfl (q_bipush rfl (q_irem ⟨by omega, by omega⟩ ⟨by omega, by omega⟩ (by omega) (show (((one : Nat) : Int)).tmod (9) = ((one % 9 : Nat) : Int) by rfl) hrr))))))))))))) ?_
            refine rw_if_ne ⟨by omega, by omega⟩ (t := 793) rfl (fun hc6 => ?_) (fun hc6 => ?_)
            · skip
              refine rw_blk lk_L_isAct_793 ?_
              refine rw_of (fun rr hrr => q_aload_n rfl (q_iconst (q_lald (j := 1) hgr rfl (by omega) hg1 hrr))) ?_
              refine rw_blk lk_L_isAct_796 ?_
              refine rw_of (fun rr hrr => q_last (j := 1) hgr rfl (by omega) hrr) ?_
              generalize hm7 : wI nn gg 1 (((cp : Nat) : Int)) = e8
              refine rw_of (fun rr hrr => q_aload_n rfl (q_iconst (q_iload rfl (q_bipush rfl (q_irem ⟨by omega, by omega⟩ ⟨by omega, by omega⟩ (by omega) (show (((one : Nat) : Int)).tmod (9) = ((one % 9 : Nat) : Int) by rfl) hrr))))) ?_
              refine rw_if_ne ⟨by omega, by omega⟩ (t := 811) rfl (fun hc9 => ?_) (fun hc9 => ?_)
              · skip
                refine rw_blk lk_L_isAct_811 ?_
                refine rw_of (fun rr hrr => q_aload_n rfl (q_iconst (q_lald (j := 2) hgr rfl (by omega) ((kB hm7 (by omega)).trans hg2) hrr))) ?_
                refine rw_blk lk_L_isAct_814 ?_
                refine rw_of (fun rr hrr => q_last (j := 2) hgr rfl (by omega) hrr) ?_
                generalize hm10 : wI e8 gg 2 (((ci : Nat) : Int)) = e11
                refine rw_of (fun rr hrr => q_iload rfl (q_bipush rfl (q_irem ⟨by omega, by omega⟩ ⟨by omega, by omega⟩ (by omega) (show (((one : Nat) : Int)).tmod (9) = ((one % 9 : Nat) : Int) by rfl) hrr))) ?_
                refine rw_if_gt ⟨by omega, by omega⟩ (t := 832) rfl (fun hc12 => ?_) (fun hc12 => ?_)
                · skip
                  refine rw_blk lk_L_isAct_832 ?_
                  refine rw_of (fun rr hrr => q_iconst (q_goto (t := 837) rfl hrr)) ?_
                  refine rw_blk lk_L_isAct_837 ?_
                  refine lw_end hQ (q_ireturn (by omega)) (by omega) (by omega) FrS_rfl ?_
                  exact ⟨rfl, k, cp, ci, N, by omega, (hC).1, (((kB hm10 (by omega)).trans (kB hm7 (by omega))).trans hg0), ((kB hm10 (by omega)).trans (kA hm7)), (kA hm10), ⟨PP, fun i hi => (show e11 rp i = nn rp i from congrFun ((kN hm10 (by omega)).trans (kN hm7 (by omega))) _).trans (hpp i hi), fun i hi => (hpc i hi).trans (congrFun (hC).P i).symm⟩, fun i hi => ((show e11 ur i = nn ur i from congrFun ((kN hm10 (by omega)).trans (kN hm7 (by omega))) _).trans (huu i hi)).trans (congrArg vF (congrFun (hC).U i).symm)⟩
                · exfalso; omega
              · exfalso; omega
            · skip
              refine rw_of (fun rr hrr => q_iconst (q_goto (t := 796) rfl hrr)) ?_
              refine rw_blk lk_L_isAct_796 ?_
              refine rw_of (fun rr hrr => q_last (j := 1) hgr rfl (by omega) hrr) ?_
              generalize hm13 : wI nn gg 1 (0) = e14
              refine rw_of (fun rr hrr => q_aload_n rfl (q_iconst (q_iload rfl (q_bipush rfl (q_irem ⟨by omega, by omega⟩ ⟨by omega, by omega⟩ (by omega) (show (((one : Nat) : Int)).tmod (9) = ((one % 9 : Nat) : Int) by rfl) hrr))))) ?_
              refine rw_if_ne ⟨by omega, by omega⟩ (t := 811) rfl (fun hc15 => ?_) (fun hc15 => ?_)
              · exfalso; omega
              · skip
                refine rw_of (fun rr hrr => q_iconst (q_goto (t := 814) rfl hrr)) ?_
                refine rw_blk lk_L_isAct_814 ?_
                refine rw_of (fun rr hrr => q_last (j := 2) hgr rfl (by omega) hrr) ?_
                generalize hm16 : wI e14 gg 2 (0) = e17
                refine rw_of (fun rr hrr => q_iload rfl (q_bipush rfl (q_irem ⟨by omega, by omega⟩ ⟨by omega, by omega⟩ (by omega) (show (((one : Nat) : Int)).tmod (9) = ((one % 9 : Nat) : Int) by rfl) hrr))) ?_
                refine rw_if_gt ⟨by omega, by omega⟩ (t := 832) rfl (fun hc18 => ?_) (fun hc18 => ?_)
                · exfalso; omega
                · skip
                  refine rw_of (fun rr hrr => q_aload_n rfl hrr) ?_
                  obtain ⟨_, mm19, pp19, hV19, rfl, hC19⟩ := w_clear (S := (K, gB X sh e17)) (d := d) (by omega) hC 
                  refine rw_of (fun rr hrr => q_invV hV19 (show SH 1 = (17, 0) from rfl) rfl rfl okar_nil (Nat.le_of_ble_eq_true rfl) (q_iload rfl hrr)) ?_
                  refine rw_icmp_ne ⟨by omega, by omega⟩ ⟨by omega, by omega⟩ (t := 836) rfl (fun hc20 => ?_) (fun hc20 => ?_)
                  · exfalso; omega
                  · skip
                    refine rw_blk lk_L_isAct_832 ?_
                    refine rw_of (fun rr hrr => q_iconst (q_goto (t := 837) rfl hrr)) ?_
                    refine rw_blk lk_L_isAct_837 ?_
                    refine lw_end hQ (q_ireturn (by omega)) (by omega) (by omega) FrS_rfl ?_
                    exact ⟨rfl, k, 0, 0, N, by omega, (hC19).1, (((kB hm16 (by omega)).trans (kB hm13 (by omega))).trans hg0), ((show e17 gg 1 = 0 from ((kB hm16 (by omega)).trans (kA hm13))).trans (by omega)), ((show e17 gg 2 = 0 from (kA hm16)).trans (by omega)), ⟨PP, fun i hi => (show e17 rp i = nn rp i from congrFun ((kN hm16 (by omega)).trans (kN hm13 (by omega))) _).trans (hpp i hi), fun i hi => absurd hi (Nat.not_lt_zero i)⟩, fun i hi => absurd hi (Nat.not_lt_zero i)⟩
        · exact absurd hc4 (by decide)
      · exact absurd hc3 (by decide)
    · exact absurd hc2 (by decide)
  · exact absurd hc1 (by decide)
theorem c_L_isAct7 {d : Nat} {X : MC} {m : M1} {p : M2} {K : Nat} {sh : Nat → Nat} {nn : N2} (hd : 11 ≤ d) (hK : 260 ≤ K) (rp ur gg one two : Nat) (k cp ci : Nat) (N : Nat → Nat) (hC0 : CI k N cp ci m p) (hpr : Ro K sh rp 32) (hur : Ro K sh ur 20) (hgr : Ro K sh gg 3) (hrg : rp ≠ gg) (hug : ur ≠ gg) (hru : rp ≠ ur) (hLR : LR rp ur gg k cp ci m nn) (h1 : one < 60000) (h2 : two < 60000) (hk1 : 1 ≤ k) : Lc d k_L_isAct X [.ref (1), .ref (rp), .ref (ur), .ref (gg), .int (iI (7)), .int (iI (((one : Nat) : Int))), .int (iI (((two : Nat) : Int)))] m p K sh nn (fun v m' p' K' sh' n' => v = some (.int (iI 1)) ∧ ∃ k' cp' ci', ∃ N' : Nat → Nat, k ≤ k' ∧ CI k' N' cp' ci' m' p' ∧ LR rp ur gg k' cp' ci' m' n') := by
  obtain ⟨d, rfl⟩ : ∃ e, d = e + 1 := ⟨d - 1, by omega⟩
  have hpr8 := hpr.1; have hpr9 := hpr.2.1
  have hur8 := hur.1; have hur9 := hur.2.1
  have hgr8 := hgr.1; have hgr9 := hgr.2.1
  have hC := CS_rf hC0
  have hk12 := hC.k12
  have hcp16 := hC.p16
  have hci20 := hC.i20
  obtain ⟨hg0, hg1, hg2, ⟨PP, hpp, hpc⟩, huu⟩ := hLR
  obtain ⟨sy, hsy0⟩ : ∃ z, z = one % (k + 1) := ⟨_, rfl⟩
  obtain ⟨ot, hot0⟩ : ∃ z, z = two % (k + 1) := ⟨_, rfl⟩
  have hsy : sy ≤ k := by rw [hsy0]; exact Nat.le_of_lt_succ (Nat.mod_lt _ (Nat.succ_pos _))
  have hot : ot ≤ k := by rw [hot0]; exact Nat.le_of_lt_succ (Nat.mod_lt _ (Nat.succ_pos _))
  refine lc_go (lv := [some (.ref (1)), some (.ref (rp)), some (.ref (ur)), some (.ref (gg)), some (.int (iI (7))), some (.int (iI (((one : Nat) : Int)))), some (.int (iI (((two : Nat) : Int)))), none, none, none, none, none, none, none, none, none, none]) (B := 7) (Nat.le_of_ble_eq_true rfl) (okar_cons rfl (okar_cons rfl (okar_cons rfl (okar_cons rfl (okar_cons rfl (okar_cons rfl (okar_cons rfl okar_nil))))))) rfl rfl (fun Qr hQ => ?_)
  refine rw_blk lk_L_isAct_0 ?_
  refine rw_of (fun rr hrr => q_iload rfl (q_aload_n rfl (q_iconst (q_lald (j := 0) hgr rfl (by omega) hg0 (q_iconst (q_iadd (q_irem ⟨by omega, by omega⟩ ⟨by omega, by omega⟩ (by omega) (show (((one : Nat) : Int)).tmod ((((k : Nat) : Int) + 1)) = ((sy : Nat) : Int) from by rw [hsy0]; rfl) (q_istore (Nat.le_of_ble_eq_true rfl) rfl (q_iload rfl (q_aload_n rfl (q_iconst (q_lald (j := 0) hgr rfl (by omega) hg0 (q_iconst (q_iadd (q_irem ⟨by omega, by omega⟩ ⟨by omega, by omega⟩ (by omega) (show (((two : Nat) : Int)).tmod ((((k : Nat) : Int) + 1)) = ((ot : Nat) : Int) from by rw [hot0]; rfl) (q_istore (Nat.le_of_ble_eq_true rfl) rfl (q_iload rfl hrr))))))))))))))))) ?_
  refine rw_if_ne ⟨by omega, by omega⟩ (t := 133) rfl (fun hc1 => ?_) (fun hc1 => ?_)
  · skip
    refine rw_blk lk_L_isAct_133 ?_
    refine rw_of (fun rr hrr => q_iload rfl (q_iconst hrr)) ?_
    refine rw_icmp_ge ⟨by omega, by omega⟩ ⟨by omega, by omega⟩ (t := 312) rfl (fun hc2 => ?_) (fun hc2 => ?_)
    · skip
      refine rw_blk lk_L_isAct_312 ?_
      refine rw_of (fun rr hrr => q_iload rfl (q_iconst hrr)) ?_
      refine rw_icmp_ne ⟨by omega, by omega⟩ ⟨by omega, by omega⟩ (t := 538) rfl (fun hc3 => ?_) (fun hc3 => ?_)
      · skip
        refine rw_blk lk_L_isAct_538 ?_
        refine rw_of (fun rr hrr => q_iload rfl (q_bipush rfl hrr)) ?_
        refine rw_icmp_ge ⟨by omega, by omega⟩ ⟨by omega, by omega⟩ (t := 763) rfl (fun hc4 => ?_) (fun hc4 => ?_)
        · skip
          refine rw_blk lk_L_isAct_763 ?_
          refine rw_of (fun rr hrr => q_iload rfl (q_bipush rfl hrr)) ?_
          refine rw_icmp_ne ⟨by omega, by omega⟩ ⟨by omega, by omega⟩ (t := 838) rfl (fun hc5 => ?_) (fun hc5 => ?_)
          · skip
            refine rw_blk lk_L_isAct_838 ?_
            refine rw_of (fun rr hrr => q_iload rfl (q_bipush rfl hrr)) ?_
            refine rw_icmp_ge ⟨by omega, by omega⟩ ⟨by omega, by omega⟩ (t := 1085) rfl (fun hc6 => ?_) (fun hc6 => ?_)
            · exact absurd hc6 (by decide)
            · skip
              refine rw_of (fun rr hrr => q_iload rfl (q_bipush rfl hrr)) ?_
              refine rw_icmp_ne ⟨by omega, by omega⟩ ⟨by omega, by omega⟩ (t := 856) rfl (fun hc7 => ?_) (fun hc7 => ?_)
              · skip
                refine rw_blk lk_L_isAct_856 ?_
                refine rw_of (fun rr hrr => q_iconst hrr) ?_
                refine rw_blk lk_L_isAct_857 ?_
                refine rw_of (fun rr hrr => q_istore (Nat.le_of_ble_eq_true rfl) rfl (q_iload rfl (q_aload_n rfl (q_iconst (q_lald (j := 0) hgr rfl (by omega) hg0 hrr))))) ?_
                refine rw_icmp_ge ⟨by omega, by omega⟩ ⟨by omega, by omega⟩ (t := 871) rfl (fun hc8 => ?_) (fun hc8 => ?_)
                · skip
                  refine rw_blk lk_L_isAct_871 ?_
                  refine rw_of (fun rr hrr => q_iconst hrr) ?_
                  refine rw_blk lk_L_isAct_872 ?_
                  refine rw_of (fun rr hrr => q_istore (Nat.le_of_ble_eq_true rfl) rfl (q_iload rfl hrr)) ?_
                  refine rw_if_eq ⟨by omega, by omega⟩ (t := 888) rfl (fun hc9 => ?_) (fun hc9 => ?_)
                  · skip
                    refine rw_blk lk_L_isAct_888 ?_
                    refine rw_of (fun rr hrr => q_iconst hrr) ?_
                    refine rw_blk lk_L_isAct_889 ?_
                    refine rw_of (fun rr hrr => q_istore (Nat.le_of_ble_eq_true rfl) rfl (q_iload rfl hrr)) ?_
                    refine rw_if_eq ⟨by omega, by omega⟩ (t := 940) rfl (fun hc10 => ?_) (fun hc10 => ?_)
                    · skip
                      refine rw_blk lk_L_isAct_940 ?_
                      refine rw_of (fun rr hrr => q_iconst hrr) ?_
                      refine rw_blk lk_L_isAct_941 ?_
                      refine rw_of (fun rr hrr => q_istore (Nat.le_of_ble_eq_true rfl) rfl (q_iload rfl hrr)) ?_
                      refine rw_if_eq ⟨by omega, by omega⟩ (t := 987) rfl (fun hc11 => ?_) (fun hc11 => ?_)
                      · skip
                        refine rw_blk lk_L_isAct_987 ?_
                        refine rw_of (fun rr hrr => q_iconst hrr) ?_
                        refine rw_blk lk_L_isAct_988 ?_
                        refine rw_of (fun rr hrr => q_istore (Nat.le_of_ble_eq_true rfl) rfl (q_aload_n rfl (q_iconst (q_dup2 rfl rfl (q_lald (j := 0) hgr rfl (by omega) hg0 (q_iload rfl hrr)))))) ?_
                        refine rw_if_eq ⟨by omega, by omega⟩ (t := 1003) rfl (fun hc12 => ?_) (fun hc12 => ?_)
                        · skip
                          refine rw_blk lk_L_isAct_1003 ?_
                          refine rw_of (fun rr hrr => q_iconst hrr) ?_
                          refine rw_blk lk_L_isAct_1004 ?_
                          refine rw_of (fun rr hrr => q_iadd (q_last (j := 0) hgr rfl (by omega) hrr)) ?_
                          generalize hm13 : wI nn gg 0 ((((k : Nat) : Int) + 0)) = e14
                          refine rw_of (fun rr hrr => q_aload_n rfl (q_iload rfl hrr)) ?_
                          refine rw_if_eq ⟨by omega, by omega⟩ (t := 1017) rfl (fun hc15 => ?_) (fun hc15 => ?_)
                          · skip
                            refine rw_blk lk_L_isAct_1017 ?_
                            refine rw_of (fun rr hrr => q_bipush rfl hrr) ?_
                            refine rw_blk lk_L_isAct_1019 ?_
                            refine rw_of (fun rr hrr => q_iload rfl (q_iconst (q_iconst (q_iconst (q_iconst hrr))))) ?_
                            obtain ⟨_, mm16, pp16, K16, _, _, cc16, ss16, hV16, hK16, hKB16, hS16, rfl, hC16, rfl, rfl⟩ := e_placedP (X := X) (K := K) (sh := sh) (nn := e14) (d := d) (by omega) hC (s := sy) (by omega) (by omega)
                            have hKB16 : K16 ≤ K + 1 := hKB16
                            refine rw_of (fun rr hrr => q_invS hV16 rfl rfl (okar_cons rfl (okar_cons rfl (okar_cons rfl (okar_cons rfl (okar_cons rfl (okar_cons rfl (okar_cons rfl okar_nil))))))) (Nat.le_of_ble_eq_true rfl) (q_iload rfl hrr)) ?_
                            refine rw_if_ne ⟨by omega, by omega⟩ (t := 1039) rfl (fun hc17 => ?_) (fun hc17 => ?_)
                            · exact absurd hc17 (by decide)
                            · skip
                              refine rw_of (fun rr hrr => q_sipush rfl (q_goto (t := 1055) rfl hrr)) ?_
                              refine rw_blk lk_L_isAct_1055 ?_
                              refine rw_icmp_ne ⟨by omega, by omega⟩ ⟨by omega, by omega⟩ (t := 1083) rfl (fun hc18 => ?_) (fun hc18 => ?_)
                              · exfalso; omega
                              · skip
                                refine rw_of (fun rr hrr => q_iload rfl hrr) ?_
                                refine rw_if_eq ⟨by omega, by omega⟩ (t := 1079) rfl (fun hc19 => ?_) (fun hc19 => ?_)
                                · skip
                                  refine rw_blk lk_L_isAct_1079 ?_
                                  refine rw_of (fun rr hrr => q_iconst (q_goto (t := 1084) rfl hrr)) ?_
                                  refine rw_blk lk_L_isAct_1084 ?_
                                  refine lw_end hQ (q_ireturn (by omega)) (by omega) (by omega) (FrS_tr (by omega) FrS_rfl hS16) ?_
                                  exact ⟨rfl, k, cp, ci, N, by omega, (hC16).1, ((show e14 gg 0 = (((k : Nat) : Int) + 0) from (kA hm13)).trans (by omega)), ((kB hm13 (by omega)).trans hg1), ((kB hm13 (by omega)).trans hg2), ⟨PP, fun i hi => (show e14 rp i = nn rp i from congrFun (kN hm13 (by omega)) _).trans (hpp i hi), fun i hi => (hpc i hi).trans (congrFun (hC16).P i).symm⟩, fun i hi => ((show e14 ur i = nn ur i from congrFun (kN hm13 (by omega)) _).trans (huu i hi)).trans (congrArg vF (congrFun (hC16).U i).symm)⟩
                                · exact absurd hc19 (by decide)
                          · exact absurd hc15 (by decide)
                        · exact absurd hc12 (by decide)
                      · exact absurd hc11 (by decide)
                    · exact absurd hc10 (by decide)
                  · exact absurd hc9 (by decide)
                · skip
                  refine rw_of (fun rr hrr => q_iconst (q_goto (t := 872) rfl hrr)) ?_
                  refine rw_blk lk_L_isAct_872 ?_
                  refine rw_of (fun rr hrr => q_istore (Nat.le_of_ble_eq_true rfl) rfl (q_iload rfl hrr)) ?_
                  refine rw_if_eq ⟨by omega, by omega⟩ (t := 888) rfl (fun hc20 => ?_) (fun hc20 => ?_)
                  · exact absurd hc20 (by decide)
                  · skip
                    refine rw_of (fun rr hrr => q_aload_n rfl (q_iload rfl hrr)) ?_
                    obtain ⟨_, mm21, pp21, hV21, rfl, hC21⟩ := w_order (S := (K, gB X sh nn)) (d := d) (by omega) hC (s := sy) (by omega)
                    refine rw_of (fun rr hrr => q_invV hV21 (show SH 1 = (17, 0) from rfl) rfl rfl (okar_cons rfl okar_nil) (Nat.le_of_ble_eq_true rfl) hrr) ?_
                    have hN8 := hC.N8 (s := sy) (by omega)
                    have hrl0 := rk_le (n := N sy) (A := kr (N sy) (SA m sy) (Sb m sy))
                    have hrl1 := rk_le (n := N sy) (A := kr (N sy) (trp (SA m sy)) (Sc m sy))
                    refine rw_of (fun rr hrr => q_goto (t := 889) rfl hrr) ?_
                    refine rw_blk lk_L_isAct_889 ?_
                    refine rw_of (fun rr hrr => q_istore (Nat.le_of_ble_eq_true rfl) rfl (q_iload rfl hrr)) ?_
                    refine rw_if_eq ⟨by omega, by omega⟩ (t := 940) rfl (fun hc22 => ?_) (fun hc22 => ?_)
                    · exact absurd hc22 (by decide)
                    · skip
                      refine rw_of (fun rr hrr => q_aload_n rfl (q_iconst (q_lald (j := 1) hgr rfl (by omega) hg1 (q_iload rfl hrr)))) ?_
                      refine rw_if_eq ⟨by omega, by omega⟩ (t := 911) rfl (fun hc23 => ?_) (fun hc23 => ?_)
                      · skip
                        refine rw_blk lk_L_isAct_911 ?_
                        refine rw_of (fun rr hrr => q_iload rfl hrr) ?_
                        refine rw_blk lk_L_isAct_913 ?_
                        refine rw_icmp_lt ⟨by omega, by omega⟩ ⟨by omega, by omega⟩ (t := 940) rfl (fun hc24 => ?_) (fun hc24 => ?_)
                        · skip
                          refine rw_blk lk_L_isAct_940 ?_
                          refine rw_of (fun rr hrr => q_iconst hrr) ?_
                          refine rw_blk lk_L_isAct_941 ?_
                          refine rw_of (fun rr hrr => q_istore (Nat.le_of_ble_eq_true rfl) rfl (q_iload rfl hrr)) ?_
                          refine rw_if_eq ⟨by omega, by omega⟩ (t := 987) rfl (fun hc25 => ?_) (fun hc25 => ?_)
                          · skip
                            refine rw_blk lk_L_isAct_987 ?_
                            refine rw_of (fun rr hrr => q_iconst hrr) ?_
                            refine rw_blk lk_L_isAct_988 ?_
                            refine rw_of (fun rr hrr => q_istore (Nat.le_of_ble_eq_true rfl) rfl (q_aload_n rfl (q_iconst (q_dup2 rfl rfl (q_lald (j := 0) hgr rfl (by omega) hg0 (q_iload rfl hrr)))))) ?_
                            refine rw_if_eq ⟨by omega, by omega⟩ (t := 1003) rfl (fun hc26 => ?_) (fun hc26 => ?_)
                            · skip
                              refine rw_blk lk_L_isAct_1003 ?_
                              refine rw_of (fun rr hrr => q_iconst hrr) ?_
                              refine rw_blk lk_L_isAct_1004 ?_
                              refine rw_of (fun rr hrr => q_iadd (q_last (j := 0) hgr rfl (by omega) hrr)) ?_
                              generalize hm27 : wI nn gg 0 ((((k : Nat) : Int) + 0)) = e28
                              refine rw_of (fun rr hrr => q_aload_n rfl (q_iload rfl hrr)) ?_
                              refine rw_if_eq ⟨by omega, by omega⟩ (t := 1017) rfl (fun hc29 => ?_) (fun hc29 => ?_)
                              · skip
                                refine rw_blk lk_L_isAct_1017 ?_
                                refine rw_of (fun rr hrr => q_bipush rfl hrr) ?_
                                refine rw_blk lk_L_isAct_1019 ?_
                                refine rw_of (fun rr hrr => q_iload rfl (q_iconst (q_iconst (q_iconst (q_iconst hrr))))) ?_
                                obtain ⟨_, mm30, pp30, K30, _, _, cc30, ss30, hV30, hK30, hKB30, hS30, rfl, hC30, rfl, rfl⟩ := e_placedN (X := X) (K := K) (sh := sh) (nn := e28) (d := d) (by omega) hC21 (s := sy) (by omega) (fun e => by obtain ⟨e1, e2, e3⟩ := e; omega)
                                have hKB30 : K30 ≤ K + 1 := hKB30
                                refine rw_of (fun rr hrr => q_invS hV30 rfl rfl (okar_cons rfl (okar_cons rfl (okar_cons rfl (okar_cons rfl (okar_cons rfl (okar_cons rfl (okar_cons rfl okar_nil))))))) (Nat.le_of_ble_eq_true rfl) (q_iload rfl hrr)) ?_
                                refine rw_if_ne ⟨by omega, by omega⟩ (t := 1039) rfl (fun hc31 => ?_) (fun hc31 => ?_)
                                · skip
                                  refine rw_blk lk_L_isAct_1039 ?_
                                  refine rw_of (fun rr hrr => q_iload rfl hrr) ?_
                                  refine rw_if_eq ⟨by omega, by omega⟩ (t := 1052) rfl (fun hc32 => ?_) (fun hc32 => ?_)
                                  · skip
                                    refine rw_blk lk_L_isAct_1052 ?_
                                    refine rw_of (fun rr hrr => q_sipush rfl hrr) ?_
                                    refine rw_blk lk_L_isAct_1055 ?_
                                    refine rw_icmp_ne ⟨by omega, by omega⟩ ⟨by omega, by omega⟩ (t := 1083) rfl (fun hc33 => ?_) (fun hc33 => ?_)
                                    · exfalso; omega
                                    · skip
                                      refine rw_of (fun rr hrr => q_iload rfl hrr) ?_
                                      refine rw_if_eq ⟨by omega, by omega⟩ (t := 1079) rfl (fun hc34 => ?_) (fun hc34 => ?_)
                                      · skip
                                        refine rw_blk lk_L_isAct_1079 ?_
                                        refine rw_of (fun rr hrr => q_iconst (q_goto (t := 1084) rfl hrr)) ?_
                                        refine rw_blk lk_L_isAct_1084 ?_
                                        refine lw_end hQ (q_ireturn (by omega)) (by omega) (by omega) (FrS_tr (by omega) FrS_rfl hS30) ?_
                                        exact ⟨rfl, k, cp, ci, N, by omega, (hC30).1, ((show e28 gg 0 = (((k : Nat) : Int) + 0) from (kA hm27)).trans (by omega)), ((kB hm27 (by omega)).trans hg1), ((kB hm27 (by omega)).trans hg2), ⟨PP, fun i hi => (show e28 rp i = nn rp i from congrFun (kN hm27 (by omega)) _).trans (hpp i hi), fun i hi => (hpc i hi).trans (congrFun (hC30).P i).symm⟩, fun i hi => ((show e28 ur i = nn ur i from congrFun (kN hm27 (by omega)) _).trans (huu i hi)).trans (congrArg vF (congrFun (hC30).U i).symm)⟩
                                      · exact absurd hc34 (by decide)
                                  · exact absurd hc32 (by decide)
                                · exact absurd hc31 (by decide)
                              · exact absurd hc29 (by decide)
                            · exact absurd hc26 (by decide)
                          · exact absurd hc25 (by decide)
                        · skip
                          refine rw_of (fun rr hrr => q_aload_n rfl (q_iload rfl (q_iconst hrr))) ?_
                          obtain ⟨_, mm35, pp35, hV35, rfl, hC35⟩ := w_rank0 (S := (K, gB X sh nn)) (d := d) (by omega) hC21 (s := sy) (by omega)
                          refine rw_of (fun rr hrr => q_invV hV35 (show SH 1 = (17, 0) from rfl) rfl rfl (okar_cons rfl (okar_cons rfl okar_nil)) (Nat.le_of_ble_eq_true rfl) (q_iload rfl hrr)) ?_
                          refine rw_icmp_ne ⟨by omega, by omega⟩ ⟨by omega, by omega⟩ (t := 940) rfl (fun hc36 => ?_) (fun hc36 => ?_)
                          · skip
                            refine rw_blk lk_L_isAct_940 ?_
                            refine rw_of (fun rr hrr => q_iconst hrr) ?_
                            refine rw_blk lk_L_isAct_941 ?_
                            refine rw_of (fun rr hrr => q_istore (Nat.le_of_ble_eq_true rfl) rfl (q_iload rfl hrr)) ?_
                            refine rw_if_eq ⟨by omega, by omega⟩ (t := 987) rfl (fun hc37 => ?_) (fun hc37 => ?_)
                            · skip
                              refine rw_blk lk_L_isAct_987 ?_
                              refine rw_of (fun rr hrr => q_iconst hrr) ?_
                              refine rw_blk lk_L_isAct_988 ?_
                              refine rw_of (fun rr hrr => q_istore (Nat.le_of_ble_eq_true rfl) rfl (q_aload_n rfl (q_iconst (q_dup2 rfl rfl (q_lald (j := 0) hgr rfl (by omega) hg0 (q_iload rfl hrr)))))) ?_
                              refine rw_if_eq ⟨by omega, by omega⟩ (t := 1003) rfl (fun hc38 => ?_) (fun hc38 => ?_)
                              · skip
                                refine rw_blk lk_L_isAct_1003 ?_
                                refine rw_of (fun rr hrr => q_iconst hrr) ?_
                                refine rw_blk lk_L_isAct_1004 ?_
                                refine rw_of (fun rr hrr => q_iadd (q_last (j := 0) hgr rfl (by omega) hrr)) ?_
                                generalize hm39 : wI nn gg 0 ((((k : Nat) : Int) + 0)) = e40
                                refine rw_of (fun rr hrr => q_aload_n rfl (q_iload rfl hrr)) ?_
                                refine rw_if_eq ⟨by omega, by omega⟩ (t := 1017) rfl (fun hc41 => ?_) (fun hc41 => ?_)
                                · skip
                                  refine rw_blk lk_L_isAct_1017 ?_
                                  refine rw_of (fun rr hrr => q_bipush rfl hrr) ?_
                                  refine rw_blk lk_L_isAct_1019 ?_
                                  refine rw_of (fun rr hrr => q_iload rfl (q_iconst (q_iconst (q_iconst (q_iconst hrr))))) ?_
                                  obtain ⟨_, mm42, pp42, K42, _, _, cc42, ss42, hV42, hK42, hKB42, hS42, rfl, hC42, rfl, rfl⟩ := e_placedN (X := X) (K := K) (sh := sh) (nn := e40) (d := d) (by omega) hC35 (s := sy) (by omega) (fun e => by obtain ⟨e1, e2, e3⟩ := e; omega)
                                  have hKB42 : K42 ≤ K + 1 := hKB42
                                  refine rw_of (fun rr hrr => q_invS hV42 rfl rfl (okar_cons rfl (okar_cons rfl (okar_cons rfl (okar_cons rfl (okar_cons rfl (okar_cons rfl (okar_cons rfl okar_nil))))))) (Nat.le_of_ble_eq_true rfl) (q_iload rfl hrr)) ?_
                                  refine rw_if_ne ⟨by omega, by omega⟩ (t := 1039) rfl (fun hc43 => ?_) (fun hc43 => ?_)
                                  · skip
                                    refine rw_blk lk_L_isAct_1039 ?_
                                    refine rw_of (fun rr hrr => q_iload rfl hrr) ?_
                                    refine rw_if_eq ⟨by omega, by omega⟩ (t := 1052) rfl (fun hc44 => ?_) (fun hc44 => ?_)
                                    · skip
                                      refine rw_blk lk_L_isAct_1052 ?_
                                      refine rw_of (fun rr hrr => q_sipush rfl hrr) ?_
                                      refine rw_blk lk_L_isAct_1055 ?_
                                      refine rw_icmp_ne ⟨by omega, by omega⟩ ⟨by omega, by omega⟩ (t := 1083) rfl (fun hc45 => ?_) (fun hc45 => ?_)
                                      · exfalso; omega
                                      · skip
                                        refine rw_of (fun rr hrr => q_iload rfl hrr) ?_
                                        refine rw_if_eq ⟨by omega, by omega⟩ (t := 1079) rfl (fun hc46 => ?_) (fun hc46 => ?_)
                                        · skip
                                          refine rw_blk lk_L_isAct_1079 ?_
                                          refine rw_of (fun rr hrr => q_iconst (q_goto (t := 1084) rfl hrr)) ?_
                                          refine rw_blk lk_L_isAct_1084 ?_
                                          refine lw_end hQ (q_ireturn (by omega)) (by omega) (by omega) (FrS_tr (by omega) FrS_rfl hS42) ?_
                                          exact ⟨rfl, k, cp, ci, N, by omega, (hC42).1, ((show e40 gg 0 = (((k : Nat) : Int) + 0) from (kA hm39)).trans (by omega)), ((kB hm39 (by omega)).trans hg1), ((kB hm39 (by omega)).trans hg2), ⟨PP, fun i hi => (show e40 rp i = nn rp i from congrFun (kN hm39 (by omega)) _).trans (hpp i hi), fun i hi => (hpc i hi).trans (congrFun (hC42).P i).symm⟩, fun i hi => ((show e40 ur i = nn ur i from congrFun (kN hm39 (by omega)) _).trans (huu i hi)).trans (congrArg vF (congrFun (hC42).U i).symm)⟩
                                        · exact absurd hc46 (by decide)
                                    · exact absurd hc44 (by decide)
                                  · exact absurd hc43 (by decide)
                                · exact absurd hc41 (by decide)
                              · exact absurd hc38 (by decide)
                            · exact absurd hc37 (by decide)
                          · skip
                            refine rw_of (fun rr hrr => q_aload_n rfl (q_iconst (q_lald (j := 0) hgr rfl (by omega) hg0 (q_bipush rfl hrr)))) ?_
                            refine rw_icmp_ge ⟨by omega, by omega⟩ ⟨by omega, by omega⟩ (t := 940) rfl (fun hc47 => ?_) (fun hc47 => ?_)
                            · skip
                              refine rw_blk lk_L_isAct_940 ?_
                              refine rw_of (fun rr hrr => q_iconst hrr) ?_
                              refine rw_blk lk_L_isAct_941 ?_
                              refine rw_of (fun rr hrr => q_istore (Nat.le_of_ble_eq_true rfl) rfl (q_iload rfl hrr)) ?_
                              refine rw_if_eq ⟨by omega, by omega⟩ (t := 987) rfl (fun hc48 => ?_) (fun hc48 => ?_)
                              · skip
                                refine rw_blk lk_L_isAct_987 ?_
                                refine rw_of (fun rr hrr => q_iconst hrr) ?_
                                refine rw_blk lk_L_isAct_988 ?_
                                refine rw_of (fun rr hrr => q_istore (Nat.le_of_ble_eq_true rfl) rfl (q_aload_n rfl (q_iconst (q_dup2 rfl rfl (q_lald (j := 0) hgr rfl (by omega) hg0 (q_iload rfl hrr)))))) ?_
                                refine rw_if_eq ⟨by omega, by omega⟩ (t := 1003) rfl (fun hc49 => ?_) (fun hc49 => ?_)
                                · skip
                                  refine rw_blk lk_L_isAct_1003 ?_
                                  refine rw_of (fun rr hrr => q_iconst hrr) ?_
                                  refine rw_blk lk_L_isAct_1004 ?_
                                  refine rw_of (fun rr hrr => q_iadd (q_last (j := 0) hgr rfl (by omega) hrr)) ?_
                                  generalize hm50 : wI nn gg 0 ((((k : Nat) : Int) + 0)) = e51
                                  refine rw_of (fun rr hrr => q_aload_n rfl (q_iload rfl hrr)) ?_
                                  refine rw_if_eq ⟨by omega, by omega⟩ (t := 1017) rfl (fun hc52 => ?_) (fun hc52 => ?_)
                                  · skip
                                    refine rw_blk lk_L_isAct_1017 ?_
                                    refine rw_of (fun rr hrr => q_bipush rfl hrr) ?_
                                    refine rw_blk lk_L_isAct_1019 ?_
                                    refine rw_of (fun rr hrr => q_iload rfl (q_iconst (q_iconst (q_iconst (q_iconst hrr))))) ?_
                                    obtain ⟨_, mm53, pp53, K53, _, _, cc53, ss53, hV53, hK53, hKB53, hS53, rfl, hC53, rfl, rfl⟩ := e_placedN (X := X) (K := K) (sh := sh) (nn := e51) (d := d) (by omega) hC35 (s := sy) (by omega) (fun e => by obtain ⟨e1, e2, e3⟩ := e; omega)
                                    have hKB53 : K53 ≤ K + 1 := hKB53
                                    refine rw_of (fun rr hrr => q_invS hV53 rfl rfl (okar_cons rfl (okar_cons rfl (okar_cons rfl (okar_cons rfl (okar_cons rfl (okar_cons rfl (okar_cons rfl okar_nil))))))) (Nat.le_of_ble_eq_true rfl) (q_iload rfl hrr)) ?_
                                    refine rw_if_ne ⟨by omega, by omega⟩ (t := 1039) rfl (fun hc54 => ?_) (fun hc54 => ?_)
                                    · skip
                                      refine rw_blk lk_L_isAct_1039 ?_
                                      refine rw_of (fun rr hrr => q_iload rfl hrr) ?_
                                      refine rw_if_eq ⟨by omega, by omega⟩ (t := 1052) rfl (fun hc55 => ?_) (fun hc55 => ?_)
                                      · skip
                                        refine rw_blk lk_L_isAct_1052 ?_
                                        refine rw_of (fun rr hrr => q_sipush rfl hrr) ?_
                                        refine rw_blk lk_L_isAct_1055 ?_
                                        refine rw_icmp_ne ⟨by omega, by omega⟩ ⟨by omega, by omega⟩ (t := 1083) rfl (fun hc56 => ?_) (fun hc56 => ?_)
                                        · exfalso; omega
                                        · skip
                                          refine rw_of (fun rr hrr => q_iload rfl hrr) ?_
                                          refine rw_if_eq ⟨by omega, by omega⟩ (t := 1079) rfl (fun hc57 => ?_) (fun hc57 => ?_)
                                          · skip
                                            refine rw_blk lk_L_isAct_1079 ?_
                                            refine rw_of (fun rr hrr => q_iconst (q_goto (t := 1084) rfl hrr)) ?_
                                            refine rw_blk lk_L_isAct_1084 ?_
                                            refine lw_end hQ (q_ireturn (by omega)) (by omega) (by omega) (FrS_tr (by omega) FrS_rfl hS53) ?_
                                            exact ⟨rfl, k, cp, ci, N, by omega, (hC53).1, ((show e51 gg 0 = (((k : Nat) : Int) + 0) from (kA hm50)).trans (by omega)), ((kB hm50 (by omega)).trans hg1), ((kB hm50 (by omega)).trans hg2), ⟨PP, fun i hi => (show e51 rp i = nn rp i from congrFun (kN hm50 (by omega)) _).trans (hpp i hi), fun i hi => (hpc i hi).trans (congrFun (hC53).P i).symm⟩, fun i hi => ((show e51 ur i = nn ur i from congrFun (kN hm50 (by omega)) _).trans (huu i hi)).trans (congrArg vF (congrFun (hC53).U i).symm)⟩
                                          · exact absurd hc57 (by decide)
                                      · exact absurd hc55 (by decide)
                                    · exact absurd hc54 (by decide)
                                  · exact absurd hc52 (by decide)
                                · exact absurd hc49 (by decide)
                              · exact absurd hc48 (by decide)
                            · skip
                              refine rw_of (fun rr hrr => q_iconst (q_goto (t := 941) rfl hrr)) ?_
                              refine rw_blk lk_L_isAct_941 ?_
                              refine rw_of (fun rr hrr => q_istore (Nat.le_of_ble_eq_true rfl) rfl (q_iload rfl hrr)) ?_
                              refine rw_if_eq ⟨by omega, by omega⟩ (t := 987) rfl (fun hc58 => ?_) (fun hc58 => ?_)
                              · exact absurd hc58 (by decide)
                              · skip
                                refine rw_of (fun rr hrr => q_iload rfl hrr) ?_
                                refine rw_if_eq ⟨by omega, by omega⟩ (t := 983) rfl (fun hc59 => ?_) (fun hc59 => ?_)
                                · skip
                                  refine rw_blk lk_L_isAct_983 ?_
                                  refine rw_of (fun rr hrr => q_iconst (q_goto (t := 988) rfl hrr)) ?_
                                  refine rw_blk lk_L_isAct_988 ?_
                                  refine rw_of (fun rr hrr => q_istore (Nat.le_of_ble_eq_true rfl) rfl (q_aload_n rfl (q_iconst (q_dup2 rfl rfl (q_lald (j := 0) hgr rfl (by omega) hg0 (q_iload rfl hrr)))))) ?_
                                  refine rw_if_eq ⟨by omega, by omega⟩ (t := 1003) rfl (fun hc60 => ?_) (fun hc60 => ?_)
                                  · exact absurd hc60 (by decide)
                                  · skip
                                    refine rw_of (fun rr hrr => q_iconst (q_goto (t := 1004) rfl hrr)) ?_
                                    refine rw_blk lk_L_isAct_1004 ?_
                                    refine rw_of (fun rr hrr => q_iadd (q_last (j := 0) hgr rfl (by omega) hrr)) ?_
                                    generalize hm61 : wI nn gg 0 ((((k : Nat) : Int) + 1)) = e62
                                    refine rw_of (fun rr hrr => q_aload_n rfl (q_iload rfl hrr)) ?_
                                    refine rw_if_eq ⟨by omega, by omega⟩ (t := 1017) rfl (fun hc63 => ?_) (fun hc63 => ?_)
                                    · skip
                                      refine rw_blk lk_L_isAct_1017 ?_
                                      refine rw_of (fun rr hrr => q_bipush rfl hrr) ?_
                                      refine rw_blk lk_L_isAct_1019 ?_
                                      refine rw_of (fun rr hrr => q_iload rfl (q_iconst (q_iconst (q_iconst (q_iconst hrr))))) ?_
                                      obtain ⟨_, mm64, pp64, K64, _, _, cc64, ss64, hV64, hK64, hKB64, hS64, rfl, ⟨ya64, ⟨hC64, hN64⟩, q164, q264, q364, q464, q564, q664, q764, q864⟩, rfl, rfl⟩ := e_placed (X := X) (K := K) (sh := sh) (nn := e62) (d := d) (by omega) hC35 (s := sy) (by omega) (by omega) (by omega) (by omega)
                                      have hKB64 : K64 ≤ K + 1 := hKB64
                                      refine rw_of (fun rr hrr => q_invS hV64 rfl rfl (okar_cons rfl (okar_cons rfl (okar_cons rfl (okar_cons rfl (okar_cons rfl (okar_cons rfl (okar_cons rfl okar_nil))))))) (Nat.le_of_ble_eq_true rfl) (q_iload rfl hrr)) ?_
                                      refine rw_if_ne ⟨by omega, by omega⟩ (t := 1039) rfl (fun hc65 => ?_) (fun hc65 => ?_)
                                      · skip
                                        refine rw_blk lk_L_isAct_1039 ?_
                                        refine rw_of (fun rr hrr => q_iload rfl hrr) ?_
                                        refine rw_if_eq ⟨by omega, by omega⟩ (t := 1052) rfl (fun hc66 => ?_) (fun hc66 => ?_)
                                        · exact absurd hc66 (by decide)
                                        · skip
                                          refine rw_of (fun rr hrr => q_aload_n rfl (q_iconst (q_lald (j := 0) (Ro_call hK64 hS64 hgr) rfl (by omega) (kA hm61) (q_iconst (q_isub (q_goto (t := 1055) rfl hrr)))))) ?_
                                          refine rw_blk lk_L_isAct_1055 ?_
                                          refine rw_icmp_ne ⟨by omega, by omega⟩ ⟨by omega, by omega⟩ (t := 1083) rfl (fun hc67 => ?_) (fun hc67 => ?_)
                                          · exfalso; omega
                                          · skip
                                            refine rw_of (fun rr hrr => q_iload rfl hrr) ?_
                                            refine rw_if_eq ⟨by omega, by omega⟩ (t := 1079) rfl (fun hc68 => ?_) (fun hc68 => ?_)
                                            · exact absurd hc68 (by decide)
                                            · skip
                                              refine rw_of (fun rr hrr => q_aload_n rfl (q_aload_n rfl (q_iconst (q_lald (j := 0) (Ro_call hK64 hS64 hgr) rfl (by omega) (kA hm61) (q_iconst (q_isub (q_eqv (show (((((k : Nat) : Int) + 1) - 1) : Int) = ((k : Nat) : Int) from by omega) (q_iload rfl (q_iload rfl hrr))))))))) ?_
                                              obtain ⟨_, mm69, pp69, K69, sh69, e69, cc69, ss69, hV69, hK69, hKB69, hS69, rfl, hC69, hF69⟩ := c_L_arePlaced0 (X := X) (m := mm64) (p := pp64) (K := K64) (sh := sh) (nn := e62) (d := d) (by omega) (by omega) k sy ya64 (k + 1) cp ci (upN N k (N sy)) hC64 (Nat.lt_succ_self k) (by omega) q164 q264 q364 q464 q564 q664 q764 q864
                                              have hKB69 : K69 ≤ K64 + 4 := hKB69
                                              refine rw_of (fun rr hrr => q_invS hV69 rfl rfl (okar_cons rfl (okar_cons rfl (okar_cons rfl (okar_cons rfl okar_nil)))) (Nat.le_of_ble_eq_true rfl) hrr) ?_
                                              refine rw_if_eq ⟨by omega, by omega⟩ (t := 1083) rfl (fun hc70 => ?_) (fun hc70 => ?_)
                                              · exact absurd hc70 (by decide)
                                              · skip
                                                refine rw_blk lk_L_isAct_1079 ?_
                                                refine rw_of (fun rr hrr => q_iconst (q_goto (t := 1084) rfl hrr)) ?_
                                                refine rw_blk lk_L_isAct_1084 ?_
                                                refine lw_end hQ (q_ireturn (by omega)) (by omega) (by omega) (FrS_tr (by omega) (FrS_tr (by omega) FrS_rfl hS64) hS69) ?_
                                                exact ⟨rfl, k + 1, cp, ci, upN N k (N sy), by omega, (hC69).1, ((show e69 gg 0 = (((k : Nat) : Int) + 1) from ((congrFun (hF69 gg (by show ¬ (K64 < gg); omega)) _).trans (kA hm61))).trans (by omega)), (((congrFun (hF69 gg (by show ¬ (K64 < gg); omega)) _).trans (kB hm61 (by omega))).trans hg1), (((congrFun (hF69 gg (by show ¬ (K64 < gg); omega)) _).trans (kB hm61 (by omega))).trans hg2), ⟨PP, fun i hi => (show e69 rp i = nn rp i from congrFun ((hF69 rp (by show ¬ (K64 < rp); omega)).trans (kN hm61 (by omega))) _).trans (hpp i hi), fun i hi => (hpc i hi).trans (congrFun ((hC69).P.trans hN64.P) i).symm⟩, fun i hi => ((show e69 ur i = nn ur i from congrFun ((hF69 ur (by show ¬ (K64 < ur); omega)).trans (kN hm61 (by omega))) _).trans (huu i hi)).trans (congrArg vF (congrFun ((hC69).U.trans hN64.U) i).symm)⟩
                                      · exact absurd hc65 (by decide)
                                    · exact absurd hc63 (by decide)
                                · exact absurd hc59 (by decide)
                      · exact absurd hc23 (by decide)
              · exact absurd hc7 (by decide)
          · exact absurd hc5 (by decide)
        · exact absurd hc4 (by decide)
      · exact absurd hc3 (by decide)
    · exact absurd hc2 (by decide)
  · exact absurd hc1 (by decide)
theorem c_L_isAct8 {d : Nat} {X : MC} {m : M1} {p : M2} {K : Nat} {sh : Nat → Nat} {nn : N2} (hd : 11 ≤ d) (hK : 260 ≤ K) (rp ur gg one two : Nat) (k cp ci : Nat) (N : Nat → Nat) (hC0 : CI k N cp ci m p) (hpr : Ro K sh rp 32) (hur : Ro K sh ur 20) (hgr : Ro K sh gg 3) (hrg : rp ≠ gg) (hug : ur ≠ gg) (hru : rp ≠ ur) (hLR : LR rp ur gg k cp ci m nn) (h1 : one < 60000) (h2 : two < 60000) (hk1 : 1 ≤ k) : Lc d k_L_isAct X [.ref (1), .ref (rp), .ref (ur), .ref (gg), .int (iI (8)), .int (iI (((one : Nat) : Int))), .int (iI (((two : Nat) : Int)))] m p K sh nn (fun v m' p' K' sh' n' => v = some (.int (iI 1)) ∧ ∃ k' cp' ci', ∃ N' : Nat → Nat, k ≤ k' ∧ CI k' N' cp' ci' m' p' ∧ LR rp ur gg k' cp' ci' m' n') := by
  obtain ⟨d, rfl⟩ : ∃ e, d = e + 1 := ⟨d - 1, by omega⟩
  have hpr8 := hpr.1; have hpr9 := hpr.2.1
  have hur8 := hur.1; have hur9 := hur.2.1
  have hgr8 := hgr.1; have hgr9 := hgr.2.1
  have hC := CS_rf hC0
  have hk12 := hC.k12
  have hcp16 := hC.p16
  have hci20 := hC.i20
  obtain ⟨hg0, hg1, hg2, ⟨PP, hpp, hpc⟩, huu⟩ := hLR
  obtain ⟨sy, hsy0⟩ : ∃ z, z = one % (k + 1) := ⟨_, rfl⟩
  obtain ⟨ot, hot0⟩ : ∃ z, z = two % (k + 1) := ⟨_, rfl⟩
  have hsy : sy ≤ k := by rw [hsy0]; exact Nat.le_of_lt_succ (Nat.mod_lt _ (Nat.succ_pos _))
  have hot : ot ≤ k := by rw [hot0]; exact Nat.le_of_lt_succ (Nat.mod_lt _ (Nat.succ_pos _))
  refine lc_go (lv := [some (.ref (1)), some (.ref (rp)), some (.ref (ur)), some (.ref (gg)), some (.int (iI (8))), some (.int (iI (((one : Nat) : Int)))), some (.int (iI (((two : Nat) : Int)))), none, none, none, none, none, none, none, none, none, none]) (B := 7) (Nat.le_of_ble_eq_true rfl) (okar_cons rfl (okar_cons rfl (okar_cons rfl (okar_cons rfl (okar_cons rfl (okar_cons rfl (okar_cons rfl okar_nil))))))) rfl rfl (fun Qr hQ => ?_)
  refine rw_blk lk_L_isAct_0 ?_
  refine rw_of (fun rr hrr => q_iload rfl (q_aload_n rfl (q_iconst (q_lald (j := 0) hgr rfl (by omega) hg0 (q_iconst (q_iadd (q_irem ⟨by omega, by omega⟩ ⟨by omega, by omega⟩ (by omega) (show (((one : Nat) : Int)).tmod ((((k : Nat) : Int) + 1)) = ((sy : Nat) : Int) from by rw [hsy0]; rfl) (q_istore (Nat.le_of_ble_eq_true rfl) rfl (q_iload rfl (q_aload_n rfl (q_iconst (q_lald (j := 0) hgr rfl (by omega) hg0 (q_iconst (q_iadd (q_irem ⟨by omega, by omega⟩ ⟨by omega, by omega⟩ (by omega) (show (((two : Nat) : Int)).tmod ((((k : Nat) : Int) + 1)) = ((ot : Nat) : Int) from by rw [hot0]; rfl) (q_istore (Nat.le_of_ble_eq_true rfl) rfl (q_iload rfl hrr))))))))))))))))) ?_
  refine rw_if_ne ⟨by omega, by omega⟩ (t := 133) rfl (fun hc1 => ?_) (fun hc1 => ?_)
  · skip
    refine rw_blk lk_L_isAct_133 ?_
    refine rw_of (fun rr hrr => q_iload rfl (q_iconst hrr)) ?_
    refine rw_icmp_ge ⟨by omega, by omega⟩ ⟨by omega, by omega⟩ (t := 312) rfl (fun hc2 => ?_) (fun hc2 => ?_)
    · skip
      refine rw_blk lk_L_isAct_312 ?_
      refine rw_of (fun rr hrr => q_iload rfl (q_iconst hrr)) ?_
      refine rw_icmp_ne ⟨by omega, by omega⟩ ⟨by omega, by omega⟩ (t := 538) rfl (fun hc3 => ?_) (fun hc3 => ?_)
      · skip
        refine rw_blk lk_L_isAct_538 ?_
        refine rw_of (fun rr hrr => q_iload rfl (q_bipush rfl hrr)) ?_
        refine rw_icmp_ge ⟨by omega, by omega⟩ ⟨by omega, by omega⟩ (t := 763) rfl (fun hc4 => ?_) (fun hc4 => ?_)
        · skip
          refine rw_blk lk_L_isAct_763 ?_
          refine rw_of (fun rr hrr => q_iload rfl (q_bipush rfl hrr)) ?_
          refine rw_icmp_ne ⟨by omega, by omega⟩ ⟨by omega, by omega⟩ (t := 838) rfl (fun hc5 => ?_) (fun hc5 => ?_)
          · skip
            refine rw_blk lk_L_isAct_838 ?_
            refine rw_of (fun rr hrr => q_iload rfl (q_bipush rfl hrr)) ?_
            refine rw_icmp_ge ⟨by omega, by omega⟩ ⟨by omega, by omega⟩ (t := 1085) rfl (fun hc6 => ?_) (fun hc6 => ?_)
            · exact absurd hc6 (by decide)
            · skip
              refine rw_of (fun rr hrr => q_iload rfl (q_bipush rfl hrr)) ?_
              refine rw_icmp_ne ⟨by omega, by omega⟩ ⟨by omega, by omega⟩ (t := 856) rfl (fun hc7 => ?_) (fun hc7 => ?_)
              · exact absurd hc7 (by decide)
              · skip
                refine rw_of (fun rr hrr => q_iconst (q_goto (t := 857) rfl hrr)) ?_
                refine rw_blk lk_L_isAct_857 ?_
                refine rw_of (fun rr hrr => q_istore (Nat.le_of_ble_eq_true rfl) rfl (q_iload rfl (q_aload_n rfl (q_iconst (q_lald (j := 0) hgr rfl (by omega) hg0 hrr))))) ?_
                refine rw_icmp_ge ⟨by omega, by omega⟩ ⟨by omega, by omega⟩ (t := 871) rfl (fun hc8 => ?_) (fun hc8 => ?_)
                · skip
                  refine rw_blk lk_L_isAct_871 ?_
                  refine rw_of (fun rr hrr => q_iconst hrr) ?_
                  refine rw_blk lk_L_isAct_872 ?_
                  refine rw_of (fun rr hrr => q_istore (Nat.le_of_ble_eq_true rfl) rfl (q_iload rfl hrr)) ?_
                  refine rw_if_eq ⟨by omega, by omega⟩ (t := 888) rfl (fun hc9 => ?_) (fun hc9 => ?_)
                  · skip
                    refine rw_blk lk_L_isAct_888 ?_
                    refine rw_of (fun rr hrr => q_iconst hrr) ?_
                    refine rw_blk lk_L_isAct_889 ?_
                    refine rw_of (fun rr hrr => q_istore (Nat.le_of_ble_eq_true rfl) rfl (q_iload rfl hrr)) ?_
                    refine rw_if_eq ⟨by omega, by omega⟩ (t := 940) rfl (fun hc10 => ?_) (fun hc10 => ?_)
                    · skip
                      refine rw_blk lk_L_isAct_940 ?_
                      refine rw_of (fun rr hrr => q_iconst hrr) ?_
                      refine rw_blk lk_L_isAct_941 ?_
                      refine rw_of (fun rr hrr => q_istore (Nat.le_of_ble_eq_true rfl) rfl (q_iload rfl hrr)) ?_
                      refine rw_if_eq ⟨by omega, by omega⟩ (t := 987) rfl (fun hc11 => ?_) (fun hc11 => ?_)
                      · skip
                        refine rw_blk lk_L_isAct_987 ?_
                        refine rw_of (fun rr hrr => q_iconst hrr) ?_
                        refine rw_blk lk_L_isAct_988 ?_
                        refine rw_of (fun rr hrr => q_istore (Nat.le_of_ble_eq_true rfl) rfl (q_aload_n rfl (q_iconst (q_dup2 rfl rfl (q_lald (j := 0) hgr rfl (by omega) hg0 (q_iload rfl hrr)))))) ?_
                        refine rw_if_eq ⟨by omega, by omega⟩ (t := 1003) rfl (fun hc12 => ?_) (fun hc12 => ?_)
                        · skip
                          refine rw_blk lk_L_isAct_1003 ?_
                          refine rw_of (fun rr hrr => q_iconst hrr) ?_
                          refine rw_blk lk_L_isAct_1004 ?_
                          refine rw_of (fun rr hrr => q_iadd (q_last (j := 0) hgr rfl (by omega) hrr)) ?_
                          generalize hm13 : wI nn gg 0 ((((k : Nat) : Int) + 0)) = e14
                          refine rw_of (fun rr hrr => q_aload_n rfl (q_iload rfl hrr)) ?_
                          refine rw_if_eq ⟨by omega, by omega⟩ (t := 1017) rfl (fun hc15 => ?_) (fun hc15 => ?_)
                          · exact absurd hc15 (by decide)
                          · skip
                            refine rw_of (fun rr hrr => q_bipush rfl (q_goto (t := 1019) rfl hrr)) ?_
                            refine rw_blk lk_L_isAct_1019 ?_
                            refine rw_of (fun rr hrr => q_iload rfl (q_iconst (q_iconst (q_iconst (q_iconst hrr))))) ?_
                            obtain ⟨_, mm16, pp16, K16, _, _, cc16, ss16, hV16, hK16, hKB16, hS16, rfl, hC16, rfl, rfl⟩ := e_joinedP (X := X) (K := K) (sh := sh) (nn := e14) (d := d) (by omega) hC (s := sy) (by omega) (by omega)
                            have hKB16 : K16 ≤ K + 1 := hKB16
                            refine rw_of (fun rr hrr => q_invS hV16 rfl rfl (okar_cons rfl (okar_cons rfl (okar_cons rfl (okar_cons rfl (okar_cons rfl (okar_cons rfl (okar_cons rfl okar_nil))))))) (Nat.le_of_ble_eq_true rfl) (q_iload rfl hrr)) ?_
                            refine rw_if_ne ⟨by omega, by omega⟩ (t := 1039) rfl (fun hc17 => ?_) (fun hc17 => ?_)
                            · exact absurd hc17 (by decide)
                            · skip
                              refine rw_of (fun rr hrr => q_sipush rfl (q_goto (t := 1055) rfl hrr)) ?_
                              refine rw_blk lk_L_isAct_1055 ?_
                              refine rw_icmp_ne ⟨by omega, by omega⟩ ⟨by omega, by omega⟩ (t := 1083) rfl (fun hc18 => ?_) (fun hc18 => ?_)
                              · exfalso; omega
                              · skip
                                refine rw_of (fun rr hrr => q_iload rfl hrr) ?_
                                refine rw_if_eq ⟨by omega, by omega⟩ (t := 1079) rfl (fun hc19 => ?_) (fun hc19 => ?_)
                                · skip
                                  refine rw_blk lk_L_isAct_1079 ?_
                                  refine rw_of (fun rr hrr => q_iconst (q_goto (t := 1084) rfl hrr)) ?_
                                  refine rw_blk lk_L_isAct_1084 ?_
                                  refine lw_end hQ (q_ireturn (by omega)) (by omega) (by omega) (FrS_tr (by omega) FrS_rfl hS16) ?_
                                  exact ⟨rfl, k, cp, ci, N, by omega, (hC16).1, ((show e14 gg 0 = (((k : Nat) : Int) + 0) from (kA hm13)).trans (by omega)), ((kB hm13 (by omega)).trans hg1), ((kB hm13 (by omega)).trans hg2), ⟨PP, fun i hi => (show e14 rp i = nn rp i from congrFun (kN hm13 (by omega)) _).trans (hpp i hi), fun i hi => (hpc i hi).trans (congrFun (hC16).P i).symm⟩, fun i hi => ((show e14 ur i = nn ur i from congrFun (kN hm13 (by omega)) _).trans (huu i hi)).trans (congrArg vF (congrFun (hC16).U i).symm)⟩
                                · exact absurd hc19 (by decide)
                        · exact absurd hc12 (by decide)
                      · exact absurd hc11 (by decide)
                    · exact absurd hc10 (by decide)
                  · exact absurd hc9 (by decide)
                · skip
                  refine rw_of (fun rr hrr => q_iconst (q_goto (t := 872) rfl hrr)) ?_
                  refine rw_blk lk_L_isAct_872 ?_
                  refine rw_of (fun rr hrr => q_istore (Nat.le_of_ble_eq_true rfl) rfl (q_iload rfl hrr)) ?_
                  refine rw_if_eq ⟨by omega, by omega⟩ (t := 888) rfl (fun hc20 => ?_) (fun hc20 => ?_)
                  · exact absurd hc20 (by decide)
                  · skip
                    refine rw_of (fun rr hrr => q_aload_n rfl (q_iload rfl hrr)) ?_
                    obtain ⟨_, mm21, pp21, hV21, rfl, hC21⟩ := w_order (S := (K, gB X sh nn)) (d := d) (by omega) hC (s := sy) (by omega)
                    refine rw_of (fun rr hrr => q_invV hV21 (show SH 1 = (17, 0) from rfl) rfl rfl (okar_cons rfl okar_nil) (Nat.le_of_ble_eq_true rfl) hrr) ?_
                    have hN8 := hC.N8 (s := sy) (by omega)
                    have hrl0 := rk_le (n := N sy) (A := kr (N sy) (SA m sy) (Sb m sy))
                    have hrl1 := rk_le (n := N sy) (A := kr (N sy) (trp (SA m sy)) (Sc m sy))
                    refine rw_of (fun rr hrr => q_goto (t := 889) rfl hrr) ?_
                    refine rw_blk lk_L_isAct_889 ?_
                    refine rw_of (fun rr hrr => q_istore (Nat.le_of_ble_eq_true rfl) rfl (q_iload rfl hrr)) ?_
                    refine rw_if_eq ⟨by omega, by omega⟩ (t := 940) rfl (fun hc22 => ?_) (fun hc22 => ?_)
                    · exact absurd hc22 (by decide)
                    · skip
                      refine rw_of (fun rr hrr => q_aload_n rfl (q_iconst (q_lald (j := 1) hgr rfl (by omega) hg1 (q_iload rfl hrr)))) ?_
                      refine rw_if_eq ⟨by omega, by omega⟩ (t := 911) rfl (fun hc23 => ?_) (fun hc23 => ?_)
                      · exact absurd hc23 (by decide)
                      · skip
                        refine rw_of (fun rr hrr => q_iconst (q_iload rfl (q_imul (q_goto (t := 913) rfl hrr)))) ?_
                        refine rw_blk lk_L_isAct_913 ?_
                        refine rw_icmp_lt ⟨by omega, by omega⟩ ⟨by omega, by omega⟩ (t := 940) rfl (fun hc24 => ?_) (fun hc24 => ?_)
                        · skip
                          refine rw_blk lk_L_isAct_940 ?_
                          refine rw_of (fun rr hrr => q_iconst hrr) ?_
                          refine rw_blk lk_L_isAct_941 ?_
                          refine rw_of (fun rr hrr => q_istore (Nat.le_of_ble_eq_true rfl) rfl (q_iload rfl hrr)) ?_
                          refine rw_if_eq ⟨by omega, by omega⟩ (t := 987) rfl (fun hc25 => ?_) (fun hc25 => ?_)
                          · skip
                            refine rw_blk lk_L_isAct_987 ?_
                            refine rw_of (fun rr hrr => q_iconst hrr) ?_
                            refine rw_blk lk_L_isAct_988 ?_
                            refine rw_of (fun rr hrr => q_istore (Nat.le_of_ble_eq_true rfl) rfl (q_aload_n rfl (q_iconst (q_dup2 rfl rfl (q_lald (j := 0) hgr rfl (by omega) hg0 (q_iload rfl hrr)))))) ?_
                            refine rw_if_eq ⟨by omega, by omega⟩ (t := 1003) rfl (fun hc26 => ?_) (fun hc26 => ?_)
                            · skip
                              refine rw_blk lk_L_isAct_1003 ?_
                              refine rw_of (fun rr hrr => q_iconst hrr) ?_
                              refine rw_blk lk_L_isAct_1004 ?_
                              refine rw_of (fun rr hrr => q_iadd (q_last (j := 0) hgr rfl (by omega) hrr)) ?_
                              generalize hm27 : wI nn gg 0 ((((k : Nat) : Int) + 0)) = e28
                              refine rw_of (fun rr hrr => q_aload_n rfl (q_iload rfl hrr)) ?_
                              refine rw_if_eq ⟨by omega, by omega⟩ (t := 1017) rfl (fun hc29 => ?_) (fun hc29 => ?_)
                              · exact absurd hc29 (by decide)
                              · skip
                                refine rw_of (fun rr hrr => q_bipush rfl (q_goto (t := 1019) rfl hrr)) ?_
                                refine rw_blk lk_L_isAct_1019 ?_
                                refine rw_of (fun rr hrr => q_iload rfl (q_iconst (q_iconst (q_iconst (q_iconst hrr))))) ?_
                                obtain ⟨_, mm30, pp30, K30, _, _, cc30, ss30, hV30, hK30, hKB30, hS30, rfl, hC30, rfl, rfl⟩ := e_joinedN (X := X) (K := K) (sh := sh) (nn := e28) (d := d) (by omega) hC21 (s := sy) (by omega) (fun e => by obtain ⟨e1, e2, e3, e4, e5, e6⟩ := e; first | omega | exact absurd e6 hsd9)
                                have hKB30 : K30 ≤ K + 1 := hKB30
                                refine rw_of (fun rr hrr => q_invS hV30 rfl rfl (okar_cons rfl (okar_cons rfl (okar_cons rfl (okar_cons rfl (okar_cons rfl (okar_cons rfl (okar_cons rfl okar_nil))))))) (Nat.le_of_ble_eq_true rfl) (q_iload rfl hrr)) ?_
                                refine rw_if_ne ⟨by omega, by omega⟩ (t := 1039) rfl (fun hc31 => ?_) (fun hc31 => ?_)
                                · skip
                                  refine rw_blk lk_L_isAct_1039 ?_
                                  refine rw_of (fun rr hrr => q_iload rfl hrr) ?_
                                  refine rw_if_eq ⟨by omega, by omega⟩ (t := 1052) rfl (fun hc32 => ?_) (fun hc32 => ?_)
                                  · skip
                                    refine rw_blk lk_L_isAct_1052 ?_
                                    refine rw_of (fun rr hrr => q_sipush rfl hrr) ?_
                                    refine rw_blk lk_L_isAct_1055 ?_
                                    refine rw_icmp_ne ⟨by omega, by omega⟩ ⟨by omega, by omega⟩ (t := 1083) rfl (fun hc33 => ?_) (fun hc33 => ?_)
                                    · exfalso; omega
                                    · skip
                                      refine rw_of (fun rr hrr => q_iload rfl hrr) ?_
                                      refine rw_if_eq ⟨by omega, by omega⟩ (t := 1079) rfl (fun hc34 => ?_) (fun hc34 => ?_)
                                      · skip
                                        refine rw_blk lk_L_isAct_1079 ?_
                                        refine rw_of (fun rr hrr => q_iconst (q_goto (t := 1084) rfl hrr)) ?_
                                        refine rw_blk lk_L_isAct_1084 ?_
                                        refine lw_end hQ (q_ireturn (by omega)) (by omega) (by omega) (FrS_tr (by omega) FrS_rfl hS30) ?_
                                        exact ⟨rfl, k, cp, ci, N, by omega, (hC30).1, ((show e28 gg 0 = (((k : Nat) : Int) + 0) from (kA hm27)).trans (by omega)), ((kB hm27 (by omega)).trans hg1), ((kB hm27 (by omega)).trans hg2), ⟨PP, fun i hi => (show e28 rp i = nn rp i from congrFun (kN hm27 (by omega)) _).trans (hpp i hi), fun i hi => (hpc i hi).trans (congrFun (hC30).P i).symm⟩, fun i hi => ((show e28 ur i = nn ur i from congrFun (kN hm27 (by omega)) _).trans (huu i hi)).trans (congrArg vF (congrFun (hC30).U i).symm)⟩
                                      · exact absurd hc34 (by decide)
                                  · exact absurd hc32 (by decide)
                                · exact absurd hc31 (by decide)
                            · exact absurd hc26 (by decide)
                          · exact absurd hc25 (by decide)
                        · skip
                          refine rw_of (fun rr hrr => q_aload_n rfl (q_iload rfl (q_iconst hrr))) ?_
                          obtain ⟨_, mm35, pp35, hV35, rfl, hC35⟩ := w_rank0 (S := (K, gB X sh nn)) (d := d) (by omega) hC21 (s := sy) (by omega)
                          refine rw_of (fun rr hrr => q_invV hV35 (show SH 1 = (17, 0) from rfl) rfl rfl (okar_cons rfl (okar_cons rfl okar_nil)) (Nat.le_of_ble_eq_true rfl) (q_iload rfl hrr)) ?_
                          refine rw_icmp_ne ⟨by omega, by omega⟩ ⟨by omega, by omega⟩ (t := 940) rfl (fun hc36 => ?_) (fun hc36 => ?_)
                          · skip
                            refine rw_blk lk_L_isAct_940 ?_
                            refine rw_of (fun rr hrr => q_iconst hrr) ?_
                            refine rw_blk lk_L_isAct_941 ?_
                            refine rw_of (fun rr hrr => q_istore (Nat.le_of_ble_eq_true rfl) rfl (q_iload rfl hrr)) ?_
                            refine rw_if_eq ⟨by omega, by omega⟩ (t := 987) rfl (fun hc37 => ?_) (fun hc37 => ?_)
                            · skip
                              refine rw_blk lk_L_isAct_987 ?_
                              refine rw_of (fun rr hrr => q_iconst hrr) ?_
                              refine rw_blk lk_L_isAct_988 ?_
                              refine rw_of (fun rr hrr => q_istore (Nat.le_of_ble_eq_true rfl) rfl (q_aload_n rfl (q_iconst (q_dup2 rfl rfl (q_lald (j := 0) hgr rfl (by omega) hg0 (q_iload rfl hrr)))))) ?_
                              refine rw_if_eq ⟨by omega, by omega⟩ (t := 1003) rfl (fun hc38 => ?_) (fun hc38 => ?_)
                              · skip
                                refine rw_blk lk_L_isAct_1003 ?_
                                refine rw_of (fun rr hrr => q_iconst hrr) ?_
                                refine rw_blk lk_L_isAct_1004 ?_
                                refine rw_of (fun rr hrr => q_iadd (q_last (j := 0) hgr rfl (by omega) hrr)) ?_
                                generalize hm39 : wI nn gg 0 ((((k : Nat) : Int) + 0)) = e40
                                refine rw_of (fun rr hrr => q_aload_n rfl (q_iload rfl hrr)) ?_
                                refine rw_if_eq ⟨by omega, by omega⟩ (t := 1017) rfl (fun hc41 => ?_) (fun hc41 => ?_)
                                · exact absurd hc41 (by decide)
                                · skip
                                  refine rw_of (fun rr hrr => q_bipush rfl (q_goto (t := 1019) rfl hrr)) ?_
                                  refine rw_blk lk_L_isAct_1019 ?_
                                  refine rw_of (fun rr hrr => q_iload rfl (q_iconst (q_iconst (q_iconst (q_iconst hrr))))) ?_
                                  obtain ⟨_, mm42, pp42, K42, _, _, cc42, ss42, hV42, hK42, hKB42, hS42, rfl, hC42, rfl, rfl⟩ := e_joinedN (X := X) (K := K) (sh := sh) (nn := e40) (d := d) (by omega) hC35 (s := sy) (by omega) (fun e => by obtain ⟨e1, e2, e3, e4, e5, e6⟩ := e; first | omega | exact absurd e6 hsd9)
                                  have hKB42 : K42 ≤ K + 1 := hKB42
                                  refine rw_of (fun rr hrr => q_invS hV42 rfl rfl (okar_cons rfl (okar_cons rfl (okar_cons rfl (okar_cons rfl (okar_cons rfl (okar_cons rfl (okar_cons rfl okar_nil))))))) (Nat.le_of_ble_eq_true rfl) (q_iload rfl hrr)) ?_
                                  refine rw_if_ne ⟨by omega, by omega⟩ (t := 1039) rfl (fun hc43 => ?_) (fun hc43 => ?_)
                                  · skip
                                    refine rw_blk lk_L_isAct_1039 ?_
                                    refine rw_of (fun rr hrr => q_iload rfl hrr) ?_
                                    refine rw_if_eq ⟨by omega, by omega⟩ (t := 1052) rfl (fun hc44 => ?_) (fun hc44 => ?_)
                                    · skip
                                      refine rw_blk lk_L_isAct_1052 ?_
                                      refine rw_of (fun rr hrr => q_sipush rfl hrr) ?_
                                      refine rw_blk lk_L_isAct_1055 ?_
                                      refine rw_icmp_ne ⟨by omega, by omega⟩ ⟨by omega, by omega⟩ (t := 1083) rfl (fun hc45 => ?_) (fun hc45 => ?_)
                                      · exfalso; omega
                                      · skip
                                        refine rw_of (fun rr hrr => q_iload rfl hrr) ?_
                                        refine rw_if_eq ⟨by omega, by omega⟩ (t := 1079) rfl (fun hc46 => ?_) (fun hc46 => ?_)
                                        · skip
                                          refine rw_blk lk_L_isAct_1079 ?_
                                          refine rw_of (fun rr hrr => q_iconst (q_goto (t := 1084) rfl hrr)) ?_
                                          refine rw_blk lk_L_isAct_1084 ?_
                                          refine lw_end hQ (q_ireturn (by omega)) (by omega) (by omega) (FrS_tr (by omega) FrS_rfl hS42) ?_
                                          exact ⟨rfl, k, cp, ci, N, by omega, (hC42).1, ((show e40 gg 0 = (((k : Nat) : Int) + 0) from (kA hm39)).trans (by omega)), ((kB hm39 (by omega)).trans hg1), ((kB hm39 (by omega)).trans hg2), ⟨PP, fun i hi => (show e40 rp i = nn rp i from congrFun (kN hm39 (by omega)) _).trans (hpp i hi), fun i hi => (hpc i hi).trans (congrFun (hC42).P i).symm⟩, fun i hi => ((show e40 ur i = nn ur i from congrFun (kN hm39 (by omega)) _).trans (huu i hi)).trans (congrArg vF (congrFun (hC42).U i).symm)⟩
                                        · exact absurd hc46 (by decide)
                                    · exact absurd hc44 (by decide)
                                  · exact absurd hc43 (by decide)
                              · exact absurd hc38 (by decide)
                            · exact absurd hc37 (by decide)
                          · skip
                            refine rw_of (fun rr hrr => q_aload_n rfl (q_iconst (q_lald (j := 0) hgr rfl (by omega) hg0 (q_bipush rfl hrr)))) ?_
                            refine rw_icmp_ge ⟨by omega, by omega⟩ ⟨by omega, by omega⟩ (t := 940) rfl (fun hc47 => ?_) (fun hc47 => ?_)
                            · skip
                              refine rw_blk lk_L_isAct_940 ?_
                              refine rw_of (fun rr hrr => q_iconst hrr) ?_
                              refine rw_blk lk_L_isAct_941 ?_
                              refine rw_of (fun rr hrr => q_istore (Nat.le_of_ble_eq_true rfl) rfl (q_iload rfl hrr)) ?_
                              refine rw_if_eq ⟨by omega, by omega⟩ (t := 987) rfl (fun hc48 => ?_) (fun hc48 => ?_)
                              · skip
                                refine rw_blk lk_L_isAct_987 ?_
                                refine rw_of (fun rr hrr => q_iconst hrr) ?_
                                refine rw_blk lk_L_isAct_988 ?_
                                refine rw_of (fun rr hrr => q_istore (Nat.le_of_ble_eq_true rfl) rfl (q_aload_n rfl (q_iconst (q_dup2 rfl rfl (q_lald (j := 0) hgr rfl (by omega) hg0 (q_iload rfl hrr)))))) ?_
                                refine rw_if_eq ⟨by omega, by omega⟩ (t := 1003) rfl (fun hc49 => ?_) (fun hc49 => ?_)
                                · skip
                                  refine rw_blk lk_L_isAct_1003 ?_
                                  refine rw_of (fun rr hrr => q_iconst hrr) ?_
                                  refine rw_blk lk_L_isAct_1004 ?_
                                  refine rw_of (fun rr hrr => q_iadd (q_last (j := 0) hgr rfl (by omega) hrr)) ?_
                                  generalize hm50 : wI nn gg 0 ((((k : Nat) : Int) + 0)) = e51
                                  refine rw_of (fun rr hrr => q_aload_n rfl (q_iload rfl hrr)) ?_
                                  refine rw_if_eq ⟨by omega, by omega⟩ (t := 1017) rfl (fun hc52 => ?_) (fun hc52 => ?_)
                                  · exact absurd hc52 (by decide)
                                  · skip
                                    refine rw_of (fun rr hrr => q_bipush rfl (q_goto (t := 1019) rfl hrr)) ?_
                                    refine rw_blk lk_L_isAct_1019 ?_
                                    refine rw_of (fun rr hrr => q_iload rfl (q_iconst (q_iconst (q_iconst (q_iconst hrr))))) ?_
                                    obtain ⟨_, mm53, pp53, K53, _, _, cc53, ss53, hV53, hK53, hKB53, hS53, rfl, hC53, rfl, rfl⟩ := e_joinedN (X := X) (K := K) (sh := sh) (nn := e51) (d := d) (by omega) hC35 (s := sy) (by omega) (fun e => by obtain ⟨e1, e2, e3, e4, e5, e6⟩ := e; first | omega | exact absurd e6 hsd9)
                                    have hKB53 : K53 ≤ K + 1 := hKB53
                                    refine rw_of (fun rr hrr => q_invS hV53 rfl rfl (okar_cons rfl (okar_cons rfl (okar_cons rfl (okar_cons rfl (okar_cons rfl (okar_cons rfl (okar_cons rfl okar_nil))))))) (Nat.le_of_ble_eq_true rfl) (q_iload rfl hrr)) ?_
                                    refine rw_if_ne ⟨by omega, by omega⟩ (t := 1039) rfl (fun hc54 => ?_) (fun hc54 => ?_)
                                    · skip
                                      refine rw_blk lk_L_isAct_1039 ?_
                                      refine rw_of (fun rr hrr => q_iload rfl hrr) ?_
                                      refine rw_if_eq ⟨by omega, by omega⟩ (t := 1052) rfl (fun hc55 => ?_) (fun hc55 => ?_)
                                      · skip
                                        refine rw_blk lk_L_isAct_1052 ?_
                                        refine rw_of (fun rr hrr => q_sipush rfl hrr) ?_
                                        refine rw_blk lk_L_isAct_1055 ?_
                                        refine rw_icmp_ne ⟨by omega, by omega⟩ ⟨by omega, by omega⟩ (t := 1083) rfl (fun hc56 => ?_) (fun hc56 => ?_)
                                        · exfalso; omega
                                        · skip
                                          refine rw_of (fun rr hrr => q_iload rfl hrr) ?_
                                          refine rw_if_eq ⟨by omega, by omega⟩ (t := 1079) rfl (fun hc57 => ?_) (fun hc57 => ?_)
                                          · skip
                                            refine rw_blk lk_L_isAct_1079 ?_
                                            refine rw_of (fun rr hrr => q_iconst (q_goto (t := 1084) rfl hrr)) ?_
                                            refine rw_blk lk_L_isAct_1084 ?_
                                            refine lw_end hQ (q_ireturn (by omega)) (by omega) (by omega) (FrS_tr (by omega) FrS_rfl hS53) ?_
                                            exact ⟨rfl, k, cp, ci, N, by omega, (hC53).1, ((show e51 gg 0 = (((k : Nat) : Int) + 0) from (kA hm50)).trans (by omega)), ((kB hm50 (by omega)).trans hg1), ((kB hm50 (by omega)).trans hg2), ⟨PP, fun i hi => (show e51 rp i = nn rp i from congrFun (kN hm50 (by omega)) _).trans (hpp i hi), fun i hi => (hpc i hi).trans (congrFun (hC53).P i).symm⟩, fun i hi => ((show e51 ur i = nn ur i from congrFun (kN hm50 (by omega)) _).trans (huu i hi)).trans (congrArg vF (congrFun (hC53).U i).symm)⟩
                                          · exact absurd hc57 (by decide)
                                      · exact absurd hc55 (by decide)
                                    · exact absurd hc54 (by decide)
                                · exact absurd hc49 (by decide)
                              · exact absurd hc48 (by decide)
                            · skip
                              refine rw_of (fun rr hrr => q_iconst (q_goto (t := 941) rfl hrr)) ?_
                              refine rw_blk lk_L_isAct_941 ?_
                              refine rw_of (fun rr hrr => q_istore (Nat.le_of_ble_eq_true rfl) rfl (q_iload rfl hrr)) ?_
                              refine rw_if_eq ⟨by omega, by omega⟩ (t := 987) rfl (fun hc58 => ?_) (fun hc58 => ?_)
                              · exact absurd hc58 (by decide)
                              · skip
                                refine rw_of (fun rr hrr => q_iload rfl hrr) ?_
                                refine rw_if_eq ⟨by omega, by omega⟩ (t := 983) rfl (fun hc59 => ?_) (fun hc59 => ?_)
                                · exact absurd hc59 (by decide)
                                · skip
                                  refine rw_of (fun rr hrr => q_iload rfl (q_iconst hrr)) ?_
                                  refine rw_icmp_ge ⟨by omega, by omega⟩ ⟨by omega, by omega⟩ (t := 987) rfl (fun hc60 => ?_) (fun hc60 => ?_)
                                  · skip
                                    refine rw_blk lk_L_isAct_987 ?_
                                    refine rw_of (fun rr hrr => q_iconst hrr) ?_
                                    refine rw_blk lk_L_isAct_988 ?_
                                    refine rw_of (fun rr hrr => q_istore (Nat.le_of_ble_eq_true rfl) rfl (q_aload_n rfl (q_iconst (q_dup2 rfl rfl (q_lald (j := 0) hgr rfl (by omega) hg0 (q_iload rfl hrr)))))) ?_
                                    refine rw_if_eq ⟨by omega, by omega⟩ (t := 1003) rfl (fun hc61 => ?_) (fun hc61 => ?_)
                                    · skip
                                      refine rw_blk lk_L_isAct_1003 ?_
                                      refine rw_of (fun rr hrr => q_iconst hrr) ?_
                                      refine rw_blk lk_L_isAct_1004 ?_
                                      refine rw_of (fun rr hrr => q_iadd (q_last (j := 0) hgr rfl (by omega) hrr)) ?_
                                      generalize hm62 : wI nn gg 0 ((((k : Nat) : Int) + 0)) = e63
                                      refine rw_of (fun rr hrr => q_aload_n rfl (q_iload rfl hrr)) ?_
                                      refine rw_if_eq ⟨by omega, by omega⟩ (t := 1017) rfl (fun hc64 => ?_) (fun hc64 => ?_)
                                      · exact absurd hc64 (by decide)
                                      · skip
                                        refine rw_of (fun rr hrr => q_bipush rfl (q_goto (t := 1019) rfl hrr)) ?_
                                        refine rw_blk lk_L_isAct_1019 ?_
                                        refine rw_of (fun rr hrr => q_iload rfl (q_iconst (q_iconst (q_iconst (q_iconst hrr))))) ?_
                                        obtain ⟨_, mm65, pp65, K65, _, _, cc65, ss65, hV65, hK65, hKB65, hS65, rfl, hC65, rfl, rfl⟩ := e_joinedN (X := X) (K := K) (sh := sh) (nn := e63) (d := d) (by omega) hC35 (s := sy) (by omega) (fun e => by obtain ⟨e1, e2, e3, e4, e5, e6⟩ := e; first | omega | exact absurd e6 hsd9)
                                        have hKB65 : K65 ≤ K + 1 := hKB65
                                        refine rw_of (fun rr hrr => q_invS hV65 rfl rfl (okar_cons rfl (okar_cons rfl (okar_cons rfl (okar_cons rfl (okar_cons rfl (okar_cons rfl (okar_cons rfl okar_nil))))))) (Nat.le_of_ble_eq_true rfl) (q_iload rfl hrr)) ?_
                                        refine rw_if_ne ⟨by omega, by omega⟩ (t := 1039) rfl (fun hc66 => ?_) (fun hc66 => ?_)
                                        · skip
                                          refine rw_blk lk_L_isAct_1039 ?_
                                          refine rw_of (fun rr hrr => q_iload rfl hrr) ?_
                                          refine rw_if_eq ⟨by omega, by omega⟩ (t := 1052) rfl (fun hc67 => ?_) (fun hc67 => ?_)
                                          · skip
                                            refine rw_blk lk_L_isAct_1052 ?_
                                            refine rw_of (fun rr hrr => q_sipush rfl hrr) ?_
                                            refine rw_blk lk_L_isAct_1055 ?_
                                            refine rw_icmp_ne ⟨by omega, by omega⟩ ⟨by omega, by omega⟩ (t := 1083) rfl (fun hc68 => ?_) (fun hc68 => ?_)
                                            · exfalso; omega
                                            · skip
                                              refine rw_of (fun rr hrr => q_iload rfl hrr) ?_
                                              refine rw_if_eq ⟨by omega, by omega⟩ (t := 1079) rfl (fun hc69 => ?_) (fun hc69 => ?_)
                                              · skip
                                                refine rw_blk lk_L_isAct_1079 ?_
                                                refine rw_of (fun rr hrr => q_iconst (q_goto (t := 1084) rfl hrr)) ?_
                                                refine rw_blk lk_L_isAct_1084 ?_
                                                refine lw_end hQ (q_ireturn (by omega)) (by omega) (by omega) (FrS_tr (by omega) FrS_rfl hS65) ?_
                                                exact ⟨rfl, k, cp, ci, N, by omega, (hC65).1, ((show e63 gg 0 = (((k : Nat) : Int) + 0) from (kA hm62)).trans (by omega)), ((kB hm62 (by omega)).trans hg1), ((kB hm62 (by omega)).trans hg2), ⟨PP, fun i hi => (show e63 rp i = nn rp i from congrFun (kN hm62 (by omega)) _).trans (hpp i hi), fun i hi => (hpc i hi).trans (congrFun (hC65).P i).symm⟩, fun i hi => ((show e63 ur i = nn ur i from congrFun (kN hm62 (by omega)) _).trans (huu i hi)).trans (congrArg vF (congrFun (hC65).U i).symm)⟩
                                              · exact absurd hc69 (by decide)
                                          · exact absurd hc67 (by decide)
                                        · exact absurd hc66 (by decide)
                                    · exact absurd hc61 (by decide)
                                  · skip
                                    refine rw_of (fun rr hrr => q_aload_n rfl (q_iload rfl (q_iconst hrr))) ?_
                                    obtain ⟨_, mm70, pp70, hV70, rfl, hC70⟩ := w_rank1 (S := (K, gB X sh nn)) (d := d) (by omega) hC35 (s := sy) (by omega)
                                    refine rw_of (fun rr hrr => q_invV hV70 (show SH 1 = (17, 0) from rfl) rfl rfl (okar_cons rfl (okar_cons rfl okar_nil)) (Nat.le_of_ble_eq_true rfl) (q_iload rfl hrr)) ?_
                                    refine rw_icmp_ne ⟨by omega, by omega⟩ ⟨by omega, by omega⟩ (t := 987) rfl (fun hc71 => ?_) (fun hc71 => ?_)
                                    · skip
                                      refine rw_blk lk_L_isAct_987 ?_
                                      refine rw_of (fun rr hrr => q_iconst hrr) ?_
                                      refine rw_blk lk_L_isAct_988 ?_
                                      refine rw_of (fun rr hrr => q_istore (Nat.le_of_ble_eq_true rfl) rfl (q_aload_n rfl (q_iconst (q_dup2 rfl rfl (q_lald (j := 0) hgr rfl (by omega) hg0 (q_iload rfl hrr)))))) ?_
                                      refine rw_if_eq ⟨by omega, by omega⟩ (t := 1003) rfl (fun hc72 => ?_) (fun hc72 => ?_)
                                      · skip
                                        refine rw_blk lk_L_isAct_1003 ?_
                                        refine rw_of (fun rr hrr => q_iconst hrr) ?_
                                        refine rw_blk lk_L_isAct_1004 ?_
                                        refine rw_of (fun rr hrr => q_iadd (q_last (j := 0) hgr rfl (by omega) hrr)) ?_
                                        generalize hm73 : wI nn gg 0 ((((k : Nat) : Int) + 0)) = e74
                                        refine rw_of (fun rr hrr => q_aload_n rfl (q_iload rfl hrr)) ?_
                                        refine rw_if_eq ⟨by omega, by omega⟩ (t := 1017) rfl (fun hc75 => ?_) (fun hc75 => ?_)
                                        · exact absurd hc75 (by decide)
                                        · skip
                                          refine rw_of (fun rr hrr => q_bipush rfl (q_goto (t := 1019) rfl hrr)) ?_
                                          refine rw_blk lk_L_isAct_1019 ?_
                                          refine rw_of (fun rr hrr => q_iload rfl (q_iconst (q_iconst (q_iconst (q_iconst hrr))))) ?_
                                          obtain ⟨_, mm76, pp76, K76, _, _, cc76, ss76, hV76, hK76, hKB76, hS76, rfl, hC76, rfl, rfl⟩ := e_joinedN (X := X) (K := K) (sh := sh) (nn := e74) (d := d) (by omega) hC70 (s := sy) (by omega) (fun e => by obtain ⟨e1, e2, e3, e4, e5, e6⟩ := e; first | omega | exact absurd e6 hsd9)
                                          have hKB76 : K76 ≤ K + 1 := hKB76
                                          refine rw_of (fun rr hrr => q_invS hV76 rfl rfl (okar_cons rfl (okar_cons rfl (okar_cons rfl (okar_cons rfl (okar_cons rfl (okar_cons rfl (okar_cons rfl okar_nil))))))) (Nat.le_of_ble_eq_true rfl) (q_iload rfl hrr)) ?_
                                          refine rw_if_ne ⟨by omega, by omega⟩ (t := 1039) rfl (fun hc77 => ?_) (fun hc77 => ?_)
                                          · skip
                                            refine rw_blk lk_L_isAct_1039 ?_
                                            refine rw_of (fun rr hrr => q_iload rfl hrr) ?_
                                            refine rw_if_eq ⟨by omega, by omega⟩ (t := 1052) rfl (fun hc78 => ?_) (fun hc78 => ?_)
                                            · skip
                                              refine rw_blk lk_L_isAct_1052 ?_
                                              refine rw_of (fun rr hrr => q_sipush rfl hrr) ?_
                                              refine rw_blk lk_L_isAct_1055 ?_
                                              refine rw_icmp_ne ⟨by omega, by omega⟩ ⟨by omega, by omega⟩ (t := 1083) rfl (fun hc79 => ?_) (fun hc79 => ?_)
                                              · exfalso; omega
                                              · skip
                                                refine rw_of (fun rr hrr => q_iload rfl hrr) ?_
                                                refine rw_if_eq ⟨by omega, by omega⟩ (t := 1079) rfl (fun hc80 => ?_) (fun hc80 => ?_)
                                                · skip
                                                  refine rw_blk lk_L_isAct_1079 ?_
                                                  refine rw_of (fun rr hrr => q_iconst (q_goto (t := 1084) rfl hrr)) ?_
                                                  refine rw_blk lk_L_isAct_1084 ?_
                                                  refine lw_end hQ (q_ireturn (by omega)) (by omega) (by omega) (FrS_tr (by omega) FrS_rfl hS76) ?_
                                                  exact ⟨rfl, k, cp, ci, N, by omega, (hC76).1, ((show e74 gg 0 = (((k : Nat) : Int) + 0) from (kA hm73)).trans (by omega)), ((kB hm73 (by omega)).trans hg1), ((kB hm73 (by omega)).trans hg2), ⟨PP, fun i hi => (show e74 rp i = nn rp i from congrFun (kN hm73 (by omega)) _).trans (hpp i hi), fun i hi => (hpc i hi).trans (congrFun (hC76).P i).symm⟩, fun i hi => ((show e74 ur i = nn ur i from congrFun (kN hm73 (by omega)) _).trans (huu i hi)).trans (congrArg vF (congrFun (hC76).U i).symm)⟩
                                                · exact absurd hc80 (by decide)
                                            · exact absurd hc78 (by decide)
                                          · exact absurd hc77 (by decide)
                                      · exact absurd hc72 (by decide)
                                    · skip
                                      refine rw_of (fun rr hrr => q_aload_n rfl (q_iload rfl (q_iconst (q_iconst (q_iconst hrr))))) ?_
                                      obtain ⟨_, mm81, pp81, hV81, rfl, hC81⟩ := w_at3 (S := (K, gB X sh nn)) (d := d) (by omega) hC70 (s := sy) (by omega) (i := 0) (j := 0)
                                      refine rw_of (fun rr hrr => q_invV hV81 (show SH 1 = (17, 0) from rfl) rfl rfl (okar_cons rfl (okar_cons rfl (okar_cons rfl (okar_cons rfl okar_nil)))) (Nat.le_of_ble_eq_true rfl) hrr) ?_
                                      refine rw_if_ne (rg_vF _) (t := 987) rfl (fun hc82 => ?_) (fun hc82 => ?_)
                                      · skip
                                        have hsd9 : Sd m sy ≠ 0 := fun e => hc82 (by rw [e]; rfl)
                                        refine rw_blk lk_L_isAct_987 ?_
                                        refine rw_of (fun rr hrr => q_iconst hrr) ?_
                                        refine rw_blk lk_L_isAct_988 ?_
                                        refine rw_of (fun rr hrr => q_istore (Nat.le_of_ble_eq_true rfl) rfl (q_aload_n rfl (q_iconst (q_dup2 rfl rfl (q_lald (j := 0) hgr rfl (by omega) hg0 (q_iload rfl hrr)))))) ?_
                                        refine rw_if_eq ⟨by omega, by omega⟩ (t := 1003) rfl (fun hc83 => ?_) (fun hc83 => ?_)
                                        · skip
                                          refine rw_blk lk_L_isAct_1003 ?_
                                          refine rw_of (fun rr hrr => q_iconst hrr) ?_
                                          refine rw_blk lk_L_isAct_1004 ?_
                                          refine rw_of (fun rr hrr => q_iadd (q_last (j := 0) hgr rfl (by omega) hrr)) ?_
                                          generalize hm84 : wI nn gg 0 ((((k : Nat) : Int) + 0)) = e85
                                          refine rw_of (fun rr hrr => q_aload_n rfl (q_iload rfl hrr)) ?_
                                          refine rw_if_eq ⟨by omega, by omega⟩ (t := 1017) rfl (fun hc86 => ?_) (fun hc86 => ?_)
                                          · exact absurd hc86 (by decide)
                                          · skip
                                            refine rw_of (fun rr hrr => q_bipush rfl (q_goto (t := 1019) rfl hrr)) ?_
                                            refine rw_blk lk_L_isAct_1019 ?_
                                            refine rw_of (fun rr hrr => q_iload rfl (q_iconst (q_iconst (q_iconst (q_iconst hrr))))) ?_
                                            obtain ⟨_, mm87, pp87, K87, _, _, cc87, ss87, hV87, hK87, hKB87, hS87, rfl, hC87, rfl, rfl⟩ := e_joinedN (X := X) (K := K) (sh := sh) (nn := e85) (d := d) (by omega) hC81 (s := sy) (by omega) (fun e => by obtain ⟨e1, e2, e3, e4, e5, e6⟩ := e; first | omega | exact absurd e6 hsd9)
                                            have hKB87 : K87 ≤ K + 1 := hKB87
                                            refine rw_of (fun rr hrr => q_invS hV87 rfl rfl (okar_cons rfl (okar_cons rfl (okar_cons rfl (okar_cons rfl (okar_cons rfl (okar_cons rfl (okar_cons rfl okar_nil))))))) (Nat.le_of_ble_eq_true rfl) (q_iload rfl hrr)) ?_
                                            refine rw_if_ne ⟨by omega, by omega⟩ (t := 1039) rfl (fun hc88 => ?_) (fun hc88 => ?_)
                                            · skip
                                              refine rw_blk lk_L_isAct_1039 ?_
                                              refine rw_of (fun rr hrr => q_iload rfl hrr) ?_
                                              refine rw_if_eq ⟨by omega, by omega⟩ (t := 1052) rfl (fun hc89 => ?_) (fun hc89 => ?_)
                                              · skip
                                                refine rw_blk lk_L_isAct_1052 ?_
                                                refine rw_of (fun rr hrr => q_sipush rfl hrr) ?_
                                                refine rw_blk lk_L_isAct_1055 ?_
                                                refine rw_icmp_ne ⟨by omega, by omega⟩ ⟨by omega, by omega⟩ (t := 1083) rfl (fun hc90 => ?_) (fun hc90 => ?_)
                                                · exfalso; omega
                                                · skip
                                                  refine rw_of (fun rr hrr => q_iload rfl hrr) ?_
                                                  refine rw_if_eq ⟨by omega, by omega⟩ (t := 1079) rfl (fun hc91 => ?_) (fun hc91 => ?_)
                                                  · skip
                                                    refine rw_blk lk_L_isAct_1079 ?_
                                                    refine rw_of (fun rr hrr => q_iconst (q_goto (t := 1084) rfl hrr)) ?_
                                                    refine rw_blk lk_L_isAct_1084 ?_
                                                    refine lw_end hQ (q_ireturn (by omega)) (by omega) (by omega) (FrS_tr (by omega) FrS_rfl hS87) ?_
                                                    exact ⟨rfl, k, cp, ci, N, by omega, (hC87).1, ((show e85 gg 0 = (((k : Nat) : Int) + 0) from (kA hm84)).trans (by omega)), ((kB hm84 (by omega)).trans hg1), ((kB hm84 (by omega)).trans hg2), ⟨PP, fun i hi => (show e85 rp i = nn rp i from congrFun (kN hm84 (by omega)) _).trans (hpp i hi), fun i hi => (hpc i hi).trans (congrFun (hC87).P i).symm⟩, fun i hi => ((show e85 ur i = nn ur i from congrFun (kN hm84 (by omega)) _).trans (huu i hi)).trans (congrArg vF (congrFun (hC87).U i).symm)⟩
                                                  · exact absurd hc91 (by decide)
                                              · exact absurd hc89 (by decide)
                                            · exact absurd hc88 (by decide)
                                        · exact absurd hc83 (by decide)
                                      · skip
                                        have hsd8 : Sd m sy = 0 := vF_eq0.mp hc82
                                        refine rw_blk lk_L_isAct_983 ?_
                                        refine rw_of (fun rr hrr => q_iconst (q_goto (t := 988) rfl hrr)) ?_
                                        refine rw_blk lk_L_isAct_988 ?_
                                        refine rw_of (fun rr hrr => q_istore (Nat.le_of_ble_eq_true rfl) rfl (q_aload_n rfl (q_iconst (q_dup2 rfl rfl (q_lald (j := 0) hgr rfl (by omega) hg0 (q_iload rfl hrr)))))) ?_
                                        refine rw_if_eq ⟨by omega, by omega⟩ (t := 1003) rfl (fun hc92 => ?_) (fun hc92 => ?_)
                                        · exact absurd hc92 (by decide)
                                        · skip
                                          refine rw_of (fun rr hrr => q_iconst (q_goto (t := 1004) rfl hrr)) ?_
                                          refine rw_blk lk_L_isAct_1004 ?_
                                          refine rw_of (fun rr hrr => q_iadd (q_last (j := 0) hgr rfl (by omega) hrr)) ?_
                                          generalize hm93 : wI nn gg 0 ((((k : Nat) : Int) + 1)) = e94
                                          refine rw_of (fun rr hrr => q_aload_n rfl (q_iload rfl hrr)) ?_
                                          refine rw_if_eq ⟨by omega, by omega⟩ (t := 1017) rfl (fun hc95 => ?_) (fun hc95 => ?_)
                                          · exact absurd hc95 (by decide)
                                          · skip
                                            refine rw_of (fun rr hrr => q_bipush rfl (q_goto (t := 1019) rfl hrr)) ?_
                                            refine rw_blk lk_L_isAct_1019 ?_
                                            refine rw_of (fun rr hrr => q_iload rfl (q_iconst (q_iconst (q_iconst (q_iconst hrr))))) ?_
                                            obtain ⟨_, mm96, pp96, K96, _, _, cc96, ss96, hV96, hK96, hKB96, hS96, rfl, ⟨ya96, yb96, ⟨hC96, hN96⟩, q196, q296, q396, q496, q596, q696, q796, q896, q996, qa96, qb96, qc96⟩, rfl, rfl⟩ := e_joined (X := X) (K := K) (sh := sh) (nn := e94) (d := d) (by omega) hC81 (s := sy) (by omega) (by omega) hsd8 (by omega) (by omega) (by omega) (by omega)
                                            have hKB96 : K96 ≤ K + 1 := hKB96
                                            refine rw_of (fun rr hrr => q_invS hV96 rfl rfl (okar_cons rfl (okar_cons rfl (okar_cons rfl (okar_cons rfl (okar_cons rfl (okar_cons rfl (okar_cons rfl okar_nil))))))) (Nat.le_of_ble_eq_true rfl) (q_iload rfl hrr)) ?_
                                            refine rw_if_ne ⟨by omega, by omega⟩ (t := 1039) rfl (fun hc97 => ?_) (fun hc97 => ?_)
                                            · skip
                                              refine rw_blk lk_L_isAct_1039 ?_
                                              refine rw_of (fun rr hrr => q_iload rfl hrr) ?_
                                              refine rw_if_eq ⟨by omega, by omega⟩ (t := 1052) rfl (fun hc98 => ?_) (fun hc98 => ?_)
                                              · exact absurd hc98 (by decide)
                                              · skip
                                                refine rw_of (fun rr hrr => q_aload_n rfl (q_iconst (q_lald (j := 0) (Ro_call hK96 hS96 hgr) rfl (by omega) (kA hm93) (q_iconst (q_isub (q_goto (t := 1055) rfl hrr)))))) ?_
                                                refine rw_blk lk_L_isAct_1055 ?_
                                                refine rw_icmp_ne ⟨by omega, by omega⟩ ⟨by omega, by omega⟩ (t := 1083) rfl (fun hc99 => ?_) (fun hc99 => ?_)
                                                · exfalso; omega
                                                · skip
                                                  refine rw_of (fun rr hrr => q_iload rfl hrr) ?_
                                                  refine rw_if_eq ⟨by omega, by omega⟩ (t := 1079) rfl (fun hc100 => ?_) (fun hc100 => ?_)
                                                  · exact absurd hc100 (by decide)
                                                  · skip
                                                    refine rw_of (fun rr hrr => q_aload_n rfl (q_aload_n rfl (q_iconst (q_lald (j := 0) (Ro_call hK96 hS96 hgr) rfl (by omega) (kA hm93) (q_iconst (q_isub (q_eqv (show (((((k : Nat) : Int) + 1) - 1) : Int) = ((k : Nat) : Int) from by omega) (q_iload rfl (q_iload rfl hrr))))))))) ?_
                                                    obtain ⟨_, mm101, pp101, K101, sh101, e101, cc101, ss101, hV101, hK101, hKB101, hS101, rfl, hC101, hF101⟩ := c_L_arePlaced1 (X := X) (m := mm96) (p := pp96) (K := K96) (sh := sh) (nn := e94) (d := d) (by omega) (by omega) k sy ya96 yb96 (k + 1) cp ci (upN N k (2 * N sy)) hC96 (Nat.lt_succ_self k) (by omega) q196 q296 q396 q496 q596 q696 q796 q896 q996 qa96 qb96 qc96
                                                    have hKB101 : K101 ≤ K96 + 4 := hKB101
                                                    refine rw_of (fun rr hrr => q_invS hV101 rfl rfl (okar_cons rfl (okar_cons rfl (okar_cons rfl (okar_cons rfl okar_nil)))) (Nat.le_of_ble_eq_true rfl) hrr) ?_
                                                    refine rw_if_eq ⟨by omega, by omega⟩ (t := 1083) rfl (fun hc102 => ?_) (fun hc102 => ?_)
                                                    · exact absurd hc102 (by decide)
                                                    · skip
                                                      refine rw_blk lk_L_isAct_1079 ?_
                                                      refine rw_of (fun rr hrr => q_iconst (q_goto (t := 1084) rfl hrr)) ?_
                                                      refine rw_blk lk_L_isAct_1084 ?_
                                                      refine lw_end hQ (q_ireturn (by omega)) (by omega) (by omega) (FrS_tr (by omega) (FrS_tr (by omega) FrS_rfl hS96) hS101) ?_
                                                      exact ⟨rfl, k + 1, cp, ci, upN N k (2 * N sy), by omega, (hC101).1, ((show e101 gg 0 = (((k : Nat) : Int) + 1) from ((congrFun (hF101 gg (by show ¬ (K96 < gg); omega)) _).trans (kA hm93))).trans (by omega)), (((congrFun (hF101 gg (by show ¬ (K96 < gg); omega)) _).trans (kB hm93 (by omega))).trans hg1), (((congrFun (hF101 gg (by show ¬ (K96 < gg); omega)) _).trans (kB hm93 (by omega))).trans hg2), ⟨PP, fun i hi => (show e101 rp i = nn rp i from congrFun ((hF101 rp (by show ¬ (K96 < rp); omega)).trans (kN hm93 (by omega))) _).trans (hpp i hi), fun i hi => (hpc i hi).trans (congrFun ((hC101).P.trans hN96.P) i).symm⟩, fun i hi => ((show e101 ur i = nn ur i from congrFun ((hF101 ur (by show ¬ (K96 < ur); omega)).trans (kN hm93 (by omega))) _).trans (huu i hi)).trans (congrArg vF (congrFun ((hC101).U.trans hN96.U) i).symm)⟩
                                            · exact absurd hc97 (by decide)
          · exact absurd hc5 (by decide)
        · exact absurd hc4 (by decide)
      · exact absurd hc3 (by decide)
    · exact absurd hc2 (by decide)
  · exact absurd hc1 (by decide)
theorem c_L_isAct9 {d : Nat} {X : MC} {m : M1} {p : M2} {K : Nat} {sh : Nat → Nat} {nn : N2} (hd : 11 ≤ d) (hK : 260 ≤ K) (rp ur gg one two : Nat) (k cp ci : Nat) (N : Nat → Nat) (hC0 : CI k N cp ci m p) (hpr : Ro K sh rp 32) (hur : Ro K sh ur 20) (hgr : Ro K sh gg 3) (hrg : rp ≠ gg) (hug : ur ≠ gg) (hru : rp ≠ ur) (hLR : LR rp ur gg k cp ci m nn) (h1 : one < 60000) (h2 : two < 60000) (hk1 : 1 ≤ k) : Lc d k_L_isAct X [.ref (1), .ref (rp), .ref (ur), .ref (gg), .int (iI (9)), .int (iI (((one : Nat) : Int))), .int (iI (((two : Nat) : Int)))] m p K sh nn (fun v m' p' K' sh' n' => v = some (.int (iI 1)) ∧ ∃ k' cp' ci', ∃ N' : Nat → Nat, k ≤ k' ∧ CI k' N' cp' ci' m' p' ∧ LR rp ur gg k' cp' ci' m' n') := by
  obtain ⟨d, rfl⟩ : ∃ e, d = e + 1 := ⟨d - 1, by omega⟩
  have hpr8 := hpr.1; have hpr9 := hpr.2.1
  have hur8 := hur.1; have hur9 := hur.2.1
  have hgr8 := hgr.1; have hgr9 := hgr.2.1
  have hC := CS_rf hC0
  have hk12 := hC.k12
  have hcp16 := hC.p16
  have hci20 := hC.i20
  obtain ⟨hg0, hg1, hg2, ⟨PP, hpp, hpc⟩, huu⟩ := hLR
  obtain ⟨sy, hsy0⟩ : ∃ z, z = one % (k + 1) := ⟨_, rfl⟩
  obtain ⟨ot, hot0⟩ : ∃ z, z = two % (k + 1) := ⟨_, rfl⟩
  have hsy : sy ≤ k := by rw [hsy0]; exact Nat.le_of_lt_succ (Nat.mod_lt _ (Nat.succ_pos _))
  have hot : ot ≤ k := by rw [hot0]; exact Nat.le_of_lt_succ (Nat.mod_lt _ (Nat.succ_pos _))
  obtain ⟨w, hw0⟩ : ∃ w, w = one / 13 % 5 := ⟨_, rfl⟩
  have hw5 : w < 5 := by omega
  refine lc_go (lv := [some (.ref (1)), some (.ref (rp)), some (.ref (ur)), some (.ref (gg)), some (.int (iI (9))), some (.int (iI (((one : Nat) : Int)))), some (.int (iI (((two : Nat) : Int)))), none, none, none, none, none, none, none, none, none, none]) (B := 7) (Nat.le_of_ble_eq_true rfl) (okar_cons rfl (okar_cons rfl (okar_cons rfl (okar_cons rfl (okar_cons rfl (okar_cons rfl (okar_cons rfl okar_nil))))))) rfl rfl (fun Qr hQ => ?_)
  refine rw_blk lk_L_isAct_0 ?_
  refine rw_of (fun rr hrr => q_iload rfl (q_aload_n rfl (q_iconst (q_lald (j := 0) hgr rfl (by omega) hg0 (q_iconst (q_iadd (q_irem ⟨by omega, by omega⟩ ⟨by omega, by omega⟩ (by omega) (show (((one : Nat) : Int)).tmod ((((k : Nat) : Int) + 1)) = ((sy : Nat) : Int) from by rw [hsy0]; rfl) (q_istore (Nat.le_of_ble_eq_true rfl) rfl (q_iload rfl (q_aload_n rfl (q_iconst (q_lald (j := 0) hgr rfl (by omega) hg0 (q_iconst (q_iadd (q_irem ⟨by omega, by omega⟩ ⟨by omega, by omega⟩ (by omega) (show (((two : Nat) : Int)).tmod ((((k : Nat) : Int) + 1)) = ((ot : Nat) : Int) from by rw [hot0]; rfl) (q_istore (Nat.le_of_ble_eq_true rfl) rfl (q_iload rfl hrr))))))))))))))))) ?_
  refine rw_if_ne ⟨by omega, by omega⟩ (t := 133) rfl (fun hc1 => ?_) (fun hc1 => ?_)
  · skip
    refine rw_blk lk_L_isAct_133 ?_
    refine rw_of (fun rr hrr => q_iload rfl (q_iconst hrr)) ?_
    refine rw_icmp_ge ⟨by omega, by omega⟩ ⟨by omega, by omega⟩ (t := 312) rfl (fun hc2 => ?_) (fun hc2 => ?_)
    · skip
      refine rw_blk lk_L_isAct_312 ?_
      refine rw_of (fun rr hrr => q_iload rfl (q_iconst hrr)) ?_
      refine rw_icmp_ne ⟨by omega, by omega⟩ ⟨by omega, by omega⟩ (t := 538) rfl (fun hc3 => ?_) (fun hc3 => ?_)
      · skip
        refine rw_blk lk_L_isAct_538 ?_
        refine rw_of (fun rr hrr => q_iload rfl (q_bipush rfl hrr)) ?_
        refine rw_icmp_ge ⟨by omega, by omega⟩ ⟨by omega, by omega⟩ (t := 763) rfl (fun hc4 => ?_) (fun hc4 => ?_)
        · skip
          refine rw_blk lk_L_isAct_763 ?_
          refine rw_of (fun rr hrr => q_iload rfl (q_bipush rfl hrr)) ?_
          refine rw_icmp_ne ⟨by omega, by omega⟩ ⟨by omega, by omega⟩ (t := 838) rfl (fun hc5 => ?_) (fun hc5 => ?_)
          · skip
            refine rw_blk lk_L_isAct_838 ?_
            refine rw_of (fun rr hrr => q_iload rfl (q_bipush rfl hrr)) ?_
            refine rw_icmp_ge ⟨by omega, by omega⟩ ⟨by omega, by omega⟩ (t := 1085) rfl (fun hc6 => ?_) (fun hc6 => ?_)
            · skip
              refine rw_blk lk_L_isAct_1085 ?_
              refine rw_of (fun rr hrr => q_iload rfl (q_aload_n rfl (q_iconst (q_lald (j := 0) hgr rfl (by omega) hg0 hrr)))) ?_
              refine rw_icmp_ge ⟨by omega, by omega⟩ ⟨by omega, by omega⟩ (t := 1102) rfl (fun hc7 => ?_) (fun hc7 => ?_)
              · skip
                refine rw_blk lk_L_isAct_1102 ?_
                refine rw_of (fun rr hrr => q_iconst hrr) ?_
                refine rw_blk lk_L_isAct_1103 ?_
                refine rw_of (fun rr hrr => q_istore (Nat.le_of_ble_eq_true rfl) rfl (q_iload rfl (q_bipush rfl (q_idiv ⟨by omega, by omega⟩ ⟨by omega, by omega⟩ (by omega) (show (((one : Nat) : Int)).tdiv (13) = ((one / 13 : Nat) : Int) by rfl) (q_iconst (q_irem ⟨by omega, by omega⟩ ⟨by omega, by omega⟩ (by omega) (show (((one / 13 : Nat) : Int)).tmod (5) = ((w : Nat) : Int) from by rw [hw0]; rfl) (q_istore (Nat.le_of_ble_eq_true rfl) rfl (q_iload rfl (q_iload rfl (q_iconst (q_iadd (q_irem ⟨by omega, by omega⟩ ⟨by omega, by omega⟩ (by omega) (show (((two : Nat) : Int)).tmod ((0 + 1)) = ((two % 1 : Nat) : Int) by rfl) (q_istore (Nat.le_of_ble_eq_true rfl) rfl (q_iload rfl (q_bipush rfl (q_idiv ⟨by omega, by omega⟩ ⟨by omega, by omega⟩ (by omega) (show (((two : Nat) : Int)).tdiv (9) = ((two / 9 : Nat) : Int) by rfl) (q_iload rfl (q_iconst (q_iadd (q_irem ⟨by omega, by omega⟩ ⟨by omega, by omega⟩ (by omega) (show (((two / 9 : Nat) : Int)).tmod ((0 + 1)) = (((two / 9) % 1 : Nat) : Int) by rfl) (q_istore (Nat.le_of_ble_eq_true rfl) rfl (q_iload rfl (q_aload_n rfl (q_iconst (q_lald (j := 0) hgr rfl (by omega) hg0 hrr))))))))))))))))))))))))) ?_
                refine rw_icmp_ge ⟨by omega, by omega⟩ ⟨by omega, by omega⟩ (t := 1191) rfl (fun hc8 => ?_) (fun hc8 => ?_)
                · skip
                  refine rw_blk lk_L_isAct_1191 ?_
                  refine rw_of (fun rr hrr => q_iconst hrr) ?_
                  refine rw_blk lk_L_isAct_1192 ?_
                  refine rw_of (fun rr hrr => q_istore (Nat.le_of_ble_eq_true rfl) rfl (q_iload rfl (q_iconst (q_irem ⟨by omega, by omega⟩ ⟨by omega, by omega⟩ (by omega) (show (((one : Nat) : Int)).tmod (3) = ((one % 3 : Nat) : Int) by rfl) hrr)))) ?_
                  have hL1224 : ∀ (cc ss : Nat) (x : Int), ((-10007 ≤ x ∧ x ≤ 10007)) → Rw (Ev d) k_L_isAct (1224, [], [some (.ref (1)), some (.ref (rp)), some (.ref (ur)), some (.ref (gg)), some (.int (iI (9))), some (.int (iI (((one : Nat) : Int)))), some (.int (iI (((two : Nat) : Int)))), some (.int (iI (((sy : Nat) : Int)))), some (.int (iI (((ot : Nat) : Int)))), some (.int (iI (0))), some (.int (iI (((w : Nat) : Int)))), some (.int (iI (((two % 1 : Nat) : Int)))), some (.int (iI ((((two / 9) % 1 : Nat) : Int)))), some (.int (iI (0))), none, none, none], [.int (iI (x))], hB X m p K sh nn, cc, ss) Qr := by
                    intro cc ss x
                    intro hI
                    have hx := hI
                    refine rw_blk lk_L_isAct_1224 ?_
                    refine rw_of (fun rr hrr => q_istore (Nat.le_of_ble_eq_true rfl) rfl (q_iload rfl (q_sipush rfl hrr))) ?_
                    refine rw_icmp_le ⟨by omega, by omega⟩ ⟨by omega, by omega⟩ (t := 1246) rfl (fun hc9 => ?_) (fun hc9 => ?_)
                    · skip
                      refine rw_blk lk_L_isAct_1246 ?_
                      refine rw_of (fun rr hrr => q_iconst hrr) ?_
                      refine rw_blk lk_L_isAct_1247 ?_
                      refine rw_of (fun rr hrr => q_istore (Nat.le_of_ble_eq_true rfl) rfl (q_iload rfl hrr)) ?_
                      refine rw_if_eq ⟨by omega, by omega⟩ (t := 1269) rfl (fun hc10 => ?_) (fun hc10 => ?_)
                      · skip
                        refine rw_blk lk_L_isAct_1269 ?_
                        refine rw_of (fun rr hrr => q_iconst hrr) ?_
                        refine rw_blk lk_L_isAct_1270 ?_
                        refine rw_of (fun rr hrr => q_istore (Nat.le_of_ble_eq_true rfl) rfl (q_aload_n rfl (q_iconst (q_iload rfl (q_iload rfl (q_iload rfl (q_iload rfl (q_iload rfl hrr)))))))) ?_
                        obtain ⟨_, mm11, pp11, K11, _, _, cc11, ss11, hV11, hK11, hKB11, hS11, rfl, hC11, rfl, rfl⟩ := e_setP (w := w) (i := two % 1) (j := (two / 9) % 1) (s := sy) (X := X) (K := K) (sh := sh) (nn := nn) (d := d) (by omega) hC (x := x) (by omega) (by omega)
                        have hKB11 : K11 ≤ K + 1 := hKB11
                        refine rw_of (fun rr hrr => q_invS hV11 rfl rfl (okar_cons rfl (okar_cons rfl (okar_cons rfl (okar_cons rfl (okar_cons rfl (okar_cons rfl (okar_cons rfl okar_nil))))))) (Nat.le_of_ble_eq_true rfl) (q_iload rfl hrr)) ?_
                        refine rw_if_ne ⟨by omega, by omega⟩ (t := 1298) rfl (fun hc12 => ?_) (fun hc12 => ?_)
                        · exact absurd hc12 (by decide)
                        · skip
                          refine rw_of (fun rr hrr => q_sipush rfl (q_goto (t := 1311) rfl hrr)) ?_
                          refine rw_blk lk_L_isAct_1311 ?_
                          refine rw_icmp_ne ⟨by omega, by omega⟩ ⟨by omega, by omega⟩ (t := 1353) rfl (fun hc13 => ?_) (fun hc13 => ?_)
                          · exfalso; omega
                          · skip
                            refine rw_of (fun rr hrr => q_iload rfl hrr) ?_
                            refine rw_if_eq ⟨by omega, by omega⟩ (t := 1349) rfl (fun hc14 => ?_) (fun hc14 => ?_)
                            · skip
                              refine rw_blk lk_L_isAct_1349 ?_
                              refine rw_of (fun rr hrr => q_iconst (q_goto (t := 1354) rfl hrr)) ?_
                              refine rw_blk lk_L_isAct_1354 ?_
                              refine lw_end hQ (q_ireturn (by omega)) (by omega) (by omega) (FrS_tr (by omega) FrS_rfl hS11) ?_
                              exact ⟨rfl, k, cp, ci, N, by omega, (hC11).1, hg0, hg1, hg2, ⟨PP, fun i hi => (show nn rp i = nn rp i from congrFun rfl _).trans (hpp i hi), fun i hi => (hpc i hi).trans (congrFun (hC11).P i).symm⟩, fun i hi => ((show nn ur i = nn ur i from congrFun rfl _).trans (huu i hi)).trans (congrArg vF (congrFun (hC11).U i).symm)⟩
                            · exact absurd hc14 (by decide)
                      · exact absurd hc10 (by decide)
                    · skip
                      refine rw_of (fun rr hrr => q_iload rfl (q_sipush rfl hrr)) ?_
                      refine rw_icmp_ge ⟨by omega, by omega⟩ ⟨by omega, by omega⟩ (t := 1246) rfl (fun hc15 => ?_) (fun hc15 => ?_)
                      · skip
                        refine rw_blk lk_L_isAct_1246 ?_
                        refine rw_of (fun rr hrr => q_iconst hrr) ?_
                        refine rw_blk lk_L_isAct_1247 ?_
                        refine rw_of (fun rr hrr => q_istore (Nat.le_of_ble_eq_true rfl) rfl (q_iload rfl hrr)) ?_
                        refine rw_if_eq ⟨by omega, by omega⟩ (t := 1269) rfl (fun hc16 => ?_) (fun hc16 => ?_)
                        · skip
                          refine rw_blk lk_L_isAct_1269 ?_
                          refine rw_of (fun rr hrr => q_iconst hrr) ?_
                          refine rw_blk lk_L_isAct_1270 ?_
                          refine rw_of (fun rr hrr => q_istore (Nat.le_of_ble_eq_true rfl) rfl (q_aload_n rfl (q_iconst (q_iload rfl (q_iload rfl (q_iload rfl (q_iload rfl (q_iload rfl hrr)))))))) ?_
                          obtain ⟨_, mm17, pp17, K17, _, _, cc17, ss17, hV17, hK17, hKB17, hS17, rfl, hC17, rfl, rfl⟩ := e_setP (w := w) (i := two % 1) (j := (two / 9) % 1) (s := sy) (X := X) (K := K) (sh := sh) (nn := nn) (d := d) (by omega) hC (x := x) (by omega) (by omega)
                          have hKB17 : K17 ≤ K + 1 := hKB17
                          refine rw_of (fun rr hrr => q_invS hV17 rfl rfl (okar_cons rfl (okar_cons rfl (okar_cons rfl (okar_cons rfl (okar_cons rfl (okar_cons rfl (okar_cons rfl okar_nil))))))) (Nat.le_of_ble_eq_true rfl) (q_iload rfl hrr)) ?_
                          refine rw_if_ne ⟨by omega, by omega⟩ (t := 1298) rfl (fun hc18 => ?_) (fun hc18 => ?_)
                          · exact absurd hc18 (by decide)
                          · skip
                            refine rw_of (fun rr hrr => q_sipush rfl (q_goto (t := 1311) rfl hrr)) ?_
                            refine rw_blk lk_L_isAct_1311 ?_
                            refine rw_icmp_ne ⟨by omega, by omega⟩ ⟨by omega, by omega⟩ (t := 1353) rfl (fun hc19 => ?_) (fun hc19 => ?_)
                            · exfalso; omega
                            · skip
                              refine rw_of (fun rr hrr => q_iload rfl hrr) ?_
                              refine rw_if_eq ⟨by omega, by omega⟩ (t := 1349) rfl (fun hc20 => ?_) (fun hc20 => ?_)
                              · skip
                                refine rw_blk lk_L_isAct_1349 ?_
                                refine rw_of (fun rr hrr => q_iconst (q_goto (t := 1354) rfl hrr)) ?_
                                refine rw_blk lk_L_isAct_1354 ?_
                                refine lw_end hQ (q_ireturn (by omega)) (by omega) (by omega) (FrS_tr (by omega) FrS_rfl hS17) ?_
                                exact ⟨rfl, k, cp, ci, N, by omega, (hC17).1, hg0, hg1, hg2, ⟨PP, fun i hi => (show nn rp i = nn rp i from congrFun rfl _).trans (hpp i hi), fun i hi => (hpc i hi).trans (congrFun (hC17).P i).symm⟩, fun i hi => ((show nn ur i = nn ur i from congrFun rfl _).trans (huu i hi)).trans (congrArg vF (congrFun (hC17).U i).symm)⟩
                              · exact absurd hc20 (by decide)
                        · exact absurd hc16 (by decide)
                      · skip
                        refine rw_of (fun rr hrr => q_iconst (q_goto (t := 1247) rfl hrr)) ?_
                        refine rw_blk lk_L_isAct_1247 ?_
                        refine rw_of (fun rr hrr => q_istore (Nat.le_of_ble_eq_true rfl) rfl (q_iload rfl hrr)) ?_
                        refine rw_if_eq ⟨by omega, by omega⟩ (t := 1269) rfl (fun hc21 => ?_) (fun hc21 => ?_)
                        · skip
                          refine rw_blk lk_L_isAct_1269 ?_
                          refine rw_of (fun rr hrr => q_iconst hrr) ?_
                          refine rw_blk lk_L_isAct_1270 ?_
                          refine rw_of (fun rr hrr => q_istore (Nat.le_of_ble_eq_true rfl) rfl (q_aload_n rfl (q_iconst (q_iload rfl (q_iload rfl (q_iload rfl (q_iload rfl (q_iload rfl hrr)))))))) ?_
                          obtain ⟨_, mm22, pp22, K22, _, _, cc22, ss22, hV22, hK22, hKB22, hS22, rfl, hC22, rfl, rfl⟩ := e_setP (w := w) (i := two % 1) (j := (two / 9) % 1) (s := sy) (X := X) (K := K) (sh := sh) (nn := nn) (d := d) (by omega) hC (x := x) (by omega) (by omega)
                          have hKB22 : K22 ≤ K + 1 := hKB22
                          refine rw_of (fun rr hrr => q_invS hV22 rfl rfl (okar_cons rfl (okar_cons rfl (okar_cons rfl (okar_cons rfl (okar_cons rfl (okar_cons rfl (okar_cons rfl okar_nil))))))) (Nat.le_of_ble_eq_true rfl) (q_iload rfl hrr)) ?_
                          refine rw_if_ne ⟨by omega, by omega⟩ (t := 1298) rfl (fun hc23 => ?_) (fun hc23 => ?_)
                          · exact absurd hc23 (by decide)
                          · skip
                            refine rw_of (fun rr hrr => q_sipush rfl (q_goto (t := 1311) rfl hrr)) ?_
                            refine rw_blk lk_L_isAct_1311 ?_
                            refine rw_icmp_ne ⟨by omega, by omega⟩ ⟨by omega, by omega⟩ (t := 1353) rfl (fun hc24 => ?_) (fun hc24 => ?_)
                            · exfalso; omega
                            · skip
                              refine rw_of (fun rr hrr => q_iload rfl hrr) ?_
                              refine rw_if_eq ⟨by omega, by omega⟩ (t := 1349) rfl (fun hc25 => ?_) (fun hc25 => ?_)
                              · skip
                                refine rw_blk lk_L_isAct_1349 ?_
                                refine rw_of (fun rr hrr => q_iconst (q_goto (t := 1354) rfl hrr)) ?_
                                refine rw_blk lk_L_isAct_1354 ?_
                                refine lw_end hQ (q_ireturn (by omega)) (by omega) (by omega) (FrS_tr (by omega) FrS_rfl hS22) ?_
                                exact ⟨rfl, k, cp, ci, N, by omega, (hC22).1, hg0, hg1, hg2, ⟨PP, fun i hi => (show nn rp i = nn rp i from congrFun rfl _).trans (hpp i hi), fun i hi => (hpc i hi).trans (congrFun (hC22).P i).symm⟩, fun i hi => ((show nn ur i = nn ur i from congrFun rfl _).trans (huu i hi)).trans (congrArg vF (congrFun (hC22).U i).symm)⟩
                              · exact absurd hc25 (by decide)
                        · exact absurd hc21 (by decide)
                  refine rw_if_ne ⟨by omega, by omega⟩ (t := 1214) rfl (fun hc26 => ?_) (fun hc26 => ?_)
                  · skip
                    refine rw_blk lk_L_isAct_1214 ?_
                    refine rw_of (fun rr hrr => q_iload rfl (q_bipush rfl (q_idiv ⟨by omega, by omega⟩ ⟨by omega, by omega⟩ (by omega) (show (((one : Nat) : Int)).tdiv (65) = ((one / 65 : Nat) : Int) by rfl) (q_bipush rfl (q_irem ⟨by omega, by omega⟩ ⟨by omega, by omega⟩ (by omega) (show (((one / 65 : Nat) : Int)).tmod (9) = (((one / 65) % 9 : Nat) : Int) by rfl) (q_iconst (q_isub hrr))))))) ?_
                    have hA27 : -10007 ≤ (((((one / 65) % 9 : Nat) : Int) - 4)) ∧ (((((one / 65) % 9 : Nat) : Int) - 4)) ≤ 10007 := by
                      omega
                    exact rw_casts (hL1224 _ _ (((((one / 65) % 9 : Nat) : Int) - 4)) hA27) rfl rfl
                  · skip
                    refine rw_of (fun rr hrr => q_iload rfl (q_sipush rfl (q_irem ⟨by omega, by omega⟩ ⟨by omega, by omega⟩ (by omega) (show (((two : Nat) : Int)).tmod (20015) = ((two % 20015 : Nat) : Int) by rfl) (q_sipush rfl (q_isub (q_goto (t := 1224) rfl hrr)))))) ?_
                    have hA28 : -10007 ≤ ((((two % 20015 : Nat) : Int) - 10007)) ∧ ((((two % 20015 : Nat) : Int) - 10007)) ≤ 10007 := by
                      omega
                    exact rw_casts (hL1224 _ _ ((((two % 20015 : Nat) : Int) - 10007)) hA28) rfl rfl
                · exfalso; omega
              · skip
                refine rw_of (fun rr hrr => q_aload_n rfl (q_iload rfl hrr)) ?_
                obtain ⟨_, mm29, pp29, hV29, rfl, hC29⟩ := w_order (S := (K, gB X sh nn)) (d := d) (by omega) hC (s := sy) (by omega)
                refine rw_of (fun rr hrr => q_invV hV29 (show SH 1 = (17, 0) from rfl) rfl rfl (okar_cons rfl okar_nil) (Nat.le_of_ble_eq_true rfl) hrr) ?_
                have hN8 := hC.N8 (s := sy) (by omega)
                have hN1 := hC.N1 (s := sy) (by omega)
                refine rw_of (fun rr hrr => q_goto (t := 1103) rfl hrr) ?_
                refine rw_blk lk_L_isAct_1103 ?_
                refine rw_of (fun rr hrr => q_istore (Nat.le_of_ble_eq_true rfl) rfl (q_iload rfl (q_bipush rfl (q_idiv ⟨by omega, by omega⟩ ⟨by omega, by omega⟩ (by omega) (show (((one : Nat) : Int)).tdiv (13) = ((one / 13 : Nat) : Int) by rfl) (q_iconst (q_irem ⟨by omega, by omega⟩ ⟨by omega, by omega⟩ (by omega) (show (((one / 13 : Nat) : Int)).tmod (5) = ((w : Nat) : Int) from by rw [hw0]; rfl) (q_istore (Nat.le_of_ble_eq_true rfl) rfl (q_iload rfl (q_iload rfl (q_iconst (q_iadd hrr))))))))))) ?_
                obtain ⟨i, hi0⟩ : ∃ z, z = two % (N sy + 1) := ⟨_, rfl⟩
                have hi : i ≤ N sy := by rw [hi0]; exact Nat.le_of_lt_succ (Nat.mod_lt _ (Nat.succ_pos _))
                refine rw_of (fun rr hrr => q_irem ⟨by omega, by omega⟩ ⟨by omega, by omega⟩ (by omega) (show (((two : Nat) : Int)).tmod ((((N sy : Nat) : Int) + 1)) = ((i : Nat) : Int) from by rw [hi0]; rfl) (q_istore (Nat.le_of_ble_eq_true rfl) rfl (q_iload rfl (q_bipush rfl (q_idiv ⟨by omega, by omega⟩ ⟨by omega, by omega⟩ (by omega) (show (((two : Nat) : Int)).tdiv (9) = ((two / 9 : Nat) : Int) by rfl) (q_iload rfl (q_iconst (q_iadd hrr)))))))) ?_
                obtain ⟨j, hj0⟩ : ∃ z, z = two / 9 % (N sy + 1) := ⟨_, rfl⟩
                have hj : j ≤ N sy := by rw [hj0]; exact Nat.le_of_lt_succ (Nat.mod_lt _ (Nat.succ_pos _))
                refine rw_of (fun rr hrr => q_irem ⟨by omega, by omega⟩ ⟨by omega, by omega⟩ (by omega) (show (((two / 9 : Nat) : Int)).tmod ((((N sy : Nat) : Int) + 1)) = ((j : Nat) : Int) from by rw [hj0]; rfl) (q_istore (Nat.le_of_ble_eq_true rfl) rfl (q_iload rfl (q_aload_n rfl (q_iconst (q_lald (j := 0) hgr rfl (by omega) hg0 hrr)))))) ?_
                refine rw_icmp_ge ⟨by omega, by omega⟩ ⟨by omega, by omega⟩ (t := 1191) rfl (fun hc30 => ?_) (fun hc30 => ?_)
                · exfalso; omega
                · skip
                  refine rw_of (fun rr hrr => q_iload rfl (q_iconst hrr)) ?_
                  refine rw_icmp_ge ⟨by omega, by omega⟩ ⟨by omega, by omega⟩ (t := 1191) rfl (fun hc31 => ?_) (fun hc31 => ?_)
                  · skip
                    refine rw_blk lk_L_isAct_1191 ?_
                    refine rw_of (fun rr hrr => q_iconst hrr) ?_
                    refine rw_blk lk_L_isAct_1192 ?_
                    refine rw_of (fun rr hrr => q_istore (Nat.le_of_ble_eq_true rfl) rfl (q_iload rfl (q_iconst (q_irem ⟨by omega, by omega⟩ ⟨by omega, by omega⟩ (by omega) (show (((one : Nat) : Int)).tmod (3) = ((one % 3 : Nat) : Int) by rfl) hrr)))) ?_
                    have hL1224 : ∀ (cc ss : Nat) (x : Int), ((-10007 ≤ x ∧ x ≤ 10007)) → Rw (Ev d) k_L_isAct (1224, [], [some (.ref (1)), some (.ref (rp)), some (.ref (ur)), some (.ref (gg)), some (.int (iI (9))), some (.int (iI (((one : Nat) : Int)))), some (.int (iI (((two : Nat) : Int)))), some (.int (iI (((sy : Nat) : Int)))), some (.int (iI (((ot : Nat) : Int)))), some (.int (iI (((N sy : Nat) : Int)))), some (.int (iI (((w : Nat) : Int)))), some (.int (iI (((i : Nat) : Int)))), some (.int (iI (((j : Nat) : Int)))), some (.int (iI (0))), none, none, none], [.int (iI (x))], hB X mm29 pp29 K sh nn, cc, ss) Qr := by
                      intro cc ss x
                      intro hI
                      have hx := hI
                      refine rw_blk lk_L_isAct_1224 ?_
                      refine rw_of (fun rr hrr => q_istore (Nat.le_of_ble_eq_true rfl) rfl (q_iload rfl (q_sipush rfl hrr))) ?_
                      refine rw_icmp_le ⟨by omega, by omega⟩ ⟨by omega, by omega⟩ (t := 1246) rfl (fun hc32 => ?_) (fun hc32 => ?_)
                      · skip
                        refine rw_blk lk_L_isAct_1246 ?_
                        refine rw_of (fun rr hrr => q_iconst hrr) ?_
                        refine rw_blk lk_L_isAct_1247 ?_
                        refine rw_of (fun rr hrr => q_istore (Nat.le_of_ble_eq_true rfl) rfl (q_iload rfl hrr)) ?_
                        refine rw_if_eq ⟨by omega, by omega⟩ (t := 1269) rfl (fun hc33 => ?_) (fun hc33 => ?_)
                        · skip
                          refine rw_blk lk_L_isAct_1269 ?_
                          refine rw_of (fun rr hrr => q_iconst hrr) ?_
                          refine rw_blk lk_L_isAct_1270 ?_
                          refine rw_of (fun rr hrr => q_istore (Nat.le_of_ble_eq_true rfl) rfl (q_aload_n rfl (q_iconst (q_iload rfl (q_iload rfl (q_iload rfl (q_iload rfl (q_iload rfl hrr)))))))) ?_
                          obtain ⟨_, mm34, pp34, K34, _, _, cc34, ss34, hV34, hK34, hKB34, hS34, rfl, hC34, rfl, rfl⟩ := e_setP (w := w) (i := i) (j := j) (s := sy) (X := X) (K := K) (sh := sh) (nn := nn) (d := d) (by omega) hC29 (x := x) (by omega) (by omega)
                          have hKB34 : K34 ≤ K + 1 := hKB34
                          refine rw_of (fun rr hrr => q_invS hV34 rfl rfl (okar_cons rfl (okar_cons rfl (okar_cons rfl (okar_cons rfl (okar_cons rfl (okar_cons rfl (okar_cons rfl okar_nil))))))) (Nat.le_of_ble_eq_true rfl) (q_iload rfl hrr)) ?_
                          refine rw_if_ne ⟨by omega, by omega⟩ (t := 1298) rfl (fun hc35 => ?_) (fun hc35 => ?_)
                          · exact absurd hc35 (by decide)
                          · skip
                            refine rw_of (fun rr hrr => q_sipush rfl (q_goto (t := 1311) rfl hrr)) ?_
                            refine rw_blk lk_L_isAct_1311 ?_
                            refine rw_icmp_ne ⟨by omega, by omega⟩ ⟨by omega, by omega⟩ (t := 1353) rfl (fun hc36 => ?_) (fun hc36 => ?_)
                            · exfalso; omega
                            · skip
                              refine rw_of (fun rr hrr => q_iload rfl hrr) ?_
                              refine rw_if_eq ⟨by omega, by omega⟩ (t := 1349) rfl (fun hc37 => ?_) (fun hc37 => ?_)
                              · skip
                                refine rw_blk lk_L_isAct_1349 ?_
                                refine rw_of (fun rr hrr => q_iconst (q_goto (t := 1354) rfl hrr)) ?_
                                refine rw_blk lk_L_isAct_1354 ?_
                                refine lw_end hQ (q_ireturn (by omega)) (by omega) (by omega) (FrS_tr (by omega) FrS_rfl hS34) ?_
                                exact ⟨rfl, k, cp, ci, N, by omega, (hC34).1, hg0, hg1, hg2, ⟨PP, fun i hi => (show nn rp i = nn rp i from congrFun rfl _).trans (hpp i hi), fun i hi => (hpc i hi).trans (congrFun (hC34).P i).symm⟩, fun i hi => ((show nn ur i = nn ur i from congrFun rfl _).trans (huu i hi)).trans (congrArg vF (congrFun (hC34).U i).symm)⟩
                              · exact absurd hc37 (by decide)
                        · exact absurd hc33 (by decide)
                      · skip
                        refine rw_of (fun rr hrr => q_iload rfl (q_sipush rfl hrr)) ?_
                        refine rw_icmp_ge ⟨by omega, by omega⟩ ⟨by omega, by omega⟩ (t := 1246) rfl (fun hc38 => ?_) (fun hc38 => ?_)
                        · skip
                          refine rw_blk lk_L_isAct_1246 ?_
                          refine rw_of (fun rr hrr => q_iconst hrr) ?_
                          refine rw_blk lk_L_isAct_1247 ?_
                          refine rw_of (fun rr hrr => q_istore (Nat.le_of_ble_eq_true rfl) rfl (q_iload rfl hrr)) ?_
                          refine rw_if_eq ⟨by omega, by omega⟩ (t := 1269) rfl (fun hc39 => ?_) (fun hc39 => ?_)
                          · skip
                            refine rw_blk lk_L_isAct_1269 ?_
                            refine rw_of (fun rr hrr => q_iconst hrr) ?_
                            refine rw_blk lk_L_isAct_1270 ?_
                            refine rw_of (fun rr hrr => q_istore (Nat.le_of_ble_eq_true rfl) rfl (q_aload_n rfl (q_iconst (q_iload rfl (q_iload rfl (q_iload rfl (q_iload rfl (q_iload rfl hrr)))))))) ?_
                            obtain ⟨_, mm40, pp40, K40, _, _, cc40, ss40, hV40, hK40, hKB40, hS40, rfl, hC40, rfl, rfl⟩ := e_setP (w := w) (i := i) (j := j) (s := sy) (X := X) (K := K) (sh := sh) (nn := nn) (d := d) (by omega) hC29 (x := x) (by omega) (by omega)
                            have hKB40 : K40 ≤ K + 1 := hKB40
                            refine rw_of (fun rr hrr => q_invS hV40 rfl rfl (okar_cons rfl (okar_cons rfl (okar_cons rfl (okar_cons rfl (okar_cons rfl (okar_cons rfl (okar_cons rfl okar_nil))))))) (Nat.le_of_ble_eq_true rfl) (q_iload rfl hrr)) ?_
                            refine rw_if_ne ⟨by omega, by omega⟩ (t := 1298) rfl (fun hc41 => ?_) (fun hc41 => ?_)
                            · exact absurd hc41 (by decide)
                            · skip
                              refine rw_of (fun rr hrr => q_sipush rfl (q_goto (t := 1311) rfl hrr)) ?_
                              refine rw_blk lk_L_isAct_1311 ?_
                              refine rw_icmp_ne ⟨by omega, by omega⟩ ⟨by omega, by omega⟩ (t := 1353) rfl (fun hc42 => ?_) (fun hc42 => ?_)
                              · exfalso; omega
                              · skip
                                refine rw_of (fun rr hrr => q_iload rfl hrr) ?_
                                refine rw_if_eq ⟨by omega, by omega⟩ (t := 1349) rfl (fun hc43 => ?_) (fun hc43 => ?_)
                                · skip
                                  refine rw_blk lk_L_isAct_1349 ?_
                                  refine rw_of (fun rr hrr => q_iconst (q_goto (t := 1354) rfl hrr)) ?_
                                  refine rw_blk lk_L_isAct_1354 ?_
                                  refine lw_end hQ (q_ireturn (by omega)) (by omega) (by omega) (FrS_tr (by omega) FrS_rfl hS40) ?_
                                  exact ⟨rfl, k, cp, ci, N, by omega, (hC40).1, hg0, hg1, hg2, ⟨PP, fun i hi => (show nn rp i = nn rp i from congrFun rfl _).trans (hpp i hi), fun i hi => (hpc i hi).trans (congrFun (hC40).P i).symm⟩, fun i hi => ((show nn ur i = nn ur i from congrFun rfl _).trans (huu i hi)).trans (congrArg vF (congrFun (hC40).U i).symm)⟩
                                · exact absurd hc43 (by decide)
                          · exact absurd hc39 (by decide)
                        · skip
                          refine rw_of (fun rr hrr => q_iconst (q_goto (t := 1247) rfl hrr)) ?_
                          refine rw_blk lk_L_isAct_1247 ?_
                          refine rw_of (fun rr hrr => q_istore (Nat.le_of_ble_eq_true rfl) rfl (q_iload rfl hrr)) ?_
                          refine rw_if_eq ⟨by omega, by omega⟩ (t := 1269) rfl (fun hc44 => ?_) (fun hc44 => ?_)
                          · skip
                            refine rw_blk lk_L_isAct_1269 ?_
                            refine rw_of (fun rr hrr => q_iconst hrr) ?_
                            refine rw_blk lk_L_isAct_1270 ?_
                            refine rw_of (fun rr hrr => q_istore (Nat.le_of_ble_eq_true rfl) rfl (q_aload_n rfl (q_iconst (q_iload rfl (q_iload rfl (q_iload rfl (q_iload rfl (q_iload rfl hrr)))))))) ?_
                            obtain ⟨_, mm45, pp45, K45, _, _, cc45, ss45, hV45, hK45, hKB45, hS45, rfl, hC45, rfl, rfl⟩ := e_setP (w := w) (i := i) (j := j) (s := sy) (X := X) (K := K) (sh := sh) (nn := nn) (d := d) (by omega) hC29 (x := x) (by omega) (by omega)
                            have hKB45 : K45 ≤ K + 1 := hKB45
                            refine rw_of (fun rr hrr => q_invS hV45 rfl rfl (okar_cons rfl (okar_cons rfl (okar_cons rfl (okar_cons rfl (okar_cons rfl (okar_cons rfl (okar_cons rfl okar_nil))))))) (Nat.le_of_ble_eq_true rfl) (q_iload rfl hrr)) ?_
                            refine rw_if_ne ⟨by omega, by omega⟩ (t := 1298) rfl (fun hc46 => ?_) (fun hc46 => ?_)
                            · exact absurd hc46 (by decide)
                            · skip
                              refine rw_of (fun rr hrr => q_sipush rfl (q_goto (t := 1311) rfl hrr)) ?_
                              refine rw_blk lk_L_isAct_1311 ?_
                              refine rw_icmp_ne ⟨by omega, by omega⟩ ⟨by omega, by omega⟩ (t := 1353) rfl (fun hc47 => ?_) (fun hc47 => ?_)
                              · exfalso; omega
                              · skip
                                refine rw_of (fun rr hrr => q_iload rfl hrr) ?_
                                refine rw_if_eq ⟨by omega, by omega⟩ (t := 1349) rfl (fun hc48 => ?_) (fun hc48 => ?_)
                                · skip
                                  refine rw_blk lk_L_isAct_1349 ?_
                                  refine rw_of (fun rr hrr => q_iconst (q_goto (t := 1354) rfl hrr)) ?_
                                  refine rw_blk lk_L_isAct_1354 ?_
                                  refine lw_end hQ (q_ireturn (by omega)) (by omega) (by omega) (FrS_tr (by omega) FrS_rfl hS45) ?_
                                  exact ⟨rfl, k, cp, ci, N, by omega, (hC45).1, hg0, hg1, hg2, ⟨PP, fun i hi => (show nn rp i = nn rp i from congrFun rfl _).trans (hpp i hi), fun i hi => (hpc i hi).trans (congrFun (hC45).P i).symm⟩, fun i hi => ((show nn ur i = nn ur i from congrFun rfl _).trans (huu i hi)).trans (congrArg vF (congrFun (hC45).U i).symm)⟩
                                · exact absurd hc48 (by decide)
                          · exact absurd hc44 (by decide)
                    refine rw_if_ne ⟨by omega, by omega⟩ (t := 1214) rfl (fun hc49 => ?_) (fun hc49 => ?_)
                    · skip
                      refine rw_blk lk_L_isAct_1214 ?_
                      refine rw_of (fun rr hrr => q_iload rfl (q_bipush rfl (q_idiv ⟨by omega, by omega⟩ ⟨by omega, by omega⟩ (by omega) (show (((one : Nat) : Int)).tdiv (65) = ((one / 65 : Nat) : Int) by rfl) (q_bipush rfl (q_irem ⟨by omega, by omega⟩ ⟨by omega, by omega⟩ (by omega) (show (((one / 65 : Nat) : Int)).tmod (9) = (((one / 65) % 9 : Nat) : Int) by rfl) (q_iconst (q_isub hrr))))))) ?_
                      have hA50 : -10007 ≤ (((((one / 65) % 9 : Nat) : Int) - 4)) ∧ (((((one / 65) % 9 : Nat) : Int) - 4)) ≤ 10007 := by
                        omega
                      exact rw_casts (hL1224 _ _ (((((one / 65) % 9 : Nat) : Int) - 4)) hA50) rfl rfl
                    · skip
                      refine rw_of (fun rr hrr => q_iload rfl (q_sipush rfl (q_irem ⟨by omega, by omega⟩ ⟨by omega, by omega⟩ (by omega) (show (((two : Nat) : Int)).tmod (20015) = ((two % 20015 : Nat) : Int) by rfl) (q_sipush rfl (q_isub (q_goto (t := 1224) rfl hrr)))))) ?_
                      have hA51 : -10007 ≤ ((((two % 20015 : Nat) : Int) - 10007)) ∧ ((((two % 20015 : Nat) : Int) - 10007)) ≤ 10007 := by
                        omega
                      exact rw_casts (hL1224 _ _ ((((two % 20015 : Nat) : Int) - 10007)) hA51) rfl rfl
                  · skip
                    refine rw_of (fun rr hrr => q_iload rfl (q_iconst hrr)) ?_
                    refine rw_icmp_eq ⟨by omega, by omega⟩ ⟨by omega, by omega⟩ (t := 1168) rfl (fun hc52 => ?_) (fun hc52 => ?_)
                    · skip
                      refine rw_blk lk_L_isAct_1168 ?_
                      refine rw_of (fun rr hrr => q_iload rfl (q_iconst hrr)) ?_
                      refine rw_icmp_eq ⟨by omega, by omega⟩ ⟨by omega, by omega⟩ (t := 1187) rfl (fun hc53 => ?_) (fun hc53 => ?_)
                      · skip
                        refine rw_blk lk_L_isAct_1187 ?_
                        refine rw_of (fun rr hrr => q_iconst (q_goto (t := 1192) rfl hrr)) ?_
                        refine rw_blk lk_L_isAct_1192 ?_
                        refine rw_of (fun rr hrr => q_istore (Nat.le_of_ble_eq_true rfl) rfl (q_iload rfl (q_iconst (q_irem ⟨by omega, by omega⟩ ⟨by omega, by omega⟩ (by omega) (show (((one : Nat) : Int)).tmod (3) = ((one % 3 : Nat) : Int) by rfl) hrr)))) ?_
                        have hL1224 : ∀ (cc ss : Nat) (x : Int), ((-10007 ≤ x ∧ x ≤ 10007)) → Rw (Ev d) k_L_isAct (1224, [], [some (.ref (1)), some (.ref (rp)), some (.ref (ur)), some (.ref (gg)), some (.int (iI (9))), some (.int (iI (((one : Nat) : Int)))), some (.int (iI (((two : Nat) : Int)))), some (.int (iI (((sy : Nat) : Int)))), some (.int (iI (((ot : Nat) : Int)))), some (.int (iI (((N sy : Nat) : Int)))), some (.int (iI (((w : Nat) : Int)))), some (.int (iI (((i : Nat) : Int)))), some (.int (iI (((j : Nat) : Int)))), some (.int (iI (1))), none, none, none], [.int (iI (x))], hB X mm29 pp29 K sh nn, cc, ss) Qr := by
                          intro cc ss x
                          intro hI
                          have hx := hI
                          refine rw_blk lk_L_isAct_1224 ?_
                          refine rw_of (fun rr hrr => q_istore (Nat.le_of_ble_eq_true rfl) rfl (q_iload rfl (q_sipush rfl hrr))) ?_
                          refine rw_icmp_le ⟨by omega, by omega⟩ ⟨by omega, by omega⟩ (t := 1246) rfl (fun hc54 => ?_) (fun hc54 => ?_)
                          · skip
                            refine rw_blk lk_L_isAct_1246 ?_
                            refine rw_of (fun rr hrr => q_iconst hrr) ?_
                            refine rw_blk lk_L_isAct_1247 ?_
                            refine rw_of (fun rr hrr => q_istore (Nat.le_of_ble_eq_true rfl) rfl (q_iload rfl hrr)) ?_
                            refine rw_if_eq ⟨by omega, by omega⟩ (t := 1269) rfl (fun hc55 => ?_) (fun hc55 => ?_)
                            · exact absurd hc55 (by decide)
                            · skip
                              refine rw_of (fun rr hrr => q_aload_n rfl (q_iload rfl (q_iload rfl (q_eqv (show (((w : Nat) : Int) : Int) = 3 from by omega) (q_iload rfl (q_iload rfl hrr)))))) ?_
                              obtain ⟨_, mm56, pp56, hV56, rfl, hC56⟩ := w_at3 (S := (K, gB X sh nn)) (d := d) (by omega) hC29 (s := sy) (by omega) (i := ((i : Nat) : Int)) (j := ((j : Nat) : Int))
                              refine rw_of (fun rr hrr => q_invV hV56 (show SH 1 = (17, 0) from rfl) rfl rfl (okar_cons rfl (okar_cons rfl (okar_cons rfl (okar_cons rfl okar_nil)))) (Nat.le_of_ble_eq_true rfl) (q_goto (t := 1270) rfl hrr)) ?_
                              refine rw_blk lk_L_isAct_1270 ?_
                              refine rw_of (fun rr hrr => q_istore (Nat.le_of_ble_eq_true rfl) rfl (q_aload_n rfl (q_iconst (q_iload rfl (q_iload rfl (q_eqv (show (((w : Nat) : Int) : Int) = 3 from by omega) (q_iload rfl (q_iload rfl (q_iload rfl hrr))))))))) ?_
                              obtain ⟨_, mm57, pp57, K57, _, _, cc57, ss57, hV57, hK57, hKB57, hS57, rfl, hC57, rfl, rfl⟩ := e_setX (w := 3) (i := i) (j := j) (X := X) (K := K) (sh := sh) (nn := nn) (d := d) (by omega) hC56 (s := sy) (by omega) (x := x) (Or.inr (Or.inr (Or.inr rfl))) (by omega) (by omega)
                              have hKB57 : K57 ≤ K + 1 := hKB57
                              refine rw_of (fun rr hrr => q_invS hV57 rfl rfl (okar_cons rfl (okar_cons rfl (okar_cons rfl (okar_cons rfl (okar_cons rfl (okar_cons rfl (okar_cons rfl okar_nil))))))) (Nat.le_of_ble_eq_true rfl) (q_iload rfl hrr)) ?_
                              refine rw_if_ne ⟨by omega, by omega⟩ (t := 1298) rfl (fun hc58 => ?_) (fun hc58 => ?_)
                              · skip
                                refine rw_blk lk_L_isAct_1298 ?_
                                refine rw_of (fun rr hrr => q_iload rfl hrr) ?_
                                refine rw_if_eq ⟨by omega, by omega⟩ (t := 1308) rfl (fun hc59 => ?_) (fun hc59 => ?_)
                                · skip
                                  refine rw_blk lk_L_isAct_1308 ?_
                                  refine rw_of (fun rr hrr => q_sipush rfl hrr) ?_
                                  refine rw_blk lk_L_isAct_1311 ?_
                                  refine rw_icmp_ne ⟨by omega, by omega⟩ ⟨by omega, by omega⟩ (t := 1353) rfl (fun hc60 => ?_) (fun hc60 => ?_)
                                  · exfalso; omega
                                  · skip
                                    refine rw_of (fun rr hrr => q_iload rfl hrr) ?_
                                    refine rw_if_eq ⟨by omega, by omega⟩ (t := 1349) rfl (fun hc61 => ?_) (fun hc61 => ?_)
                                    · exact absurd hc61 (by decide)
                                    · skip
                                      refine rw_of (fun rr hrr => q_aload_n rfl (q_iload rfl (q_iload rfl (q_eqv (show (((w : Nat) : Int) : Int) = 3 from by omega) (q_iload rfl (q_iload rfl hrr)))))) ?_
                                      obtain ⟨_, mm62, pp62, hV62, rfl, hC62⟩ := w_at3 (S := (K57, gB X sh nn)) (d := d) (by omega) hC57 (s := sy) (by omega) (i := ((i : Nat) : Int)) (j := ((j : Nat) : Int))
                                      refine rw_of (fun rr hrr => q_invV hV62 (show SH 1 = (17, 0) from rfl) rfl rfl (okar_cons rfl (okar_cons rfl (okar_cons rfl (okar_cons rfl okar_nil)))) (Nat.le_of_ble_eq_true rfl) (q_iload rfl hrr)) ?_
                                      refine rw_if_eq ⟨by omega, by omega⟩ (t := 1344) rfl (fun hc63 => ?_) (fun hc63 => ?_)
                                      · skip
                                        refine rw_blk lk_L_isAct_1344 ?_
                                        refine rw_of (fun rr hrr => q_iload rfl hrr) ?_
                                        refine rw_blk lk_L_isAct_1346 ?_
                                        refine rw_icmp_ne (rg_vF _) (rg_vF _) (t := 1353) rfl (fun hc64 => ?_) (fun hc64 => ?_)
                                        · exfalso; omega
                                        · skip
                                          refine rw_blk lk_L_isAct_1349 ?_
                                          refine rw_of (fun rr hrr => q_iconst (q_goto (t := 1354) rfl hrr)) ?_
                                          refine rw_blk lk_L_isAct_1354 ?_
                                          refine lw_end hQ (q_ireturn (by omega)) (by omega) (by omega) (FrS_tr (by omega) FrS_rfl hS57) ?_
                                          exact ⟨rfl, k, cp, ci, N, by omega, (hC62).1, hg0, hg1, hg2, ⟨PP, fun i hi => (show nn rp i = nn rp i from congrFun rfl _).trans (hpp i hi), fun i hi => (hpc i hi).trans (congrFun (hC62).P i).symm⟩, fun i hi => ((show nn ur i = nn ur i from congrFun rfl _).trans (huu i hi)).trans (congrArg vF (congrFun (hC62).U i).symm)⟩
                                      · exact absurd hc63 (by decide)
                                · exact absurd hc59 (by decide)
                              · exact absurd hc58 (by decide)
                          · skip
                            refine rw_of (fun rr hrr => q_iload rfl (q_sipush rfl hrr)) ?_
                            refine rw_icmp_ge ⟨by omega, by omega⟩ ⟨by omega, by omega⟩ (t := 1246) rfl (fun hc65 => ?_) (fun hc65 => ?_)
                            · skip
                              refine rw_blk lk_L_isAct_1246 ?_
                              refine rw_of (fun rr hrr => q_iconst hrr) ?_
                              refine rw_blk lk_L_isAct_1247 ?_
                              refine rw_of (fun rr hrr => q_istore (Nat.le_of_ble_eq_true rfl) rfl (q_iload rfl hrr)) ?_
                              refine rw_if_eq ⟨by omega, by omega⟩ (t := 1269) rfl (fun hc66 => ?_) (fun hc66 => ?_)
                              · exact absurd hc66 (by decide)
                              · skip
                                refine rw_of (fun rr hrr => q_aload_n rfl (q_iload rfl (q_iload rfl (q_eqv (show (((w : Nat) : Int) : Int) = 3 from by omega) (q_iload rfl (q_iload rfl hrr)))))) ?_
                                obtain ⟨_, mm67, pp67, hV67, rfl, hC67⟩ := w_at3 (S := (K, gB X sh nn)) (d := d) (by omega) hC29 (s := sy) (by omega) (i := ((i : Nat) : Int)) (j := ((j : Nat) : Int))
                                refine rw_of (fun rr hrr => q_invV hV67 (show SH 1 = (17, 0) from rfl) rfl rfl (okar_cons rfl (okar_cons rfl (okar_cons rfl (okar_cons rfl okar_nil)))) (Nat.le_of_ble_eq_true rfl) (q_goto (t := 1270) rfl hrr)) ?_
                                refine rw_blk lk_L_isAct_1270 ?_
                                refine rw_of (fun rr hrr => q_istore (Nat.le_of_ble_eq_true rfl) rfl (q_aload_n rfl (q_iconst (q_iload rfl (q_iload rfl (q_eqv (show (((w : Nat) : Int) : Int) = 3 from by omega) (q_iload rfl (q_iload rfl (q_iload rfl hrr))))))))) ?_
                                obtain ⟨_, mm68, pp68, K68, _, _, cc68, ss68, hV68, hK68, hKB68, hS68, rfl, hC68, rfl, rfl⟩ := e_setX (w := 3) (i := i) (j := j) (X := X) (K := K) (sh := sh) (nn := nn) (d := d) (by omega) hC67 (s := sy) (by omega) (x := x) (Or.inr (Or.inr (Or.inr rfl))) (by omega) (by omega)
                                have hKB68 : K68 ≤ K + 1 := hKB68
                                refine rw_of (fun rr hrr => q_invS hV68 rfl rfl (okar_cons rfl (okar_cons rfl (okar_cons rfl (okar_cons rfl (okar_cons rfl (okar_cons rfl (okar_cons rfl okar_nil))))))) (Nat.le_of_ble_eq_true rfl) (q_iload rfl hrr)) ?_
                                refine rw_if_ne ⟨by omega, by omega⟩ (t := 1298) rfl (fun hc69 => ?_) (fun hc69 => ?_)
                                · skip
                                  refine rw_blk lk_L_isAct_1298 ?_
                                  refine rw_of (fun rr hrr => q_iload rfl hrr) ?_
                                  refine rw_if_eq ⟨by omega, by omega⟩ (t := 1308) rfl (fun hc70 => ?_) (fun hc70 => ?_)
                                  · skip
                                    refine rw_blk lk_L_isAct_1308 ?_
                                    refine rw_of (fun rr hrr => q_sipush rfl hrr) ?_
                                    refine rw_blk lk_L_isAct_1311 ?_
                                    refine rw_icmp_ne ⟨by omega, by omega⟩ ⟨by omega, by omega⟩ (t := 1353) rfl (fun hc71 => ?_) (fun hc71 => ?_)
                                    · exfalso; omega
                                    · skip
                                      refine rw_of (fun rr hrr => q_iload rfl hrr) ?_
                                      refine rw_if_eq ⟨by omega, by omega⟩ (t := 1349) rfl (fun hc72 => ?_) (fun hc72 => ?_)
                                      · exact absurd hc72 (by decide)
                                      · skip
                                        refine rw_of (fun rr hrr => q_aload_n rfl (q_iload rfl (q_iload rfl (q_eqv (show (((w : Nat) : Int) : Int) = 3 from by omega) (q_iload rfl (q_iload rfl hrr)))))) ?_
                                        obtain ⟨_, mm73, pp73, hV73, rfl, hC73⟩ := w_at3 (S := (K68, gB X sh nn)) (d := d) (by omega) hC68 (s := sy) (by omega) (i := ((i : Nat) : Int)) (j := ((j : Nat) : Int))
                                        refine rw_of (fun rr hrr => q_invV hV73 (show SH 1 = (17, 0) from rfl) rfl rfl (okar_cons rfl (okar_cons rfl (okar_cons rfl (okar_cons rfl okar_nil)))) (Nat.le_of_ble_eq_true rfl) (q_iload rfl hrr)) ?_
                                        refine rw_if_eq ⟨by omega, by omega⟩ (t := 1344) rfl (fun hc74 => ?_) (fun hc74 => ?_)
                                        · skip
                                          refine rw_blk lk_L_isAct_1344 ?_
                                          refine rw_of (fun rr hrr => q_iload rfl hrr) ?_
                                          refine rw_blk lk_L_isAct_1346 ?_
                                          refine rw_icmp_ne (rg_vF _) (rg_vF _) (t := 1353) rfl (fun hc75 => ?_) (fun hc75 => ?_)
                                          · exfalso; omega
                                          · skip
                                            refine rw_blk lk_L_isAct_1349 ?_
                                            refine rw_of (fun rr hrr => q_iconst (q_goto (t := 1354) rfl hrr)) ?_
                                            refine rw_blk lk_L_isAct_1354 ?_
                                            refine lw_end hQ (q_ireturn (by omega)) (by omega) (by omega) (FrS_tr (by omega) FrS_rfl hS68) ?_
                                            exact ⟨rfl, k, cp, ci, N, by omega, (hC73).1, hg0, hg1, hg2, ⟨PP, fun i hi => (show nn rp i = nn rp i from congrFun rfl _).trans (hpp i hi), fun i hi => (hpc i hi).trans (congrFun (hC73).P i).symm⟩, fun i hi => ((show nn ur i = nn ur i from congrFun rfl _).trans (huu i hi)).trans (congrArg vF (congrFun (hC73).U i).symm)⟩
                                        · exact absurd hc74 (by decide)
                                  · exact absurd hc70 (by decide)
                                · exact absurd hc69 (by decide)
                            · skip
                              refine rw_of (fun rr hrr => q_iconst (q_goto (t := 1247) rfl hrr)) ?_
                              refine rw_blk lk_L_isAct_1247 ?_
                              refine rw_of (fun rr hrr => q_istore (Nat.le_of_ble_eq_true rfl) rfl (q_iload rfl hrr)) ?_
                              refine rw_if_eq ⟨by omega, by omega⟩ (t := 1269) rfl (fun hc76 => ?_) (fun hc76 => ?_)
                              · exact absurd hc76 (by decide)
                              · skip
                                refine rw_of (fun rr hrr => q_aload_n rfl (q_iload rfl (q_iload rfl (q_eqv (show (((w : Nat) : Int) : Int) = 3 from by omega) (q_iload rfl (q_iload rfl hrr)))))) ?_
                                obtain ⟨_, mm77, pp77, hV77, rfl, hC77⟩ := w_at3 (S := (K, gB X sh nn)) (d := d) (by omega) hC29 (s := sy) (by omega) (i := ((i : Nat) : Int)) (j := ((j : Nat) : Int))
                                refine rw_of (fun rr hrr => q_invV hV77 (show SH 1 = (17, 0) from rfl) rfl rfl (okar_cons rfl (okar_cons rfl (okar_cons rfl (okar_cons rfl okar_nil)))) (Nat.le_of_ble_eq_true rfl) (q_goto (t := 1270) rfl hrr)) ?_
                                refine rw_blk lk_L_isAct_1270 ?_
                                refine rw_of (fun rr hrr => q_istore (Nat.le_of_ble_eq_true rfl) rfl (q_aload_n rfl (q_iconst (q_iload rfl (q_iload rfl (q_eqv (show (((w : Nat) : Int) : Int) = 3 from by omega) (q_iload rfl (q_iload rfl (q_iload rfl hrr))))))))) ?_
                                obtain ⟨_, mm78, pp78, K78, _, _, cc78, ss78, hV78, hK78, hKB78, hS78, rfl, ⟨⟨hC78, hP78, hU78⟩, hE78⟩, rfl, rfl⟩ := e_set3 (X := X) (K := K) (sh := sh) (nn := nn) (d := d) (by omega) hC77 (s := sy) (by omega) (i := ((i : Nat) : Int)) (j := ((j : Nat) : Int)) (x := x) ⟨by omega, by omega⟩
                                have hKB78 : K78 ≤ K + 1 := hKB78
                                refine rw_of (fun rr hrr => q_invS hV78 rfl rfl (okar_cons rfl (okar_cons rfl (okar_cons rfl (okar_cons rfl (okar_cons rfl (okar_cons rfl (okar_cons rfl okar_nil))))))) (Nat.le_of_ble_eq_true rfl) (q_iload rfl hrr)) ?_
                                refine rw_if_ne ⟨by omega, by omega⟩ (t := 1298) rfl (fun hc79 => ?_) (fun hc79 => ?_)
                                · skip
                                  refine rw_blk lk_L_isAct_1298 ?_
                                  refine rw_of (fun rr hrr => q_iload rfl hrr) ?_
                                  refine rw_if_eq ⟨by omega, by omega⟩ (t := 1308) rfl (fun hc80 => ?_) (fun hc80 => ?_)
                                  · exact absurd hc80 (by decide)
                                  · skip
                                    refine rw_of (fun rr hrr => q_iload rfl (q_goto (t := 1311) rfl hrr)) ?_
                                    refine rw_blk lk_L_isAct_1311 ?_
                                    refine rw_icmp_ne (rg_vF _) (rg_vF _) (t := 1353) rfl (fun hc81 => ?_) (fun hc81 => ?_)
                                    · exfalso; omega
                                    · skip
                                      refine rw_of (fun rr hrr => q_iload rfl hrr) ?_
                                      refine rw_if_eq ⟨by omega, by omega⟩ (t := 1349) rfl (fun hc82 => ?_) (fun hc82 => ?_)
                                      · exact absurd hc82 (by decide)
                                      · skip
                                        refine rw_of (fun rr hrr => q_aload_n rfl (q_iload rfl (q_iload rfl (q_eqv (show (((w : Nat) : Int) : Int) = 3 from by omega) (q_iload rfl (q_iload rfl hrr)))))) ?_
                                        obtain ⟨_, mm83, pp83, hV83, rfl, hC83⟩ := w_at3 (S := (K78, gB X sh nn)) (d := d) (by omega) hC78 (s := sy) (by omega) (i := ((i : Nat) : Int)) (j := ((j : Nat) : Int))
                                        refine rw_of (fun rr hrr => q_invV hV83 (show SH 1 = (17, 0) from rfl) rfl rfl (okar_cons rfl (okar_cons rfl (okar_cons rfl (okar_cons rfl okar_nil)))) (Nat.le_of_ble_eq_true rfl) (q_iload rfl hrr)) ?_
                                        refine rw_if_eq ⟨by omega, by omega⟩ (t := 1344) rfl (fun hc84 => ?_) (fun hc84 => ?_)
                                        · exact absurd hc84 (by decide)
                                        · skip
                                          refine rw_of (fun rr hrr => q_iload rfl hrr) ?_
                                          obtain ⟨_, _, _, hV85, rfl, rfl, rfl⟩ := c_L_rest (S := (K78, gB X sh nn)) (fz := false) (m := mm83) (p := pp83) (d := d) (by omega) (x) ((toF x)) ⟨by omega, by omega⟩ (by simp only [toF_add, toF_mul, toF_sub, toF_neg, toF_vF, toF_nat, toF_0, toF_1, toF_M, F_add0, F_0sub])
                                          refine rw_of (fun rr hrr => q_invS hV85 rfl rfl (okar_cons rfl okar_nil) (Nat.le_of_ble_eq_true rfl) (q_goto (t := 1346) rfl hrr)) ?_
                                          refine rw_blk lk_L_isAct_1346 ?_
                                          refine rw_icmp_ne (rg_vF _) (rg_vF _) (t := 1353) rfl (fun hc86 => ?_) (fun hc86 => ?_)
                                          · refine absurd (congrArg vF ?_) hc86
                                            exact hE78
                                          · skip
                                            refine rw_blk lk_L_isAct_1349 ?_
                                            refine rw_of (fun rr hrr => q_iconst (q_goto (t := 1354) rfl hrr)) ?_
                                            refine rw_blk lk_L_isAct_1354 ?_
                                            refine lw_end hQ (q_ireturn (by omega)) (by omega) (by omega) (FrS_tr (by omega) FrS_rfl hS78) ?_
                                            exact ⟨rfl, k, cp, ci, N, by omega, (hC83).1, hg0, hg1, hg2, ⟨PP, fun i hi => (show nn rp i = nn rp i from congrFun rfl _).trans (hpp i hi), fun i hi => (hpc i hi).trans (congrFun ((hC83).P.trans hP78) i).symm⟩, fun i hi => ((show nn ur i = nn ur i from congrFun rfl _).trans (huu i hi)).trans (congrArg vF (congrFun ((hC83).U.trans hU78) i).symm)⟩
                                · exact absurd hc79 (by decide)
                        refine rw_if_ne ⟨by omega, by omega⟩ (t := 1214) rfl (fun hc87 => ?_) (fun hc87 => ?_)
                        · skip
                          refine rw_blk lk_L_isAct_1214 ?_
                          refine rw_of (fun rr hrr => q_iload rfl (q_bipush rfl (q_idiv ⟨by omega, by omega⟩ ⟨by omega, by omega⟩ (by omega) (show (((one : Nat) : Int)).tdiv (65) = ((one / 65 : Nat) : Int) by rfl) (q_bipush rfl (q_irem ⟨by omega, by omega⟩ ⟨by omega, by omega⟩ (by omega) (show (((one / 65 : Nat) : Int)).tmod (9) = (((one / 65) % 9 : Nat) : Int) by rfl) (q_iconst (q_isub hrr))))))) ?_
                          have hA88 : -10007 ≤ (((((one / 65) % 9 : Nat) : Int) - 4)) ∧ (((((one / 65) % 9 : Nat) : Int) - 4)) ≤ 10007 := by
                            omega
                          exact rw_casts (hL1224 _ _ (((((one / 65) % 9 : Nat) : Int) - 4)) hA88) rfl rfl
                        · skip
                          refine rw_of (fun rr hrr => q_iload rfl (q_sipush rfl (q_irem ⟨by omega, by omega⟩ ⟨by omega, by omega⟩ (by omega) (show (((two : Nat) : Int)).tmod (20015) = ((two % 20015 : Nat) : Int) by rfl) (q_sipush rfl (q_isub (q_goto (t := 1224) rfl hrr)))))) ?_
                          have hA89 : -10007 ≤ ((((two % 20015 : Nat) : Int) - 10007)) ∧ ((((two % 20015 : Nat) : Int) - 10007)) ≤ 10007 := by
                            omega
                          exact rw_casts (hL1224 _ _ ((((two % 20015 : Nat) : Int) - 10007)) hA89) rfl rfl
                      · exfalso; omega
                    · skip
                      refine rw_of (fun rr hrr => q_iload rfl (q_iconst hrr)) ?_
                      refine rw_icmp_eq ⟨by omega, by omega⟩ ⟨by omega, by omega⟩ (t := 1168) rfl (fun hc90 => ?_) (fun hc90 => ?_)
                      · skip
                        refine rw_blk lk_L_isAct_1168 ?_
                        refine rw_of (fun rr hrr => q_iload rfl (q_iconst hrr)) ?_
                        refine rw_icmp_eq ⟨by omega, by omega⟩ ⟨by omega, by omega⟩ (t := 1187) rfl (fun hc91 => ?_) (fun hc91 => ?_)
                        · exfalso; omega
                        · skip
                          refine rw_of (fun rr hrr => q_iload rfl (q_iconst hrr)) ?_
                          refine rw_icmp_eq ⟨by omega, by omega⟩ ⟨by omega, by omega⟩ (t := 1187) rfl (fun hc92 => ?_) (fun hc92 => ?_)
                          · exfalso; omega
                          · skip
                            refine rw_of (fun rr hrr => q_iload rfl (q_iload rfl hrr)) ?_
                            refine rw_icmp_ge ⟨by omega, by omega⟩ ⟨by omega, by omega⟩ (t := 1191) rfl (fun hc93 => ?_) (fun hc93 => ?_)
                            · skip
                              refine rw_blk lk_L_isAct_1191 ?_
                              refine rw_of (fun rr hrr => q_iconst hrr) ?_
                              refine rw_blk lk_L_isAct_1192 ?_
                              refine rw_of (fun rr hrr => q_istore (Nat.le_of_ble_eq_true rfl) rfl (q_iload rfl (q_iconst (q_irem ⟨by omega, by omega⟩ ⟨by omega, by omega⟩ (by omega) (show (((one : Nat) : Int)).tmod (3) = ((one % 3 : Nat) : Int) by rfl) hrr)))) ?_
                              have hL1224 : ∀ (cc ss : Nat) (x : Int), ((-10007 ≤ x ∧ x ≤ 10007)) → Rw (Ev d) k_L_isAct (1224, [], [some (.ref (1)), some (.ref (rp)), some (.ref (ur)), some (.ref (gg)), some (.int (iI (9))), some (.int (iI (((one : Nat) : Int)))), some (.int (iI (((two : Nat) : Int)))), some (.int (iI (((sy : Nat) : Int)))), some (.int (iI (((ot : Nat) : Int)))), some (.int (iI (((N sy : Nat) : Int)))), some (.int (iI (((w : Nat) : Int)))), some (.int (iI (((i : Nat) : Int)))), some (.int (iI (((j : Nat) : Int)))), some (.int (iI (0))), none, none, none], [.int (iI (x))], hB X mm29 pp29 K sh nn, cc, ss) Qr := by
                                intro cc ss x
                                intro hI
                                have hx := hI
                                refine rw_blk lk_L_isAct_1224 ?_
                                refine rw_of (fun rr hrr => q_istore (Nat.le_of_ble_eq_true rfl) rfl (q_iload rfl (q_sipush rfl hrr))) ?_
                                refine rw_icmp_le ⟨by omega, by omega⟩ ⟨by omega, by omega⟩ (t := 1246) rfl (fun hc94 => ?_) (fun hc94 => ?_)
                                · skip
                                  refine rw_blk lk_L_isAct_1246 ?_
                                  refine rw_of (fun rr hrr => q_iconst hrr) ?_
                                  refine rw_blk lk_L_isAct_1247 ?_
                                  refine rw_of (fun rr hrr => q_istore (Nat.le_of_ble_eq_true rfl) rfl (q_iload rfl hrr)) ?_
                                  refine rw_if_eq ⟨by omega, by omega⟩ (t := 1269) rfl (fun hc95 => ?_) (fun hc95 => ?_)
                                  · skip
                                    refine rw_blk lk_L_isAct_1269 ?_
                                    refine rw_of (fun rr hrr => q_iconst hrr) ?_
                                    refine rw_blk lk_L_isAct_1270 ?_
                                    refine rw_of (fun rr hrr => q_istore (Nat.le_of_ble_eq_true rfl) rfl (q_aload_n rfl (q_iconst (q_iload rfl (q_iload rfl (q_iload rfl (q_iload rfl (q_iload rfl hrr)))))))) ?_
                                    obtain ⟨_, mm96, pp96, K96, _, _, cc96, ss96, hV96, hK96, hKB96, hS96, rfl, hC96, rfl, rfl⟩ := e_setP (w := w) (i := i) (j := j) (s := sy) (X := X) (K := K) (sh := sh) (nn := nn) (d := d) (by omega) hC29 (x := x) (by omega) (by omega)
                                    have hKB96 : K96 ≤ K + 1 := hKB96
                                    refine rw_of (fun rr hrr => q_invS hV96 rfl rfl (okar_cons rfl (okar_cons rfl (okar_cons rfl (okar_cons rfl (okar_cons rfl (okar_cons rfl (okar_cons rfl okar_nil))))))) (Nat.le_of_ble_eq_true rfl) (q_iload rfl hrr)) ?_
                                    refine rw_if_ne ⟨by omega, by omega⟩ (t := 1298) rfl (fun hc97 => ?_) (fun hc97 => ?_)
                                    · exact absurd hc97 (by decide)
                                    · skip
                                      refine rw_of (fun rr hrr => q_sipush rfl (q_goto (t := 1311) rfl hrr)) ?_
                                      refine rw_blk lk_L_isAct_1311 ?_
                                      refine rw_icmp_ne ⟨by omega, by omega⟩ ⟨by omega, by omega⟩ (t := 1353) rfl (fun hc98 => ?_) (fun hc98 => ?_)
                                      · exfalso; omega
                                      · skip
                                        refine rw_of (fun rr hrr => q_iload rfl hrr) ?_
                                        refine rw_if_eq ⟨by omega, by omega⟩ (t := 1349) rfl (fun hc99 => ?_) (fun hc99 => ?_)
                                        · skip
                                          refine rw_blk lk_L_isAct_1349 ?_
                                          refine rw_of (fun rr hrr => q_iconst (q_goto (t := 1354) rfl hrr)) ?_
                                          refine rw_blk lk_L_isAct_1354 ?_
                                          refine lw_end hQ (q_ireturn (by omega)) (by omega) (by omega) (FrS_tr (by omega) FrS_rfl hS96) ?_
                                          exact ⟨rfl, k, cp, ci, N, by omega, (hC96).1, hg0, hg1, hg2, ⟨PP, fun i hi => (show nn rp i = nn rp i from congrFun rfl _).trans (hpp i hi), fun i hi => (hpc i hi).trans (congrFun (hC96).P i).symm⟩, fun i hi => ((show nn ur i = nn ur i from congrFun rfl _).trans (huu i hi)).trans (congrArg vF (congrFun (hC96).U i).symm)⟩
                                        · exact absurd hc99 (by decide)
                                  · exact absurd hc95 (by decide)
                                · skip
                                  refine rw_of (fun rr hrr => q_iload rfl (q_sipush rfl hrr)) ?_
                                  refine rw_icmp_ge ⟨by omega, by omega⟩ ⟨by omega, by omega⟩ (t := 1246) rfl (fun hc100 => ?_) (fun hc100 => ?_)
                                  · skip
                                    refine rw_blk lk_L_isAct_1246 ?_
                                    refine rw_of (fun rr hrr => q_iconst hrr) ?_
                                    refine rw_blk lk_L_isAct_1247 ?_
                                    refine rw_of (fun rr hrr => q_istore (Nat.le_of_ble_eq_true rfl) rfl (q_iload rfl hrr)) ?_
                                    refine rw_if_eq ⟨by omega, by omega⟩ (t := 1269) rfl (fun hc101 => ?_) (fun hc101 => ?_)
                                    · skip
                                      refine rw_blk lk_L_isAct_1269 ?_
                                      refine rw_of (fun rr hrr => q_iconst hrr) ?_
                                      refine rw_blk lk_L_isAct_1270 ?_
                                      refine rw_of (fun rr hrr => q_istore (Nat.le_of_ble_eq_true rfl) rfl (q_aload_n rfl (q_iconst (q_iload rfl (q_iload rfl (q_iload rfl (q_iload rfl (q_iload rfl hrr)))))))) ?_
                                      obtain ⟨_, mm102, pp102, K102, _, _, cc102, ss102, hV102, hK102, hKB102, hS102, rfl, hC102, rfl, rfl⟩ := e_setP (w := w) (i := i) (j := j) (s := sy) (X := X) (K := K) (sh := sh) (nn := nn) (d := d) (by omega) hC29 (x := x) (by omega) (by omega)
                                      have hKB102 : K102 ≤ K + 1 := hKB102
                                      refine rw_of (fun rr hrr => q_invS hV102 rfl rfl (okar_cons rfl (okar_cons rfl (okar_cons rfl (okar_cons rfl (okar_cons rfl (okar_cons rfl (okar_cons rfl okar_nil))))))) (Nat.le_of_ble_eq_true rfl) (q_iload rfl hrr)) ?_
                                      refine rw_if_ne ⟨by omega, by omega⟩ (t := 1298) rfl (fun hc103 => ?_) (fun hc103 => ?_)
                                      · exact absurd hc103 (by decide)
                                      · skip
                                        refine rw_of (fun rr hrr => q_sipush rfl (q_goto (t := 1311) rfl hrr)) ?_
                                        refine rw_blk lk_L_isAct_1311 ?_
                                        refine rw_icmp_ne ⟨by omega, by omega⟩ ⟨by omega, by omega⟩ (t := 1353) rfl (fun hc104 => ?_) (fun hc104 => ?_)
                                        · exfalso; omega
                                        · skip
                                          refine rw_of (fun rr hrr => q_iload rfl hrr) ?_
                                          refine rw_if_eq ⟨by omega, by omega⟩ (t := 1349) rfl (fun hc105 => ?_) (fun hc105 => ?_)
                                          · skip
                                            refine rw_blk lk_L_isAct_1349 ?_
                                            refine rw_of (fun rr hrr => q_iconst (q_goto (t := 1354) rfl hrr)) ?_
                                            refine rw_blk lk_L_isAct_1354 ?_
                                            refine lw_end hQ (q_ireturn (by omega)) (by omega) (by omega) (FrS_tr (by omega) FrS_rfl hS102) ?_
                                            exact ⟨rfl, k, cp, ci, N, by omega, (hC102).1, hg0, hg1, hg2, ⟨PP, fun i hi => (show nn rp i = nn rp i from congrFun rfl _).trans (hpp i hi), fun i hi => (hpc i hi).trans (congrFun (hC102).P i).symm⟩, fun i hi => ((show nn ur i = nn ur i from congrFun rfl _).trans (huu i hi)).trans (congrArg vF (congrFun (hC102).U i).symm)⟩
                                          · exact absurd hc105 (by decide)
                                    · exact absurd hc101 (by decide)
                                  · skip
                                    refine rw_of (fun rr hrr => q_iconst (q_goto (t := 1247) rfl hrr)) ?_
                                    refine rw_blk lk_L_isAct_1247 ?_
                                    refine rw_of (fun rr hrr => q_istore (Nat.le_of_ble_eq_true rfl) rfl (q_iload rfl hrr)) ?_
                                    refine rw_if_eq ⟨by omega, by omega⟩ (t := 1269) rfl (fun hc106 => ?_) (fun hc106 => ?_)
                                    · skip
                                      refine rw_blk lk_L_isAct_1269 ?_
                                      refine rw_of (fun rr hrr => q_iconst hrr) ?_
                                      refine rw_blk lk_L_isAct_1270 ?_
                                      refine rw_of (fun rr hrr => q_istore (Nat.le_of_ble_eq_true rfl) rfl (q_aload_n rfl (q_iconst (q_iload rfl (q_iload rfl (q_iload rfl (q_iload rfl (q_iload rfl hrr)))))))) ?_
                                      obtain ⟨_, mm107, pp107, K107, _, _, cc107, ss107, hV107, hK107, hKB107, hS107, rfl, hC107, rfl, rfl⟩ := e_setP (w := w) (i := i) (j := j) (s := sy) (X := X) (K := K) (sh := sh) (nn := nn) (d := d) (by omega) hC29 (x := x) (by omega) (by omega)
                                      have hKB107 : K107 ≤ K + 1 := hKB107
                                      refine rw_of (fun rr hrr => q_invS hV107 rfl rfl (okar_cons rfl (okar_cons rfl (okar_cons rfl (okar_cons rfl (okar_cons rfl (okar_cons rfl (okar_cons rfl okar_nil))))))) (Nat.le_of_ble_eq_true rfl) (q_iload rfl hrr)) ?_
                                      refine rw_if_ne ⟨by omega, by omega⟩ (t := 1298) rfl (fun hc108 => ?_) (fun hc108 => ?_)
                                      · exact absurd hc108 (by decide)
                                      · skip
                                        refine rw_of (fun rr hrr => q_sipush rfl (q_goto (t := 1311) rfl hrr)) ?_
                                        refine rw_blk lk_L_isAct_1311 ?_
                                        refine rw_icmp_ne ⟨by omega, by omega⟩ ⟨by omega, by omega⟩ (t := 1353) rfl (fun hc109 => ?_) (fun hc109 => ?_)
                                        · exfalso; omega
                                        · skip
                                          refine rw_of (fun rr hrr => q_iload rfl hrr) ?_
                                          refine rw_if_eq ⟨by omega, by omega⟩ (t := 1349) rfl (fun hc110 => ?_) (fun hc110 => ?_)
                                          · skip
                                            refine rw_blk lk_L_isAct_1349 ?_
                                            refine rw_of (fun rr hrr => q_iconst (q_goto (t := 1354) rfl hrr)) ?_
                                            refine rw_blk lk_L_isAct_1354 ?_
                                            refine lw_end hQ (q_ireturn (by omega)) (by omega) (by omega) (FrS_tr (by omega) FrS_rfl hS107) ?_
                                            exact ⟨rfl, k, cp, ci, N, by omega, (hC107).1, hg0, hg1, hg2, ⟨PP, fun i hi => (show nn rp i = nn rp i from congrFun rfl _).trans (hpp i hi), fun i hi => (hpc i hi).trans (congrFun (hC107).P i).symm⟩, fun i hi => ((show nn ur i = nn ur i from congrFun rfl _).trans (huu i hi)).trans (congrArg vF (congrFun (hC107).U i).symm)⟩
                                          · exact absurd hc110 (by decide)
                                    · exact absurd hc106 (by decide)
                              refine rw_if_ne ⟨by omega, by omega⟩ (t := 1214) rfl (fun hc111 => ?_) (fun hc111 => ?_)
                              · skip
                                refine rw_blk lk_L_isAct_1214 ?_
                                refine rw_of (fun rr hrr => q_iload rfl (q_bipush rfl (q_idiv ⟨by omega, by omega⟩ ⟨by omega, by omega⟩ (by omega) (show (((one : Nat) : Int)).tdiv (65) = ((one / 65 : Nat) : Int) by rfl) (q_bipush rfl (q_irem ⟨by omega, by omega⟩ ⟨by omega, by omega⟩ (by omega) (show (((one / 65 : Nat) : Int)).tmod (9) = (((one / 65) % 9 : Nat) : Int) by rfl) (q_iconst (q_isub hrr))))))) ?_
                                have hA112 : -10007 ≤ (((((one / 65) % 9 : Nat) : Int) - 4)) ∧ (((((one / 65) % 9 : Nat) : Int) - 4)) ≤ 10007 := by
                                  omega
                                exact rw_casts (hL1224 _ _ (((((one / 65) % 9 : Nat) : Int) - 4)) hA112) rfl rfl
                              · skip
                                refine rw_of (fun rr hrr => q_iload rfl (q_sipush rfl (q_irem ⟨by omega, by omega⟩ ⟨by omega, by omega⟩ (by omega) (show (((two : Nat) : Int)).tmod (20015) = ((two % 20015 : Nat) : Int) by rfl) (q_sipush rfl (q_isub (q_goto (t := 1224) rfl hrr)))))) ?_
                                have hA113 : -10007 ≤ ((((two % 20015 : Nat) : Int) - 10007)) ∧ ((((two % 20015 : Nat) : Int) - 10007)) ≤ 10007 := by
                                  omega
                                exact rw_casts (hL1224 _ _ ((((two % 20015 : Nat) : Int) - 10007)) hA113) rfl rfl
                            · skip
                              refine rw_blk lk_L_isAct_1187 ?_
                              refine rw_of (fun rr hrr => q_iconst (q_goto (t := 1192) rfl hrr)) ?_
                              refine rw_blk lk_L_isAct_1192 ?_
                              refine rw_of (fun rr hrr => q_istore (Nat.le_of_ble_eq_true rfl) rfl (q_iload rfl (q_iconst (q_irem ⟨by omega, by omega⟩ ⟨by omega, by omega⟩ (by omega) (show (((one : Nat) : Int)).tmod (3) = ((one % 3 : Nat) : Int) by rfl) hrr)))) ?_
                              have hL1224 : ∀ (cc ss : Nat) (x : Int), ((-10007 ≤ x ∧ x ≤ 10007)) → Rw (Ev d) k_L_isAct (1224, [], [some (.ref (1)), some (.ref (rp)), some (.ref (ur)), some (.ref (gg)), some (.int (iI (9))), some (.int (iI (((one : Nat) : Int)))), some (.int (iI (((two : Nat) : Int)))), some (.int (iI (((sy : Nat) : Int)))), some (.int (iI (((ot : Nat) : Int)))), some (.int (iI (((N sy : Nat) : Int)))), some (.int (iI (((w : Nat) : Int)))), some (.int (iI (((i : Nat) : Int)))), some (.int (iI (((j : Nat) : Int)))), some (.int (iI (1))), none, none, none], [.int (iI (x))], hB X mm29 pp29 K sh nn, cc, ss) Qr := by
                                intro cc ss x
                                intro hI
                                have hx := hI
                                refine rw_blk lk_L_isAct_1224 ?_
                                refine rw_of (fun rr hrr => q_istore (Nat.le_of_ble_eq_true rfl) rfl (q_iload rfl (q_sipush rfl hrr))) ?_
                                refine rw_icmp_le ⟨by omega, by omega⟩ ⟨by omega, by omega⟩ (t := 1246) rfl (fun hc114 => ?_) (fun hc114 => ?_)
                                · skip
                                  refine rw_blk lk_L_isAct_1246 ?_
                                  refine rw_of (fun rr hrr => q_iconst hrr) ?_
                                  refine rw_blk lk_L_isAct_1247 ?_
                                  refine rw_of (fun rr hrr => q_istore (Nat.le_of_ble_eq_true rfl) rfl (q_iload rfl hrr)) ?_
                                  refine rw_if_eq ⟨by omega, by omega⟩ (t := 1269) rfl (fun hc115 => ?_) (fun hc115 => ?_)
                                  · exact absurd hc115 (by decide)
                                  · skip
                                    refine rw_of (fun rr hrr => q_aload_n rfl (q_iload rfl (q_iload rfl (q_eqv (show (((w : Nat) : Int) : Int) = 2 from by omega) (q_iload rfl (q_iload rfl hrr)))))) ?_
                                    obtain ⟨_, mm116, pp116, hV116, rfl, hC116⟩ := w_at2 (S := (K, gB X sh nn)) (d := d) (by omega) hC29 (s := sy) (by omega) (i := ((i : Nat) : Int)) (j := j) (by omega)
                                    refine rw_of (fun rr hrr => q_invV hV116 (show SH 1 = (17, 0) from rfl) rfl rfl (okar_cons rfl (okar_cons rfl (okar_cons rfl (okar_cons rfl okar_nil)))) (Nat.le_of_ble_eq_true rfl) (q_goto (t := 1270) rfl hrr)) ?_
                                    refine rw_blk lk_L_isAct_1270 ?_
                                    refine rw_of (fun rr hrr => q_istore (Nat.le_of_ble_eq_true rfl) rfl (q_aload_n rfl (q_iconst (q_iload rfl (q_iload rfl (q_eqv (show (((w : Nat) : Int) : Int) = 2 from by omega) (q_iload rfl (q_iload rfl (q_iload rfl hrr))))))))) ?_
                                    obtain ⟨_, mm117, pp117, K117, _, _, cc117, ss117, hV117, hK117, hKB117, hS117, rfl, hC117, rfl, rfl⟩ := e_setX (w := 2) (i := i) (j := j) (X := X) (K := K) (sh := sh) (nn := nn) (d := d) (by omega) hC116 (s := sy) (by omega) (x := x) (Or.inr (Or.inr (Or.inl ⟨rfl, by omega⟩))) (by omega) (by omega)
                                    have hKB117 : K117 ≤ K + 1 := hKB117
                                    refine rw_of (fun rr hrr => q_invS hV117 rfl rfl (okar_cons rfl (okar_cons rfl (okar_cons rfl (okar_cons rfl (okar_cons rfl (okar_cons rfl (okar_cons rfl okar_nil))))))) (Nat.le_of_ble_eq_true rfl) (q_iload rfl hrr)) ?_
                                    refine rw_if_ne ⟨by omega, by omega⟩ (t := 1298) rfl (fun hc118 => ?_) (fun hc118 => ?_)
                                    · skip
                                      refine rw_blk lk_L_isAct_1298 ?_
                                      refine rw_of (fun rr hrr => q_iload rfl hrr) ?_
                                      refine rw_if_eq ⟨by omega, by omega⟩ (t := 1308) rfl (fun hc119 => ?_) (fun hc119 => ?_)
                                      · skip
                                        refine rw_blk lk_L_isAct_1308 ?_
                                        refine rw_of (fun rr hrr => q_sipush rfl hrr) ?_
                                        refine rw_blk lk_L_isAct_1311 ?_
                                        refine rw_icmp_ne ⟨by omega, by omega⟩ ⟨by omega, by omega⟩ (t := 1353) rfl (fun hc120 => ?_) (fun hc120 => ?_)
                                        · exfalso; omega
                                        · skip
                                          refine rw_of (fun rr hrr => q_iload rfl hrr) ?_
                                          refine rw_if_eq ⟨by omega, by omega⟩ (t := 1349) rfl (fun hc121 => ?_) (fun hc121 => ?_)
                                          · exact absurd hc121 (by decide)
                                          · skip
                                            refine rw_of (fun rr hrr => q_aload_n rfl (q_iload rfl (q_iload rfl (q_eqv (show (((w : Nat) : Int) : Int) = 2 from by omega) (q_iload rfl (q_iload rfl hrr)))))) ?_
                                            obtain ⟨_, mm122, pp122, hV122, rfl, hC122⟩ := w_at2 (S := (K117, gB X sh nn)) (d := d) (by omega) hC117 (s := sy) (by omega) (i := ((i : Nat) : Int)) (j := j) (by omega)
                                            refine rw_of (fun rr hrr => q_invV hV122 (show SH 1 = (17, 0) from rfl) rfl rfl (okar_cons rfl (okar_cons rfl (okar_cons rfl (okar_cons rfl okar_nil)))) (Nat.le_of_ble_eq_true rfl) (q_iload rfl hrr)) ?_
                                            refine rw_if_eq ⟨by omega, by omega⟩ (t := 1344) rfl (fun hc123 => ?_) (fun hc123 => ?_)
                                            · skip
                                              refine rw_blk lk_L_isAct_1344 ?_
                                              refine rw_of (fun rr hrr => q_iload rfl hrr) ?_
                                              refine rw_blk lk_L_isAct_1346 ?_
                                              refine rw_icmp_ne (rg_vF _) (rg_vF _) (t := 1353) rfl (fun hc124 => ?_) (fun hc124 => ?_)
                                              · exfalso; omega
                                              · skip
                                                refine rw_blk lk_L_isAct_1349 ?_
                                                refine rw_of (fun rr hrr => q_iconst (q_goto (t := 1354) rfl hrr)) ?_
                                                refine rw_blk lk_L_isAct_1354 ?_
                                                refine lw_end hQ (q_ireturn (by omega)) (by omega) (by omega) (FrS_tr (by omega) FrS_rfl hS117) ?_
                                                exact ⟨rfl, k, cp, ci, N, by omega, (hC122).1, hg0, hg1, hg2, ⟨PP, fun i hi => (show nn rp i = nn rp i from congrFun rfl _).trans (hpp i hi), fun i hi => (hpc i hi).trans (congrFun (hC122).P i).symm⟩, fun i hi => ((show nn ur i = nn ur i from congrFun rfl _).trans (huu i hi)).trans (congrArg vF (congrFun (hC122).U i).symm)⟩
                                            · exact absurd hc123 (by decide)
                                      · exact absurd hc119 (by decide)
                                    · exact absurd hc118 (by decide)
                                · skip
                                  refine rw_of (fun rr hrr => q_iload rfl (q_sipush rfl hrr)) ?_
                                  refine rw_icmp_ge ⟨by omega, by omega⟩ ⟨by omega, by omega⟩ (t := 1246) rfl (fun hc125 => ?_) (fun hc125 => ?_)
                                  · skip
                                    refine rw_blk lk_L_isAct_1246 ?_
                                    refine rw_of (fun rr hrr => q_iconst hrr) ?_
                                    refine rw_blk lk_L_isAct_1247 ?_
                                    refine rw_of (fun rr hrr => q_istore (Nat.le_of_ble_eq_true rfl) rfl (q_iload rfl hrr)) ?_
                                    refine rw_if_eq ⟨by omega, by omega⟩ (t := 1269) rfl (fun hc126 => ?_) (fun hc126 => ?_)
                                    · exact absurd hc126 (by decide)
                                    · skip
                                      refine rw_of (fun rr hrr => q_aload_n rfl (q_iload rfl (q_iload rfl (q_eqv (show (((w : Nat) : Int) : Int) = 2 from by omega) (q_iload rfl (q_iload rfl hrr)))))) ?_
                                      obtain ⟨_, mm127, pp127, hV127, rfl, hC127⟩ := w_at2 (S := (K, gB X sh nn)) (d := d) (by omega) hC29 (s := sy) (by omega) (i := ((i : Nat) : Int)) (j := j) (by omega)
                                      refine rw_of (fun rr hrr => q_invV hV127 (show SH 1 = (17, 0) from rfl) rfl rfl (okar_cons rfl (okar_cons rfl (okar_cons rfl (okar_cons rfl okar_nil)))) (Nat.le_of_ble_eq_true rfl) (q_goto (t := 1270) rfl hrr)) ?_
                                      refine rw_blk lk_L_isAct_1270 ?_
                                      refine rw_of (fun rr hrr => q_istore (Nat.le_of_ble_eq_true rfl) rfl (q_aload_n rfl (q_iconst (q_iload rfl (q_iload rfl (q_eqv (show (((w : Nat) : Int) : Int) = 2 from by omega) (q_iload rfl (q_iload rfl (q_iload rfl hrr))))))))) ?_
                                      obtain ⟨_, mm128, pp128, K128, _, _, cc128, ss128, hV128, hK128, hKB128, hS128, rfl, hC128, rfl, rfl⟩ := e_setX (w := 2) (i := i) (j := j) (X := X) (K := K) (sh := sh) (nn := nn) (d := d) (by omega) hC127 (s := sy) (by omega) (x := x) (Or.inr (Or.inr (Or.inl ⟨rfl, by omega⟩))) (by omega) (by omega)
                                      have hKB128 : K128 ≤ K + 1 := hKB128
                                      refine rw_of (fun rr hrr => q_invS hV128 rfl rfl (okar_cons rfl (okar_cons rfl (okar_cons rfl (okar_cons rfl (okar_cons rfl (okar_cons rfl (okar_cons rfl okar_nil))))))) (Nat.le_of_ble_eq_true rfl) (q_iload rfl hrr)) ?_
                                      refine rw_if_ne ⟨by omega, by omega⟩ (t := 1298) rfl (fun hc129 => ?_) (fun hc129 => ?_)
                                      · skip
                                        refine rw_blk lk_L_isAct_1298 ?_
                                        refine rw_of (fun rr hrr => q_iload rfl hrr) ?_
                                        refine rw_if_eq ⟨by omega, by omega⟩ (t := 1308) rfl (fun hc130 => ?_) (fun hc130 => ?_)
                                        · skip
                                          refine rw_blk lk_L_isAct_1308 ?_
                                          refine rw_of (fun rr hrr => q_sipush rfl hrr) ?_
                                          refine rw_blk lk_L_isAct_1311 ?_
                                          refine rw_icmp_ne ⟨by omega, by omega⟩ ⟨by omega, by omega⟩ (t := 1353) rfl (fun hc131 => ?_) (fun hc131 => ?_)
                                          · exfalso; omega
                                          · skip
                                            refine rw_of (fun rr hrr => q_iload rfl hrr) ?_
                                            refine rw_if_eq ⟨by omega, by omega⟩ (t := 1349) rfl (fun hc132 => ?_) (fun hc132 => ?_)
                                            · exact absurd hc132 (by decide)
                                            · skip
                                              refine rw_of (fun rr hrr => q_aload_n rfl (q_iload rfl (q_iload rfl (q_eqv (show (((w : Nat) : Int) : Int) = 2 from by omega) (q_iload rfl (q_iload rfl hrr)))))) ?_
                                              obtain ⟨_, mm133, pp133, hV133, rfl, hC133⟩ := w_at2 (S := (K128, gB X sh nn)) (d := d) (by omega) hC128 (s := sy) (by omega) (i := ((i : Nat) : Int)) (j := j) (by omega)
                                              refine rw_of (fun rr hrr => q_invV hV133 (show SH 1 = (17, 0) from rfl) rfl rfl (okar_cons rfl (okar_cons rfl (okar_cons rfl (okar_cons rfl okar_nil)))) (Nat.le_of_ble_eq_true rfl) (q_iload rfl hrr)) ?_
                                              refine rw_if_eq ⟨by omega, by omega⟩ (t := 1344) rfl (fun hc134 => ?_) (fun hc134 => ?_)
                                              · skip
                                                refine rw_blk lk_L_isAct_1344 ?_
                                                refine rw_of (fun rr hrr => q_iload rfl hrr) ?_
                                                refine rw_blk lk_L_isAct_1346 ?_
                                                refine rw_icmp_ne (rg_vF _) (rg_vF _) (t := 1353) rfl (fun hc135 => ?_) (fun hc135 => ?_)
                                                · exfalso; omega
                                                · skip
                                                  refine rw_blk lk_L_isAct_1349 ?_
                                                  refine rw_of (fun rr hrr => q_iconst (q_goto (t := 1354) rfl hrr)) ?_
                                                  refine rw_blk lk_L_isAct_1354 ?_
                                                  refine lw_end hQ (q_ireturn (by omega)) (by omega) (by omega) (FrS_tr (by omega) FrS_rfl hS128) ?_
                                                  exact ⟨rfl, k, cp, ci, N, by omega, (hC133).1, hg0, hg1, hg2, ⟨PP, fun i hi => (show nn rp i = nn rp i from congrFun rfl _).trans (hpp i hi), fun i hi => (hpc i hi).trans (congrFun (hC133).P i).symm⟩, fun i hi => ((show nn ur i = nn ur i from congrFun rfl _).trans (huu i hi)).trans (congrArg vF (congrFun (hC133).U i).symm)⟩
                                              · exact absurd hc134 (by decide)
                                        · exact absurd hc130 (by decide)
                                      · exact absurd hc129 (by decide)
                                  · skip
                                    refine rw_of (fun rr hrr => q_iconst (q_goto (t := 1247) rfl hrr)) ?_
                                    refine rw_blk lk_L_isAct_1247 ?_
                                    refine rw_of (fun rr hrr => q_istore (Nat.le_of_ble_eq_true rfl) rfl (q_iload rfl hrr)) ?_
                                    refine rw_if_eq ⟨by omega, by omega⟩ (t := 1269) rfl (fun hc136 => ?_) (fun hc136 => ?_)
                                    · exact absurd hc136 (by decide)
                                    · skip
                                      refine rw_of (fun rr hrr => q_aload_n rfl (q_iload rfl (q_iload rfl (q_eqv (show (((w : Nat) : Int) : Int) = 2 from by omega) (q_iload rfl (q_iload rfl hrr)))))) ?_
                                      obtain ⟨_, mm137, pp137, hV137, rfl, hC137⟩ := w_at2 (S := (K, gB X sh nn)) (d := d) (by omega) hC29 (s := sy) (by omega) (i := ((i : Nat) : Int)) (j := j) (by omega)
                                      refine rw_of (fun rr hrr => q_invV hV137 (show SH 1 = (17, 0) from rfl) rfl rfl (okar_cons rfl (okar_cons rfl (okar_cons rfl (okar_cons rfl okar_nil)))) (Nat.le_of_ble_eq_true rfl) (q_goto (t := 1270) rfl hrr)) ?_
                                      refine rw_blk lk_L_isAct_1270 ?_
                                      refine rw_of (fun rr hrr => q_istore (Nat.le_of_ble_eq_true rfl) rfl (q_aload_n rfl (q_iconst (q_iload rfl (q_iload rfl (q_eqv (show (((w : Nat) : Int) : Int) = 2 from by omega) (q_iload rfl (q_iload rfl (q_iload rfl hrr))))))))) ?_
                                      obtain ⟨_, mm138, pp138, K138, _, _, cc138, ss138, hV138, hK138, hKB138, hS138, rfl, ⟨⟨hC138, hP138, hU138⟩, hE138⟩, rfl, rfl⟩ := e_set2 (X := X) (K := K) (sh := sh) (nn := nn) (d := d) (by omega) hC137 (s := sy) (by omega) (i := ((i : Nat) : Int)) (j := j) (x := x) (by omega) ⟨by omega, by omega⟩
                                      have hKB138 : K138 ≤ K + 1 := hKB138
                                      refine rw_of (fun rr hrr => q_invS hV138 rfl rfl (okar_cons rfl (okar_cons rfl (okar_cons rfl (okar_cons rfl (okar_cons rfl (okar_cons rfl (okar_cons rfl okar_nil))))))) (Nat.le_of_ble_eq_true rfl) (q_iload rfl hrr)) ?_
                                      refine rw_if_ne ⟨by omega, by omega⟩ (t := 1298) rfl (fun hc139 => ?_) (fun hc139 => ?_)
                                      · skip
                                        refine rw_blk lk_L_isAct_1298 ?_
                                        refine rw_of (fun rr hrr => q_iload rfl hrr) ?_
                                        refine rw_if_eq ⟨by omega, by omega⟩ (t := 1308) rfl (fun hc140 => ?_) (fun hc140 => ?_)
                                        · exact absurd hc140 (by decide)
                                        · skip
                                          refine rw_of (fun rr hrr => q_iload rfl (q_goto (t := 1311) rfl hrr)) ?_
                                          refine rw_blk lk_L_isAct_1311 ?_
                                          refine rw_icmp_ne (rg_vF _) (rg_vF _) (t := 1353) rfl (fun hc141 => ?_) (fun hc141 => ?_)
                                          · exfalso; omega
                                          · skip
                                            refine rw_of (fun rr hrr => q_iload rfl hrr) ?_
                                            refine rw_if_eq ⟨by omega, by omega⟩ (t := 1349) rfl (fun hc142 => ?_) (fun hc142 => ?_)
                                            · exact absurd hc142 (by decide)
                                            · skip
                                              refine rw_of (fun rr hrr => q_aload_n rfl (q_iload rfl (q_iload rfl (q_eqv (show (((w : Nat) : Int) : Int) = 2 from by omega) (q_iload rfl (q_iload rfl hrr)))))) ?_
                                              obtain ⟨_, mm143, pp143, hV143, rfl, hC143⟩ := w_at2 (S := (K138, gB X sh nn)) (d := d) (by omega) hC138 (s := sy) (by omega) (i := ((i : Nat) : Int)) (j := j) (by omega)
                                              refine rw_of (fun rr hrr => q_invV hV143 (show SH 1 = (17, 0) from rfl) rfl rfl (okar_cons rfl (okar_cons rfl (okar_cons rfl (okar_cons rfl okar_nil)))) (Nat.le_of_ble_eq_true rfl) (q_iload rfl hrr)) ?_
                                              refine rw_if_eq ⟨by omega, by omega⟩ (t := 1344) rfl (fun hc144 => ?_) (fun hc144 => ?_)
                                              · exact absurd hc144 (by decide)
                                              · skip
                                                refine rw_of (fun rr hrr => q_iload rfl hrr) ?_
                                                obtain ⟨_, _, _, hV145, rfl, rfl, rfl⟩ := c_L_rest (S := (K138, gB X sh nn)) (fz := false) (m := mm143) (p := pp143) (d := d) (by omega) (x) ((toF x)) ⟨by omega, by omega⟩ (by simp only [toF_add, toF_mul, toF_sub, toF_neg, toF_vF, toF_nat, toF_0, toF_1, toF_M, F_add0, F_0sub])
                                                refine rw_of (fun rr hrr => q_invS hV145 rfl rfl (okar_cons rfl okar_nil) (Nat.le_of_ble_eq_true rfl) (q_goto (t := 1346) rfl hrr)) ?_
                                                refine rw_blk lk_L_isAct_1346 ?_
                                                refine rw_icmp_ne (rg_vF _) (rg_vF _) (t := 1353) rfl (fun hc146 => ?_) (fun hc146 => ?_)
                                                · refine absurd (congrArg vF ?_) hc146
                                                  exact hE138
                                                · skip
                                                  refine rw_blk lk_L_isAct_1349 ?_
                                                  refine rw_of (fun rr hrr => q_iconst (q_goto (t := 1354) rfl hrr)) ?_
                                                  refine rw_blk lk_L_isAct_1354 ?_
                                                  refine lw_end hQ (q_ireturn (by omega)) (by omega) (by omega) (FrS_tr (by omega) FrS_rfl hS138) ?_
                                                  exact ⟨rfl, k, cp, ci, N, by omega, (hC143).1, hg0, hg1, hg2, ⟨PP, fun i hi => (show nn rp i = nn rp i from congrFun rfl _).trans (hpp i hi), fun i hi => (hpc i hi).trans (congrFun ((hC143).P.trans hP138) i).symm⟩, fun i hi => ((show nn ur i = nn ur i from congrFun rfl _).trans (huu i hi)).trans (congrArg vF (congrFun ((hC143).U.trans hU138) i).symm)⟩
                                      · exact absurd hc139 (by decide)
                              refine rw_if_ne ⟨by omega, by omega⟩ (t := 1214) rfl (fun hc147 => ?_) (fun hc147 => ?_)
                              · skip
                                refine rw_blk lk_L_isAct_1214 ?_
                                refine rw_of (fun rr hrr => q_iload rfl (q_bipush rfl (q_idiv ⟨by omega, by omega⟩ ⟨by omega, by omega⟩ (by omega) (show (((one : Nat) : Int)).tdiv (65) = ((one / 65 : Nat) : Int) by rfl) (q_bipush rfl (q_irem ⟨by omega, by omega⟩ ⟨by omega, by omega⟩ (by omega) (show (((one / 65 : Nat) : Int)).tmod (9) = (((one / 65) % 9 : Nat) : Int) by rfl) (q_iconst (q_isub hrr))))))) ?_
                                have hA148 : -10007 ≤ (((((one / 65) % 9 : Nat) : Int) - 4)) ∧ (((((one / 65) % 9 : Nat) : Int) - 4)) ≤ 10007 := by
                                  omega
                                exact rw_casts (hL1224 _ _ (((((one / 65) % 9 : Nat) : Int) - 4)) hA148) rfl rfl
                              · skip
                                refine rw_of (fun rr hrr => q_iload rfl (q_sipush rfl (q_irem ⟨by omega, by omega⟩ ⟨by omega, by omega⟩ (by omega) (show (((two : Nat) : Int)).tmod (20015) = ((two % 20015 : Nat) : Int) by rfl) (q_sipush rfl (q_isub (q_goto (t := 1224) rfl hrr)))))) ?_
                                have hA149 : -10007 ≤ ((((two % 20015 : Nat) : Int) - 10007)) ∧ ((((two % 20015 : Nat) : Int) - 10007)) ≤ 10007 := by
                                  omega
                                exact rw_casts (hL1224 _ _ ((((two % 20015 : Nat) : Int) - 10007)) hA149) rfl rfl
                      · skip
                        refine rw_of (fun rr hrr => q_iload rfl (q_iload rfl hrr)) ?_
                        refine rw_icmp_ge ⟨by omega, by omega⟩ ⟨by omega, by omega⟩ (t := 1191) rfl (fun hc150 => ?_) (fun hc150 => ?_)
                        · skip
                          refine rw_blk lk_L_isAct_1191 ?_
                          refine rw_of (fun rr hrr => q_iconst hrr) ?_
                          refine rw_blk lk_L_isAct_1192 ?_
                          refine rw_of (fun rr hrr => q_istore (Nat.le_of_ble_eq_true rfl) rfl (q_iload rfl (q_iconst (q_irem ⟨by omega, by omega⟩ ⟨by omega, by omega⟩ (by omega) (show (((one : Nat) : Int)).tmod (3) = ((one % 3 : Nat) : Int) by rfl) hrr)))) ?_
                          have hL1224 : ∀ (cc ss : Nat) (x : Int), ((-10007 ≤ x ∧ x ≤ 10007)) → Rw (Ev d) k_L_isAct (1224, [], [some (.ref (1)), some (.ref (rp)), some (.ref (ur)), some (.ref (gg)), some (.int (iI (9))), some (.int (iI (((one : Nat) : Int)))), some (.int (iI (((two : Nat) : Int)))), some (.int (iI (((sy : Nat) : Int)))), some (.int (iI (((ot : Nat) : Int)))), some (.int (iI (((N sy : Nat) : Int)))), some (.int (iI (((w : Nat) : Int)))), some (.int (iI (((i : Nat) : Int)))), some (.int (iI (((j : Nat) : Int)))), some (.int (iI (0))), none, none, none], [.int (iI (x))], hB X mm29 pp29 K sh nn, cc, ss) Qr := by
                            intro cc ss x
                            intro hI
                            have hx := hI
                            refine rw_blk lk_L_isAct_1224 ?_
                            refine rw_of (fun rr hrr => q_istore (Nat.le_of_ble_eq_true rfl) rfl (q_iload rfl (q_sipush rfl hrr))) ?_
                            refine rw_icmp_le ⟨by omega, by omega⟩ ⟨by omega, by omega⟩ (t := 1246) rfl (fun hc151 => ?_) (fun hc151 => ?_)
                            · skip
                              refine rw_blk lk_L_isAct_1246 ?_
                              refine rw_of (fun rr hrr => q_iconst hrr) ?_
                              refine rw_blk lk_L_isAct_1247 ?_
                              refine rw_of (fun rr hrr => q_istore (Nat.le_of_ble_eq_true rfl) rfl (q_iload rfl hrr)) ?_
                              refine rw_if_eq ⟨by omega, by omega⟩ (t := 1269) rfl (fun hc152 => ?_) (fun hc152 => ?_)
                              · skip
                                refine rw_blk lk_L_isAct_1269 ?_
                                refine rw_of (fun rr hrr => q_iconst hrr) ?_
                                refine rw_blk lk_L_isAct_1270 ?_
                                refine rw_of (fun rr hrr => q_istore (Nat.le_of_ble_eq_true rfl) rfl (q_aload_n rfl (q_iconst (q_iload rfl (q_iload rfl (q_iload rfl (q_iload rfl (q_iload rfl hrr)))))))) ?_
                                obtain ⟨_, mm153, pp153, K153, _, _, cc153, ss153, hV153, hK153, hKB153, hS153, rfl, hC153, rfl, rfl⟩ := e_setP (w := w) (i := i) (j := j) (s := sy) (X := X) (K := K) (sh := sh) (nn := nn) (d := d) (by omega) hC29 (x := x) (by omega) (by omega)
                                have hKB153 : K153 ≤ K + 1 := hKB153
                                refine rw_of (fun rr hrr => q_invS hV153 rfl rfl (okar_cons rfl (okar_cons rfl (okar_cons rfl (okar_cons rfl (okar_cons rfl (okar_cons rfl (okar_cons rfl okar_nil))))))) (Nat.le_of_ble_eq_true rfl) (q_iload rfl hrr)) ?_
                                refine rw_if_ne ⟨by omega, by omega⟩ (t := 1298) rfl (fun hc154 => ?_) (fun hc154 => ?_)
                                · exact absurd hc154 (by decide)
                                · skip
                                  refine rw_of (fun rr hrr => q_sipush rfl (q_goto (t := 1311) rfl hrr)) ?_
                                  refine rw_blk lk_L_isAct_1311 ?_
                                  refine rw_icmp_ne ⟨by omega, by omega⟩ ⟨by omega, by omega⟩ (t := 1353) rfl (fun hc155 => ?_) (fun hc155 => ?_)
                                  · exfalso; omega
                                  · skip
                                    refine rw_of (fun rr hrr => q_iload rfl hrr) ?_
                                    refine rw_if_eq ⟨by omega, by omega⟩ (t := 1349) rfl (fun hc156 => ?_) (fun hc156 => ?_)
                                    · skip
                                      refine rw_blk lk_L_isAct_1349 ?_
                                      refine rw_of (fun rr hrr => q_iconst (q_goto (t := 1354) rfl hrr)) ?_
                                      refine rw_blk lk_L_isAct_1354 ?_
                                      refine lw_end hQ (q_ireturn (by omega)) (by omega) (by omega) (FrS_tr (by omega) FrS_rfl hS153) ?_
                                      exact ⟨rfl, k, cp, ci, N, by omega, (hC153).1, hg0, hg1, hg2, ⟨PP, fun i hi => (show nn rp i = nn rp i from congrFun rfl _).trans (hpp i hi), fun i hi => (hpc i hi).trans (congrFun (hC153).P i).symm⟩, fun i hi => ((show nn ur i = nn ur i from congrFun rfl _).trans (huu i hi)).trans (congrArg vF (congrFun (hC153).U i).symm)⟩
                                    · exact absurd hc156 (by decide)
                              · exact absurd hc152 (by decide)
                            · skip
                              refine rw_of (fun rr hrr => q_iload rfl (q_sipush rfl hrr)) ?_
                              refine rw_icmp_ge ⟨by omega, by omega⟩ ⟨by omega, by omega⟩ (t := 1246) rfl (fun hc157 => ?_) (fun hc157 => ?_)
                              · skip
                                refine rw_blk lk_L_isAct_1246 ?_
                                refine rw_of (fun rr hrr => q_iconst hrr) ?_
                                refine rw_blk lk_L_isAct_1247 ?_
                                refine rw_of (fun rr hrr => q_istore (Nat.le_of_ble_eq_true rfl) rfl (q_iload rfl hrr)) ?_
                                refine rw_if_eq ⟨by omega, by omega⟩ (t := 1269) rfl (fun hc158 => ?_) (fun hc158 => ?_)
                                · skip
                                  refine rw_blk lk_L_isAct_1269 ?_
                                  refine rw_of (fun rr hrr => q_iconst hrr) ?_
                                  refine rw_blk lk_L_isAct_1270 ?_
                                  refine rw_of (fun rr hrr => q_istore (Nat.le_of_ble_eq_true rfl) rfl (q_aload_n rfl (q_iconst (q_iload rfl (q_iload rfl (q_iload rfl (q_iload rfl (q_iload rfl hrr)))))))) ?_
                                  obtain ⟨_, mm159, pp159, K159, _, _, cc159, ss159, hV159, hK159, hKB159, hS159, rfl, hC159, rfl, rfl⟩ := e_setP (w := w) (i := i) (j := j) (s := sy) (X := X) (K := K) (sh := sh) (nn := nn) (d := d) (by omega) hC29 (x := x) (by omega) (by omega)
                                  have hKB159 : K159 ≤ K + 1 := hKB159
                                  refine rw_of (fun rr hrr => q_invS hV159 rfl rfl (okar_cons rfl (okar_cons rfl (okar_cons rfl (okar_cons rfl (okar_cons rfl (okar_cons rfl (okar_cons rfl okar_nil))))))) (Nat.le_of_ble_eq_true rfl) (q_iload rfl hrr)) ?_
                                  refine rw_if_ne ⟨by omega, by omega⟩ (t := 1298) rfl (fun hc160 => ?_) (fun hc160 => ?_)
                                  · exact absurd hc160 (by decide)
                                  · skip
                                    refine rw_of (fun rr hrr => q_sipush rfl (q_goto (t := 1311) rfl hrr)) ?_
                                    refine rw_blk lk_L_isAct_1311 ?_
                                    refine rw_icmp_ne ⟨by omega, by omega⟩ ⟨by omega, by omega⟩ (t := 1353) rfl (fun hc161 => ?_) (fun hc161 => ?_)
                                    · exfalso; omega
                                    · skip
                                      refine rw_of (fun rr hrr => q_iload rfl hrr) ?_
                                      refine rw_if_eq ⟨by omega, by omega⟩ (t := 1349) rfl (fun hc162 => ?_) (fun hc162 => ?_)
                                      · skip
                                        refine rw_blk lk_L_isAct_1349 ?_
                                        refine rw_of (fun rr hrr => q_iconst (q_goto (t := 1354) rfl hrr)) ?_
                                        refine rw_blk lk_L_isAct_1354 ?_
                                        refine lw_end hQ (q_ireturn (by omega)) (by omega) (by omega) (FrS_tr (by omega) FrS_rfl hS159) ?_
                                        exact ⟨rfl, k, cp, ci, N, by omega, (hC159).1, hg0, hg1, hg2, ⟨PP, fun i hi => (show nn rp i = nn rp i from congrFun rfl _).trans (hpp i hi), fun i hi => (hpc i hi).trans (congrFun (hC159).P i).symm⟩, fun i hi => ((show nn ur i = nn ur i from congrFun rfl _).trans (huu i hi)).trans (congrArg vF (congrFun (hC159).U i).symm)⟩
                                      · exact absurd hc162 (by decide)
                                · exact absurd hc158 (by decide)
                              · skip
                                refine rw_of (fun rr hrr => q_iconst (q_goto (t := 1247) rfl hrr)) ?_
                                refine rw_blk lk_L_isAct_1247 ?_
                                refine rw_of (fun rr hrr => q_istore (Nat.le_of_ble_eq_true rfl) rfl (q_iload rfl hrr)) ?_
                                refine rw_if_eq ⟨by omega, by omega⟩ (t := 1269) rfl (fun hc163 => ?_) (fun hc163 => ?_)
                                · skip
                                  refine rw_blk lk_L_isAct_1269 ?_
                                  refine rw_of (fun rr hrr => q_iconst hrr) ?_
                                  refine rw_blk lk_L_isAct_1270 ?_
                                  refine rw_of (fun rr hrr => q_istore (Nat.le_of_ble_eq_true rfl) rfl (q_aload_n rfl (q_iconst (q_iload rfl (q_iload rfl (q_iload rfl (q_iload rfl (q_iload rfl hrr)))))))) ?_
                                  obtain ⟨_, mm164, pp164, K164, _, _, cc164, ss164, hV164, hK164, hKB164, hS164, rfl, hC164, rfl, rfl⟩ := e_setP (w := w) (i := i) (j := j) (s := sy) (X := X) (K := K) (sh := sh) (nn := nn) (d := d) (by omega) hC29 (x := x) (by omega) (by omega)
                                  have hKB164 : K164 ≤ K + 1 := hKB164
                                  refine rw_of (fun rr hrr => q_invS hV164 rfl rfl (okar_cons rfl (okar_cons rfl (okar_cons rfl (okar_cons rfl (okar_cons rfl (okar_cons rfl (okar_cons rfl okar_nil))))))) (Nat.le_of_ble_eq_true rfl) (q_iload rfl hrr)) ?_
                                  refine rw_if_ne ⟨by omega, by omega⟩ (t := 1298) rfl (fun hc165 => ?_) (fun hc165 => ?_)
                                  · exact absurd hc165 (by decide)
                                  · skip
                                    refine rw_of (fun rr hrr => q_sipush rfl (q_goto (t := 1311) rfl hrr)) ?_
                                    refine rw_blk lk_L_isAct_1311 ?_
                                    refine rw_icmp_ne ⟨by omega, by omega⟩ ⟨by omega, by omega⟩ (t := 1353) rfl (fun hc166 => ?_) (fun hc166 => ?_)
                                    · exfalso; omega
                                    · skip
                                      refine rw_of (fun rr hrr => q_iload rfl hrr) ?_
                                      refine rw_if_eq ⟨by omega, by omega⟩ (t := 1349) rfl (fun hc167 => ?_) (fun hc167 => ?_)
                                      · skip
                                        refine rw_blk lk_L_isAct_1349 ?_
                                        refine rw_of (fun rr hrr => q_iconst (q_goto (t := 1354) rfl hrr)) ?_
                                        refine rw_blk lk_L_isAct_1354 ?_
                                        refine lw_end hQ (q_ireturn (by omega)) (by omega) (by omega) (FrS_tr (by omega) FrS_rfl hS164) ?_
                                        exact ⟨rfl, k, cp, ci, N, by omega, (hC164).1, hg0, hg1, hg2, ⟨PP, fun i hi => (show nn rp i = nn rp i from congrFun rfl _).trans (hpp i hi), fun i hi => (hpc i hi).trans (congrFun (hC164).P i).symm⟩, fun i hi => ((show nn ur i = nn ur i from congrFun rfl _).trans (huu i hi)).trans (congrArg vF (congrFun (hC164).U i).symm)⟩
                                      · exact absurd hc167 (by decide)
                                · exact absurd hc163 (by decide)
                          refine rw_if_ne ⟨by omega, by omega⟩ (t := 1214) rfl (fun hc168 => ?_) (fun hc168 => ?_)
                          · skip
                            refine rw_blk lk_L_isAct_1214 ?_
                            refine rw_of (fun rr hrr => q_iload rfl (q_bipush rfl (q_idiv ⟨by omega, by omega⟩ ⟨by omega, by omega⟩ (by omega) (show (((one : Nat) : Int)).tdiv (65) = ((one / 65 : Nat) : Int) by rfl) (q_bipush rfl (q_irem ⟨by omega, by omega⟩ ⟨by omega, by omega⟩ (by omega) (show (((one / 65 : Nat) : Int)).tmod (9) = (((one / 65) % 9 : Nat) : Int) by rfl) (q_iconst (q_isub hrr))))))) ?_
                            have hA169 : -10007 ≤ (((((one / 65) % 9 : Nat) : Int) - 4)) ∧ (((((one / 65) % 9 : Nat) : Int) - 4)) ≤ 10007 := by
                              omega
                            exact rw_casts (hL1224 _ _ (((((one / 65) % 9 : Nat) : Int) - 4)) hA169) rfl rfl
                          · skip
                            refine rw_of (fun rr hrr => q_iload rfl (q_sipush rfl (q_irem ⟨by omega, by omega⟩ ⟨by omega, by omega⟩ (by omega) (show (((two : Nat) : Int)).tmod (20015) = ((two % 20015 : Nat) : Int) by rfl) (q_sipush rfl (q_isub (q_goto (t := 1224) rfl hrr)))))) ?_
                            have hA170 : -10007 ≤ ((((two % 20015 : Nat) : Int) - 10007)) ∧ ((((two % 20015 : Nat) : Int) - 10007)) ≤ 10007 := by
                              omega
                            exact rw_casts (hL1224 _ _ ((((two % 20015 : Nat) : Int) - 10007)) hA170) rfl rfl
                        · skip
                          refine rw_blk lk_L_isAct_1168 ?_
                          refine rw_of (fun rr hrr => q_iload rfl (q_iconst hrr)) ?_
                          refine rw_icmp_eq ⟨by omega, by omega⟩ ⟨by omega, by omega⟩ (t := 1187) rfl (fun hc171 => ?_) (fun hc171 => ?_)
                          · exfalso; omega
                          · skip
                            refine rw_of (fun rr hrr => q_iload rfl (q_iconst hrr)) ?_
                            refine rw_icmp_eq ⟨by omega, by omega⟩ ⟨by omega, by omega⟩ (t := 1187) rfl (fun hc172 => ?_) (fun hc172 => ?_)
                            · skip
                              refine rw_blk lk_L_isAct_1187 ?_
                              refine rw_of (fun rr hrr => q_iconst (q_goto (t := 1192) rfl hrr)) ?_
                              refine rw_blk lk_L_isAct_1192 ?_
                              refine rw_of (fun rr hrr => q_istore (Nat.le_of_ble_eq_true rfl) rfl (q_iload rfl (q_iconst (q_irem ⟨by omega, by omega⟩ ⟨by omega, by omega⟩ (by omega) (show (((one : Nat) : Int)).tmod (3) = ((one % 3 : Nat) : Int) by rfl) hrr)))) ?_
                              have hL1224 : ∀ (cc ss : Nat) (x : Int), ((-10007 ≤ x ∧ x ≤ 10007)) → Rw (Ev d) k_L_isAct (1224, [], [some (.ref (1)), some (.ref (rp)), some (.ref (ur)), some (.ref (gg)), some (.int (iI (9))), some (.int (iI (((one : Nat) : Int)))), some (.int (iI (((two : Nat) : Int)))), some (.int (iI (((sy : Nat) : Int)))), some (.int (iI (((ot : Nat) : Int)))), some (.int (iI (((N sy : Nat) : Int)))), some (.int (iI (((w : Nat) : Int)))), some (.int (iI (((i : Nat) : Int)))), some (.int (iI (((j : Nat) : Int)))), some (.int (iI (1))), none, none, none], [.int (iI (x))], hB X mm29 pp29 K sh nn, cc, ss) Qr := by
                                intro cc ss x
                                intro hI
                                have hx := hI
                                refine rw_blk lk_L_isAct_1224 ?_
                                refine rw_of (fun rr hrr => q_istore (Nat.le_of_ble_eq_true rfl) rfl (q_iload rfl (q_sipush rfl hrr))) ?_
                                refine rw_icmp_le ⟨by omega, by omega⟩ ⟨by omega, by omega⟩ (t := 1246) rfl (fun hc173 => ?_) (fun hc173 => ?_)
                                · skip
                                  refine rw_blk lk_L_isAct_1246 ?_
                                  refine rw_of (fun rr hrr => q_iconst hrr) ?_
                                  refine rw_blk lk_L_isAct_1247 ?_
                                  refine rw_of (fun rr hrr => q_istore (Nat.le_of_ble_eq_true rfl) rfl (q_iload rfl hrr)) ?_
                                  refine rw_if_eq ⟨by omega, by omega⟩ (t := 1269) rfl (fun hc174 => ?_) (fun hc174 => ?_)
                                  · exact absurd hc174 (by decide)
                                  · skip
                                    refine rw_of (fun rr hrr => q_aload_n rfl (q_iload rfl (q_iload rfl (q_eqv (show (((w : Nat) : Int) : Int) = 1 from by omega) (q_iload rfl (q_iload rfl hrr)))))) ?_
                                    obtain ⟨_, mm175, pp175, hV175, rfl, hC175⟩ := w_at1 (S := (K, gB X sh nn)) (d := d) (by omega) hC29 (s := sy) (by omega) (i := i) (j := ((j : Nat) : Int)) (by omega)
                                    refine rw_of (fun rr hrr => q_invV hV175 (show SH 1 = (17, 0) from rfl) rfl rfl (okar_cons rfl (okar_cons rfl (okar_cons rfl (okar_cons rfl okar_nil)))) (Nat.le_of_ble_eq_true rfl) (q_goto (t := 1270) rfl hrr)) ?_
                                    refine rw_blk lk_L_isAct_1270 ?_
                                    refine rw_of (fun rr hrr => q_istore (Nat.le_of_ble_eq_true rfl) rfl (q_aload_n rfl (q_iconst (q_iload rfl (q_iload rfl (q_eqv (show (((w : Nat) : Int) : Int) = 1 from by omega) (q_iload rfl (q_iload rfl (q_iload rfl hrr))))))))) ?_
                                    obtain ⟨_, mm176, pp176, K176, _, _, cc176, ss176, hV176, hK176, hKB176, hS176, rfl, hC176, rfl, rfl⟩ := e_setX (w := 1) (i := i) (j := j) (X := X) (K := K) (sh := sh) (nn := nn) (d := d) (by omega) hC175 (s := sy) (by omega) (x := x) (Or.inr (Or.inl ⟨rfl, by omega⟩)) (by omega) (by omega)
                                    have hKB176 : K176 ≤ K + 1 := hKB176
                                    refine rw_of (fun rr hrr => q_invS hV176 rfl rfl (okar_cons rfl (okar_cons rfl (okar_cons rfl (okar_cons rfl (okar_cons rfl (okar_cons rfl (okar_cons rfl okar_nil))))))) (Nat.le_of_ble_eq_true rfl) (q_iload rfl hrr)) ?_
                                    refine rw_if_ne ⟨by omega, by omega⟩ (t := 1298) rfl (fun hc177 => ?_) (fun hc177 => ?_)
                                    · skip
                                      refine rw_blk lk_L_isAct_1298 ?_
                                      refine rw_of (fun rr hrr => q_iload rfl hrr) ?_
                                      refine rw_if_eq ⟨by omega, by omega⟩ (t := 1308) rfl (fun hc178 => ?_) (fun hc178 => ?_)
                                      · skip
                                        refine rw_blk lk_L_isAct_1308 ?_
                                        refine rw_of (fun rr hrr => q_sipush rfl hrr) ?_
                                        refine rw_blk lk_L_isAct_1311 ?_
                                        refine rw_icmp_ne ⟨by omega, by omega⟩ ⟨by omega, by omega⟩ (t := 1353) rfl (fun hc179 => ?_) (fun hc179 => ?_)
                                        · exfalso; omega
                                        · skip
                                          refine rw_of (fun rr hrr => q_iload rfl hrr) ?_
                                          refine rw_if_eq ⟨by omega, by omega⟩ (t := 1349) rfl (fun hc180 => ?_) (fun hc180 => ?_)
                                          · exact absurd hc180 (by decide)
                                          · skip
                                            refine rw_of (fun rr hrr => q_aload_n rfl (q_iload rfl (q_iload rfl (q_eqv (show (((w : Nat) : Int) : Int) = 1 from by omega) (q_iload rfl (q_iload rfl hrr)))))) ?_
                                            obtain ⟨_, mm181, pp181, hV181, rfl, hC181⟩ := w_at1 (S := (K176, gB X sh nn)) (d := d) (by omega) hC176 (s := sy) (by omega) (i := i) (j := ((j : Nat) : Int)) (by omega)
                                            refine rw_of (fun rr hrr => q_invV hV181 (show SH 1 = (17, 0) from rfl) rfl rfl (okar_cons rfl (okar_cons rfl (okar_cons rfl (okar_cons rfl okar_nil)))) (Nat.le_of_ble_eq_true rfl) (q_iload rfl hrr)) ?_
                                            refine rw_if_eq ⟨by omega, by omega⟩ (t := 1344) rfl (fun hc182 => ?_) (fun hc182 => ?_)
                                            · skip
                                              refine rw_blk lk_L_isAct_1344 ?_
                                              refine rw_of (fun rr hrr => q_iload rfl hrr) ?_
                                              refine rw_blk lk_L_isAct_1346 ?_
                                              refine rw_icmp_ne (rg_vF _) (rg_vF _) (t := 1353) rfl (fun hc183 => ?_) (fun hc183 => ?_)
                                              · exfalso; omega
                                              · skip
                                                refine rw_blk lk_L_isAct_1349 ?_
                                                refine rw_of (fun rr hrr => q_iconst (q_goto (t := 1354) rfl hrr)) ?_
                                                refine rw_blk lk_L_isAct_1354 ?_
                                                refine lw_end hQ (q_ireturn (by omega)) (by omega) (by omega) (FrS_tr (by omega) FrS_rfl hS176) ?_
                                                exact ⟨rfl, k, cp, ci, N, by omega, (hC181).1, hg0, hg1, hg2, ⟨PP, fun i hi => (show nn rp i = nn rp i from congrFun rfl _).trans (hpp i hi), fun i hi => (hpc i hi).trans (congrFun (hC181).P i).symm⟩, fun i hi => ((show nn ur i = nn ur i from congrFun rfl _).trans (huu i hi)).trans (congrArg vF (congrFun (hC181).U i).symm)⟩
                                            · exact absurd hc182 (by decide)
                                      · exact absurd hc178 (by decide)
                                    · exact absurd hc177 (by decide)
                                · skip
                                  refine rw_of (fun rr hrr => q_iload rfl (q_sipush rfl hrr)) ?_
                                  refine rw_icmp_ge ⟨by omega, by omega⟩ ⟨by omega, by omega⟩ (t := 1246) rfl (fun hc184 => ?_) (fun hc184 => ?_)
                                  · skip
                                    refine rw_blk lk_L_isAct_1246 ?_
                                    refine rw_of (fun rr hrr => q_iconst hrr) ?_
                                    refine rw_blk lk_L_isAct_1247 ?_
                                    refine rw_of (fun rr hrr => q_istore (Nat.le_of_ble_eq_true rfl) rfl (q_iload rfl hrr)) ?_
                                    refine rw_if_eq ⟨by omega, by omega⟩ (t := 1269) rfl (fun hc185 => ?_) (fun hc185 => ?_)
                                    · exact absurd hc185 (by decide)
                                    · skip
                                      refine rw_of (fun rr hrr => q_aload_n rfl (q_iload rfl (q_iload rfl (q_eqv (show (((w : Nat) : Int) : Int) = 1 from by omega) (q_iload rfl (q_iload rfl hrr)))))) ?_
                                      obtain ⟨_, mm186, pp186, hV186, rfl, hC186⟩ := w_at1 (S := (K, gB X sh nn)) (d := d) (by omega) hC29 (s := sy) (by omega) (i := i) (j := ((j : Nat) : Int)) (by omega)
                                      refine rw_of (fun rr hrr => q_invV hV186 (show SH 1 = (17, 0) from rfl) rfl rfl (okar_cons rfl (okar_cons rfl (okar_cons rfl (okar_cons rfl okar_nil)))) (Nat.le_of_ble_eq_true rfl) (q_goto (t := 1270) rfl hrr)) ?_
                                      refine rw_blk lk_L_isAct_1270 ?_
                                      refine rw_of (fun rr hrr => q_istore (Nat.le_of_ble_eq_true rfl) rfl (q_aload_n rfl (q_iconst (q_iload rfl (q_iload rfl (q_eqv (show (((w : Nat) : Int) : Int) = 1 from by omega) (q_iload rfl (q_iload rfl (q_iload rfl hrr))))))))) ?_
                                      obtain ⟨_, mm187, pp187, K187, _, _, cc187, ss187, hV187, hK187, hKB187, hS187, rfl, hC187, rfl, rfl⟩ := e_setX (w := 1) (i := i) (j := j) (X := X) (K := K) (sh := sh) (nn := nn) (d := d) (by omega) hC186 (s := sy) (by omega) (x := x) (Or.inr (Or.inl ⟨rfl, by omega⟩)) (by omega) (by omega)
                                      have hKB187 : K187 ≤ K + 1 := hKB187
                                      refine rw_of (fun rr hrr => q_invS hV187 rfl rfl (okar_cons rfl (okar_cons rfl (okar_cons rfl (okar_cons rfl (okar_cons rfl (okar_cons rfl (okar_cons rfl okar_nil))))))) (Nat.le_of_ble_eq_true rfl) (q_iload rfl hrr)) ?_
                                      refine rw_if_ne ⟨by omega, by omega⟩ (t := 1298) rfl (fun hc188 => ?_) (fun hc188 => ?_)
                                      · skip
                                        refine rw_blk lk_L_isAct_1298 ?_
                                        refine rw_of (fun rr hrr => q_iload rfl hrr) ?_
                                        refine rw_if_eq ⟨by omega, by omega⟩ (t := 1308) rfl (fun hc189 => ?_) (fun hc189 => ?_)
                                        · skip
                                          refine rw_blk lk_L_isAct_1308 ?_
                                          refine rw_of (fun rr hrr => q_sipush rfl hrr) ?_
                                          refine rw_blk lk_L_isAct_1311 ?_
                                          refine rw_icmp_ne ⟨by omega, by omega⟩ ⟨by omega, by omega⟩ (t := 1353) rfl (fun hc190 => ?_) (fun hc190 => ?_)
                                          · exfalso; omega
                                          · skip
                                            refine rw_of (fun rr hrr => q_iload rfl hrr) ?_
                                            refine rw_if_eq ⟨by omega, by omega⟩ (t := 1349) rfl (fun hc191 => ?_) (fun hc191 => ?_)
                                            · exact absurd hc191 (by decide)
                                            · skip
                                              refine rw_of (fun rr hrr => q_aload_n rfl (q_iload rfl (q_iload rfl (q_eqv (show (((w : Nat) : Int) : Int) = 1 from by omega) (q_iload rfl (q_iload rfl hrr)))))) ?_
                                              obtain ⟨_, mm192, pp192, hV192, rfl, hC192⟩ := w_at1 (S := (K187, gB X sh nn)) (d := d) (by omega) hC187 (s := sy) (by omega) (i := i) (j := ((j : Nat) : Int)) (by omega)
                                              refine rw_of (fun rr hrr => q_invV hV192 (show SH 1 = (17, 0) from rfl) rfl rfl (okar_cons rfl (okar_cons rfl (okar_cons rfl (okar_cons rfl okar_nil)))) (Nat.le_of_ble_eq_true rfl) (q_iload rfl hrr)) ?_
                                              refine rw_if_eq ⟨by omega, by omega⟩ (t := 1344) rfl (fun hc193 => ?_) (fun hc193 => ?_)
                                              · skip
                                                refine rw_blk lk_L_isAct_1344 ?_
                                                refine rw_of (fun rr hrr => q_iload rfl hrr) ?_
                                                refine rw_blk lk_L_isAct_1346 ?_
                                                refine rw_icmp_ne (rg_vF _) (rg_vF _) (t := 1353) rfl (fun hc194 => ?_) (fun hc194 => ?_)
                                                · exfalso; omega
                                                · skip
                                                  refine rw_blk lk_L_isAct_1349 ?_
                                                  refine rw_of (fun rr hrr => q_iconst (q_goto (t := 1354) rfl hrr)) ?_
                                                  refine rw_blk lk_L_isAct_1354 ?_
                                                  refine lw_end hQ (q_ireturn (by omega)) (by omega) (by omega) (FrS_tr (by omega) FrS_rfl hS187) ?_
                                                  exact ⟨rfl, k, cp, ci, N, by omega, (hC192).1, hg0, hg1, hg2, ⟨PP, fun i hi => (show nn rp i = nn rp i from congrFun rfl _).trans (hpp i hi), fun i hi => (hpc i hi).trans (congrFun (hC192).P i).symm⟩, fun i hi => ((show nn ur i = nn ur i from congrFun rfl _).trans (huu i hi)).trans (congrArg vF (congrFun (hC192).U i).symm)⟩
                                              · exact absurd hc193 (by decide)
                                        · exact absurd hc189 (by decide)
                                      · exact absurd hc188 (by decide)
                                  · skip
                                    refine rw_of (fun rr hrr => q_iconst (q_goto (t := 1247) rfl hrr)) ?_
                                    refine rw_blk lk_L_isAct_1247 ?_
                                    refine rw_of (fun rr hrr => q_istore (Nat.le_of_ble_eq_true rfl) rfl (q_iload rfl hrr)) ?_
                                    refine rw_if_eq ⟨by omega, by omega⟩ (t := 1269) rfl (fun hc195 => ?_) (fun hc195 => ?_)
                                    · exact absurd hc195 (by decide)
                                    · skip
                                      refine rw_of (fun rr hrr => q_aload_n rfl (q_iload rfl (q_iload rfl (q_eqv (show (((w : Nat) : Int) : Int) = 1 from by omega) (q_iload rfl (q_iload rfl hrr)))))) ?_
                                      obtain ⟨_, mm196, pp196, hV196, rfl, hC196⟩ := w_at1 (S := (K, gB X sh nn)) (d := d) (by omega) hC29 (s := sy) (by omega) (i := i) (j := ((j : Nat) : Int)) (by omega)
                                      refine rw_of (fun rr hrr => q_invV hV196 (show SH 1 = (17, 0) from rfl) rfl rfl (okar_cons rfl (okar_cons rfl (okar_cons rfl (okar_cons rfl okar_nil)))) (Nat.le_of_ble_eq_true rfl) (q_goto (t := 1270) rfl hrr)) ?_
                                      refine rw_blk lk_L_isAct_1270 ?_
                                      refine rw_of (fun rr hrr => q_istore (Nat.le_of_ble_eq_true rfl) rfl (q_aload_n rfl (q_iconst (q_iload rfl (q_iload rfl (q_eqv (show (((w : Nat) : Int) : Int) = 1 from by omega) (q_iload rfl (q_iload rfl (q_iload rfl hrr))))))))) ?_
                                      obtain ⟨_, mm197, pp197, K197, _, _, cc197, ss197, hV197, hK197, hKB197, hS197, rfl, ⟨⟨hC197, hP197, hU197⟩, hE197⟩, rfl, rfl⟩ := e_set1 (X := X) (K := K) (sh := sh) (nn := nn) (d := d) (by omega) hC196 (s := sy) (by omega) (i := i) (j := ((j : Nat) : Int)) (x := x) (by omega) ⟨by omega, by omega⟩
                                      have hKB197 : K197 ≤ K + 1 := hKB197
                                      refine rw_of (fun rr hrr => q_invS hV197 rfl rfl (okar_cons rfl (okar_cons rfl (okar_cons rfl (okar_cons rfl (okar_cons rfl (okar_cons rfl (okar_cons rfl okar_nil))))))) (Nat.le_of_ble_eq_true rfl) (q_iload rfl hrr)) ?_
                                      refine rw_if_ne ⟨by omega, by omega⟩ (t := 1298) rfl (fun hc198 => ?_) (fun hc198 => ?_)
                                      · skip
                                        refine rw_blk lk_L_isAct_1298 ?_
                                        refine rw_of (fun rr hrr => q_iload rfl hrr) ?_
                                        refine rw_if_eq ⟨by omega, by omega⟩ (t := 1308) rfl (fun hc199 => ?_) (fun hc199 => ?_)
                                        · exact absurd hc199 (by decide)
                                        · skip
                                          refine rw_of (fun rr hrr => q_iload rfl (q_goto (t := 1311) rfl hrr)) ?_
                                          refine rw_blk lk_L_isAct_1311 ?_
                                          refine rw_icmp_ne (rg_vF _) (rg_vF _) (t := 1353) rfl (fun hc200 => ?_) (fun hc200 => ?_)
                                          · exfalso; omega
                                          · skip
                                            refine rw_of (fun rr hrr => q_iload rfl hrr) ?_
                                            refine rw_if_eq ⟨by omega, by omega⟩ (t := 1349) rfl (fun hc201 => ?_) (fun hc201 => ?_)
                                            · exact absurd hc201 (by decide)
                                            · skip
                                              refine rw_of (fun rr hrr => q_aload_n rfl (q_iload rfl (q_iload rfl (q_eqv (show (((w : Nat) : Int) : Int) = 1 from by omega) (q_iload rfl (q_iload rfl hrr)))))) ?_
                                              obtain ⟨_, mm202, pp202, hV202, rfl, hC202⟩ := w_at1 (S := (K197, gB X sh nn)) (d := d) (by omega) hC197 (s := sy) (by omega) (i := i) (j := ((j : Nat) : Int)) (by omega)
                                              refine rw_of (fun rr hrr => q_invV hV202 (show SH 1 = (17, 0) from rfl) rfl rfl (okar_cons rfl (okar_cons rfl (okar_cons rfl (okar_cons rfl okar_nil)))) (Nat.le_of_ble_eq_true rfl) (q_iload rfl hrr)) ?_
                                              refine rw_if_eq ⟨by omega, by omega⟩ (t := 1344) rfl (fun hc203 => ?_) (fun hc203 => ?_)
                                              · exact absurd hc203 (by decide)
                                              · skip
                                                refine rw_of (fun rr hrr => q_iload rfl hrr) ?_
                                                obtain ⟨_, _, _, hV204, rfl, rfl, rfl⟩ := c_L_rest (S := (K197, gB X sh nn)) (fz := false) (m := mm202) (p := pp202) (d := d) (by omega) (x) ((toF x)) ⟨by omega, by omega⟩ (by simp only [toF_add, toF_mul, toF_sub, toF_neg, toF_vF, toF_nat, toF_0, toF_1, toF_M, F_add0, F_0sub])
                                                refine rw_of (fun rr hrr => q_invS hV204 rfl rfl (okar_cons rfl okar_nil) (Nat.le_of_ble_eq_true rfl) (q_goto (t := 1346) rfl hrr)) ?_
                                                refine rw_blk lk_L_isAct_1346 ?_
                                                refine rw_icmp_ne (rg_vF _) (rg_vF _) (t := 1353) rfl (fun hc205 => ?_) (fun hc205 => ?_)
                                                · refine absurd (congrArg vF ?_) hc205
                                                  exact hE197
                                                · skip
                                                  refine rw_blk lk_L_isAct_1349 ?_
                                                  refine rw_of (fun rr hrr => q_iconst (q_goto (t := 1354) rfl hrr)) ?_
                                                  refine rw_blk lk_L_isAct_1354 ?_
                                                  refine lw_end hQ (q_ireturn (by omega)) (by omega) (by omega) (FrS_tr (by omega) FrS_rfl hS197) ?_
                                                  exact ⟨rfl, k, cp, ci, N, by omega, (hC202).1, hg0, hg1, hg2, ⟨PP, fun i hi => (show nn rp i = nn rp i from congrFun rfl _).trans (hpp i hi), fun i hi => (hpc i hi).trans (congrFun ((hC202).P.trans hP197) i).symm⟩, fun i hi => ((show nn ur i = nn ur i from congrFun rfl _).trans (huu i hi)).trans (congrArg vF (congrFun ((hC202).U.trans hU197) i).symm)⟩
                                      · exact absurd hc198 (by decide)
                              refine rw_if_ne ⟨by omega, by omega⟩ (t := 1214) rfl (fun hc206 => ?_) (fun hc206 => ?_)
                              · skip
                                refine rw_blk lk_L_isAct_1214 ?_
                                refine rw_of (fun rr hrr => q_iload rfl (q_bipush rfl (q_idiv ⟨by omega, by omega⟩ ⟨by omega, by omega⟩ (by omega) (show (((one : Nat) : Int)).tdiv (65) = ((one / 65 : Nat) : Int) by rfl) (q_bipush rfl (q_irem ⟨by omega, by omega⟩ ⟨by omega, by omega⟩ (by omega) (show (((one / 65 : Nat) : Int)).tmod (9) = (((one / 65) % 9 : Nat) : Int) by rfl) (q_iconst (q_isub hrr))))))) ?_
                                have hA207 : -10007 ≤ (((((one / 65) % 9 : Nat) : Int) - 4)) ∧ (((((one / 65) % 9 : Nat) : Int) - 4)) ≤ 10007 := by
                                  omega
                                exact rw_casts (hL1224 _ _ (((((one / 65) % 9 : Nat) : Int) - 4)) hA207) rfl rfl
                              · skip
                                refine rw_of (fun rr hrr => q_iload rfl (q_sipush rfl (q_irem ⟨by omega, by omega⟩ ⟨by omega, by omega⟩ (by omega) (show (((two : Nat) : Int)).tmod (20015) = ((two % 20015 : Nat) : Int) by rfl) (q_sipush rfl (q_isub (q_goto (t := 1224) rfl hrr)))))) ?_
                                have hA208 : -10007 ≤ ((((two % 20015 : Nat) : Int) - 10007)) ∧ ((((two % 20015 : Nat) : Int) - 10007)) ≤ 10007 := by
                                  omega
                                exact rw_casts (hL1224 _ _ ((((two % 20015 : Nat) : Int) - 10007)) hA208) rfl rfl
                            · skip
                              refine rw_of (fun rr hrr => q_iload rfl (q_iload rfl hrr)) ?_
                              refine rw_icmp_ge ⟨by omega, by omega⟩ ⟨by omega, by omega⟩ (t := 1191) rfl (fun hc209 => ?_) (fun hc209 => ?_)
                              · skip
                                refine rw_blk lk_L_isAct_1191 ?_
                                refine rw_of (fun rr hrr => q_iconst hrr) ?_
                                refine rw_blk lk_L_isAct_1192 ?_
                                refine rw_of (fun rr hrr => q_istore (Nat.le_of_ble_eq_true rfl) rfl (q_iload rfl (q_iconst (q_irem ⟨by omega, by omega⟩ ⟨by omega, by omega⟩ (by omega) (show (((one : Nat) : Int)).tmod (3) = ((one % 3 : Nat) : Int) by rfl) hrr)))) ?_
                                have hL1224 : ∀ (cc ss : Nat) (x : Int), ((-10007 ≤ x ∧ x ≤ 10007)) → Rw (Ev d) k_L_isAct (1224, [], [some (.ref (1)), some (.ref (rp)), some (.ref (ur)), some (.ref (gg)), some (.int (iI (9))), some (.int (iI (((one : Nat) : Int)))), some (.int (iI (((two : Nat) : Int)))), some (.int (iI (((sy : Nat) : Int)))), some (.int (iI (((ot : Nat) : Int)))), some (.int (iI (((N sy : Nat) : Int)))), some (.int (iI (((w : Nat) : Int)))), some (.int (iI (((i : Nat) : Int)))), some (.int (iI (((j : Nat) : Int)))), some (.int (iI (0))), none, none, none], [.int (iI (x))], hB X mm29 pp29 K sh nn, cc, ss) Qr := by
                                  intro cc ss x
                                  intro hI
                                  have hx := hI
                                  refine rw_blk lk_L_isAct_1224 ?_
                                  refine rw_of (fun rr hrr => q_istore (Nat.le_of_ble_eq_true rfl) rfl (q_iload rfl (q_sipush rfl hrr))) ?_
                                  refine rw_icmp_le ⟨by omega, by omega⟩ ⟨by omega, by omega⟩ (t := 1246) rfl (fun hc210 => ?_) (fun hc210 => ?_)
                                  · skip
                                    refine rw_blk lk_L_isAct_1246 ?_
                                    refine rw_of (fun rr hrr => q_iconst hrr) ?_
                                    refine rw_blk lk_L_isAct_1247 ?_
                                    refine rw_of (fun rr hrr => q_istore (Nat.le_of_ble_eq_true rfl) rfl (q_iload rfl hrr)) ?_
                                    refine rw_if_eq ⟨by omega, by omega⟩ (t := 1269) rfl (fun hc211 => ?_) (fun hc211 => ?_)
                                    · skip
                                      refine rw_blk lk_L_isAct_1269 ?_
                                      refine rw_of (fun rr hrr => q_iconst hrr) ?_
                                      refine rw_blk lk_L_isAct_1270 ?_
                                      refine rw_of (fun rr hrr => q_istore (Nat.le_of_ble_eq_true rfl) rfl (q_aload_n rfl (q_iconst (q_iload rfl (q_iload rfl (q_iload rfl (q_iload rfl (q_iload rfl hrr)))))))) ?_
                                      obtain ⟨_, mm212, pp212, K212, _, _, cc212, ss212, hV212, hK212, hKB212, hS212, rfl, hC212, rfl, rfl⟩ := e_setP (w := w) (i := i) (j := j) (s := sy) (X := X) (K := K) (sh := sh) (nn := nn) (d := d) (by omega) hC29 (x := x) (by omega) (by omega)
                                      have hKB212 : K212 ≤ K + 1 := hKB212
                                      refine rw_of (fun rr hrr => q_invS hV212 rfl rfl (okar_cons rfl (okar_cons rfl (okar_cons rfl (okar_cons rfl (okar_cons rfl (okar_cons rfl (okar_cons rfl okar_nil))))))) (Nat.le_of_ble_eq_true rfl) (q_iload rfl hrr)) ?_
                                      refine rw_if_ne ⟨by omega, by omega⟩ (t := 1298) rfl (fun hc213 => ?_) (fun hc213 => ?_)
                                      · exact absurd hc213 (by decide)
                                      · skip
                                        refine rw_of (fun rr hrr => q_sipush rfl (q_goto (t := 1311) rfl hrr)) ?_
                                        refine rw_blk lk_L_isAct_1311 ?_
                                        refine rw_icmp_ne ⟨by omega, by omega⟩ ⟨by omega, by omega⟩ (t := 1353) rfl (fun hc214 => ?_) (fun hc214 => ?_)
                                        · exfalso; omega
                                        · skip
                                          refine rw_of (fun rr hrr => q_iload rfl hrr) ?_
                                          refine rw_if_eq ⟨by omega, by omega⟩ (t := 1349) rfl (fun hc215 => ?_) (fun hc215 => ?_)
                                          · skip
                                            refine rw_blk lk_L_isAct_1349 ?_
                                            refine rw_of (fun rr hrr => q_iconst (q_goto (t := 1354) rfl hrr)) ?_
                                            refine rw_blk lk_L_isAct_1354 ?_
                                            refine lw_end hQ (q_ireturn (by omega)) (by omega) (by omega) (FrS_tr (by omega) FrS_rfl hS212) ?_
                                            exact ⟨rfl, k, cp, ci, N, by omega, (hC212).1, hg0, hg1, hg2, ⟨PP, fun i hi => (show nn rp i = nn rp i from congrFun rfl _).trans (hpp i hi), fun i hi => (hpc i hi).trans (congrFun (hC212).P i).symm⟩, fun i hi => ((show nn ur i = nn ur i from congrFun rfl _).trans (huu i hi)).trans (congrArg vF (congrFun (hC212).U i).symm)⟩
                                          · exact absurd hc215 (by decide)
                                    · exact absurd hc211 (by decide)
                                  · skip
                                    refine rw_of (fun rr hrr => q_iload rfl (q_sipush rfl hrr)) ?_
                                    refine rw_icmp_ge ⟨by omega, by omega⟩ ⟨by omega, by omega⟩ (t := 1246) rfl (fun hc216 => ?_) (fun hc216 => ?_)
                                    · skip
                                      refine rw_blk lk_L_isAct_1246 ?_
                                      refine rw_of (fun rr hrr => q_iconst hrr) ?_
                                      refine rw_blk lk_L_isAct_1247 ?_
                                      refine rw_of (fun rr hrr => q_istore (Nat.le_of_ble_eq_true rfl) rfl (q_iload rfl hrr)) ?_
                                      refine rw_if_eq ⟨by omega, by omega⟩ (t := 1269) rfl (fun hc217 => ?_) (fun hc217 => ?_)
                                      · skip
                                        refine rw_blk lk_L_isAct_1269 ?_
                                        refine rw_of (fun rr hrr => q_iconst hrr) ?_
                                        refine rw_blk lk_L_isAct_1270 ?_
                                        refine rw_of (fun rr hrr => q_istore (Nat.le_of_ble_eq_true rfl) rfl (q_aload_n rfl (q_iconst (q_iload rfl (q_iload rfl (q_iload rfl (q_iload rfl (q_iload rfl hrr)))))))) ?_
                                        obtain ⟨_, mm218, pp218, K218, _, _, cc218, ss218, hV218, hK218, hKB218, hS218, rfl, hC218, rfl, rfl⟩ := e_setP (w := w) (i := i) (j := j) (s := sy) (X := X) (K := K) (sh := sh) (nn := nn) (d := d) (by omega) hC29 (x := x) (by omega) (by omega)
                                        have hKB218 : K218 ≤ K + 1 := hKB218
                                        refine rw_of (fun rr hrr => q_invS hV218 rfl rfl (okar_cons rfl (okar_cons rfl (okar_cons rfl (okar_cons rfl (okar_cons rfl (okar_cons rfl (okar_cons rfl okar_nil))))))) (Nat.le_of_ble_eq_true rfl) (q_iload rfl hrr)) ?_
                                        refine rw_if_ne ⟨by omega, by omega⟩ (t := 1298) rfl (fun hc219 => ?_) (fun hc219 => ?_)
                                        · exact absurd hc219 (by decide)
                                        · skip
                                          refine rw_of (fun rr hrr => q_sipush rfl (q_goto (t := 1311) rfl hrr)) ?_
                                          refine rw_blk lk_L_isAct_1311 ?_
                                          refine rw_icmp_ne ⟨by omega, by omega⟩ ⟨by omega, by omega⟩ (t := 1353) rfl (fun hc220 => ?_) (fun hc220 => ?_)
                                          · exfalso; omega
                                          · skip
                                            refine rw_of (fun rr hrr => q_iload rfl hrr) ?_
                                            refine rw_if_eq ⟨by omega, by omega⟩ (t := 1349) rfl (fun hc221 => ?_) (fun hc221 => ?_)
                                            · skip
                                              refine rw_blk lk_L_isAct_1349 ?_
                                              refine rw_of (fun rr hrr => q_iconst (q_goto (t := 1354) rfl hrr)) ?_
                                              refine rw_blk lk_L_isAct_1354 ?_
                                              refine lw_end hQ (q_ireturn (by omega)) (by omega) (by omega) (FrS_tr (by omega) FrS_rfl hS218) ?_
                                              exact ⟨rfl, k, cp, ci, N, by omega, (hC218).1, hg0, hg1, hg2, ⟨PP, fun i hi => (show nn rp i = nn rp i from congrFun rfl _).trans (hpp i hi), fun i hi => (hpc i hi).trans (congrFun (hC218).P i).symm⟩, fun i hi => ((show nn ur i = nn ur i from congrFun rfl _).trans (huu i hi)).trans (congrArg vF (congrFun (hC218).U i).symm)⟩
                                            · exact absurd hc221 (by decide)
                                      · exact absurd hc217 (by decide)
                                    · skip
                                      refine rw_of (fun rr hrr => q_iconst (q_goto (t := 1247) rfl hrr)) ?_
                                      refine rw_blk lk_L_isAct_1247 ?_
                                      refine rw_of (fun rr hrr => q_istore (Nat.le_of_ble_eq_true rfl) rfl (q_iload rfl hrr)) ?_
                                      refine rw_if_eq ⟨by omega, by omega⟩ (t := 1269) rfl (fun hc222 => ?_) (fun hc222 => ?_)
                                      · skip
                                        refine rw_blk lk_L_isAct_1269 ?_
                                        refine rw_of (fun rr hrr => q_iconst hrr) ?_
                                        refine rw_blk lk_L_isAct_1270 ?_
                                        refine rw_of (fun rr hrr => q_istore (Nat.le_of_ble_eq_true rfl) rfl (q_aload_n rfl (q_iconst (q_iload rfl (q_iload rfl (q_iload rfl (q_iload rfl (q_iload rfl hrr)))))))) ?_
                                        obtain ⟨_, mm223, pp223, K223, _, _, cc223, ss223, hV223, hK223, hKB223, hS223, rfl, hC223, rfl, rfl⟩ := e_setP (w := w) (i := i) (j := j) (s := sy) (X := X) (K := K) (sh := sh) (nn := nn) (d := d) (by omega) hC29 (x := x) (by omega) (by omega)
                                        have hKB223 : K223 ≤ K + 1 := hKB223
                                        refine rw_of (fun rr hrr => q_invS hV223 rfl rfl (okar_cons rfl (okar_cons rfl (okar_cons rfl (okar_cons rfl (okar_cons rfl (okar_cons rfl (okar_cons rfl okar_nil))))))) (Nat.le_of_ble_eq_true rfl) (q_iload rfl hrr)) ?_
                                        refine rw_if_ne ⟨by omega, by omega⟩ (t := 1298) rfl (fun hc224 => ?_) (fun hc224 => ?_)
                                        · exact absurd hc224 (by decide)
                                        · skip
                                          refine rw_of (fun rr hrr => q_sipush rfl (q_goto (t := 1311) rfl hrr)) ?_
                                          refine rw_blk lk_L_isAct_1311 ?_
                                          refine rw_icmp_ne ⟨by omega, by omega⟩ ⟨by omega, by omega⟩ (t := 1353) rfl (fun hc225 => ?_) (fun hc225 => ?_)
                                          · exfalso; omega
                                          · skip
                                            refine rw_of (fun rr hrr => q_iload rfl hrr) ?_
                                            refine rw_if_eq ⟨by omega, by omega⟩ (t := 1349) rfl (fun hc226 => ?_) (fun hc226 => ?_)
                                            · skip
                                              refine rw_blk lk_L_isAct_1349 ?_
                                              refine rw_of (fun rr hrr => q_iconst (q_goto (t := 1354) rfl hrr)) ?_
                                              refine rw_blk lk_L_isAct_1354 ?_
                                              refine lw_end hQ (q_ireturn (by omega)) (by omega) (by omega) (FrS_tr (by omega) FrS_rfl hS223) ?_
                                              exact ⟨rfl, k, cp, ci, N, by omega, (hC223).1, hg0, hg1, hg2, ⟨PP, fun i hi => (show nn rp i = nn rp i from congrFun rfl _).trans (hpp i hi), fun i hi => (hpc i hi).trans (congrFun (hC223).P i).symm⟩, fun i hi => ((show nn ur i = nn ur i from congrFun rfl _).trans (huu i hi)).trans (congrArg vF (congrFun (hC223).U i).symm)⟩
                                            · exact absurd hc226 (by decide)
                                      · exact absurd hc222 (by decide)
                                refine rw_if_ne ⟨by omega, by omega⟩ (t := 1214) rfl (fun hc227 => ?_) (fun hc227 => ?_)
                                · skip
                                  refine rw_blk lk_L_isAct_1214 ?_
                                  refine rw_of (fun rr hrr => q_iload rfl (q_bipush rfl (q_idiv ⟨by omega, by omega⟩ ⟨by omega, by omega⟩ (by omega) (show (((one : Nat) : Int)).tdiv (65) = ((one / 65 : Nat) : Int) by rfl) (q_bipush rfl (q_irem ⟨by omega, by omega⟩ ⟨by omega, by omega⟩ (by omega) (show (((one / 65 : Nat) : Int)).tmod (9) = (((one / 65) % 9 : Nat) : Int) by rfl) (q_iconst (q_isub hrr))))))) ?_
                                  have hA228 : -10007 ≤ (((((one / 65) % 9 : Nat) : Int) - 4)) ∧ (((((one / 65) % 9 : Nat) : Int) - 4)) ≤ 10007 := by
                                    omega
                                  exact rw_casts (hL1224 _ _ (((((one / 65) % 9 : Nat) : Int) - 4)) hA228) rfl rfl
                                · skip
                                  refine rw_of (fun rr hrr => q_iload rfl (q_sipush rfl (q_irem ⟨by omega, by omega⟩ ⟨by omega, by omega⟩ (by omega) (show (((two : Nat) : Int)).tmod (20015) = ((two % 20015 : Nat) : Int) by rfl) (q_sipush rfl (q_isub (q_goto (t := 1224) rfl hrr)))))) ?_
                                  have hA229 : -10007 ≤ ((((two % 20015 : Nat) : Int) - 10007)) ∧ ((((two % 20015 : Nat) : Int) - 10007)) ≤ 10007 := by
                                    omega
                                  exact rw_casts (hL1224 _ _ ((((two % 20015 : Nat) : Int) - 10007)) hA229) rfl rfl
                              · skip
                                refine rw_blk lk_L_isAct_1187 ?_
                                refine rw_of (fun rr hrr => q_iconst (q_goto (t := 1192) rfl hrr)) ?_
                                refine rw_blk lk_L_isAct_1192 ?_
                                refine rw_of (fun rr hrr => q_istore (Nat.le_of_ble_eq_true rfl) rfl (q_iload rfl (q_iconst (q_irem ⟨by omega, by omega⟩ ⟨by omega, by omega⟩ (by omega) (show (((one : Nat) : Int)).tmod (3) = ((one % 3 : Nat) : Int) by rfl) hrr)))) ?_
                                have hL1224 : ∀ (cc ss : Nat) (x : Int), ((-10007 ≤ x ∧ x ≤ 10007)) → Rw (Ev d) k_L_isAct (1224, [], [some (.ref (1)), some (.ref (rp)), some (.ref (ur)), some (.ref (gg)), some (.int (iI (9))), some (.int (iI (((one : Nat) : Int)))), some (.int (iI (((two : Nat) : Int)))), some (.int (iI (((sy : Nat) : Int)))), some (.int (iI (((ot : Nat) : Int)))), some (.int (iI (((N sy : Nat) : Int)))), some (.int (iI (((w : Nat) : Int)))), some (.int (iI (((i : Nat) : Int)))), some (.int (iI (((j : Nat) : Int)))), some (.int (iI (1))), none, none, none], [.int (iI (x))], hB X mm29 pp29 K sh nn, cc, ss) Qr := by
                                  intro cc ss x
                                  intro hI
                                  have hx := hI
                                  refine rw_blk lk_L_isAct_1224 ?_
                                  refine rw_of (fun rr hrr => q_istore (Nat.le_of_ble_eq_true rfl) rfl (q_iload rfl (q_sipush rfl hrr))) ?_
                                  refine rw_icmp_le ⟨by omega, by omega⟩ ⟨by omega, by omega⟩ (t := 1246) rfl (fun hc230 => ?_) (fun hc230 => ?_)
                                  · skip
                                    refine rw_blk lk_L_isAct_1246 ?_
                                    refine rw_of (fun rr hrr => q_iconst hrr) ?_
                                    refine rw_blk lk_L_isAct_1247 ?_
                                    refine rw_of (fun rr hrr => q_istore (Nat.le_of_ble_eq_true rfl) rfl (q_iload rfl hrr)) ?_
                                    refine rw_if_eq ⟨by omega, by omega⟩ (t := 1269) rfl (fun hc231 => ?_) (fun hc231 => ?_)
                                    · exact absurd hc231 (by decide)
                                    · skip
                                      refine rw_of (fun rr hrr => q_aload_n rfl (q_iload rfl (q_iload rfl (q_eqv (show (((w : Nat) : Int) : Int) = 0 from by omega) (q_iload rfl (q_iload rfl hrr)))))) ?_
                                      obtain ⟨_, mm232, pp232, hV232, rfl, hC232⟩ := w_at0 (S := (K, gB X sh nn)) (d := d) (by omega) hC29 (s := sy) (by omega) (i := i) (j := j) (by omega) (by omega)
                                      refine rw_of (fun rr hrr => q_invV hV232 (show SH 1 = (17, 0) from rfl) rfl rfl (okar_cons rfl (okar_cons rfl (okar_cons rfl (okar_cons rfl okar_nil)))) (Nat.le_of_ble_eq_true rfl) (q_goto (t := 1270) rfl hrr)) ?_
                                      refine rw_blk lk_L_isAct_1270 ?_
                                      refine rw_of (fun rr hrr => q_istore (Nat.le_of_ble_eq_true rfl) rfl (q_aload_n rfl (q_iconst (q_iload rfl (q_iload rfl (q_eqv (show (((w : Nat) : Int) : Int) = 0 from by omega) (q_iload rfl (q_iload rfl (q_iload rfl hrr))))))))) ?_
                                      obtain ⟨_, mm233, pp233, K233, _, _, cc233, ss233, hV233, hK233, hKB233, hS233, rfl, hC233, rfl, rfl⟩ := e_setX (w := 0) (i := i) (j := j) (X := X) (K := K) (sh := sh) (nn := nn) (d := d) (by omega) hC232 (s := sy) (by omega) (x := x) (Or.inl ⟨rfl, by omega, by omega⟩) (by omega) (by omega)
                                      have hKB233 : K233 ≤ K + 1 := hKB233
                                      refine rw_of (fun rr hrr => q_invS hV233 rfl rfl (okar_cons rfl (okar_cons rfl (okar_cons rfl (okar_cons rfl (okar_cons rfl (okar_cons rfl (okar_cons rfl okar_nil))))))) (Nat.le_of_ble_eq_true rfl) (q_iload rfl hrr)) ?_
                                      refine rw_if_ne ⟨by omega, by omega⟩ (t := 1298) rfl (fun hc234 => ?_) (fun hc234 => ?_)
                                      · skip
                                        refine rw_blk lk_L_isAct_1298 ?_
                                        refine rw_of (fun rr hrr => q_iload rfl hrr) ?_
                                        refine rw_if_eq ⟨by omega, by omega⟩ (t := 1308) rfl (fun hc235 => ?_) (fun hc235 => ?_)
                                        · skip
                                          refine rw_blk lk_L_isAct_1308 ?_
                                          refine rw_of (fun rr hrr => q_sipush rfl hrr) ?_
                                          refine rw_blk lk_L_isAct_1311 ?_
                                          refine rw_icmp_ne ⟨by omega, by omega⟩ ⟨by omega, by omega⟩ (t := 1353) rfl (fun hc236 => ?_) (fun hc236 => ?_)
                                          · exfalso; omega
                                          · skip
                                            refine rw_of (fun rr hrr => q_iload rfl hrr) ?_
                                            refine rw_if_eq ⟨by omega, by omega⟩ (t := 1349) rfl (fun hc237 => ?_) (fun hc237 => ?_)
                                            · exact absurd hc237 (by decide)
                                            · skip
                                              refine rw_of (fun rr hrr => q_aload_n rfl (q_iload rfl (q_iload rfl (q_eqv (show (((w : Nat) : Int) : Int) = 0 from by omega) (q_iload rfl (q_iload rfl hrr)))))) ?_
                                              obtain ⟨_, mm238, pp238, hV238, rfl, hC238⟩ := w_at0 (S := (K233, gB X sh nn)) (d := d) (by omega) hC233 (s := sy) (by omega) (i := i) (j := j) (by omega) (by omega)
                                              refine rw_of (fun rr hrr => q_invV hV238 (show SH 1 = (17, 0) from rfl) rfl rfl (okar_cons rfl (okar_cons rfl (okar_cons rfl (okar_cons rfl okar_nil)))) (Nat.le_of_ble_eq_true rfl) (q_iload rfl hrr)) ?_
                                              refine rw_if_eq ⟨by omega, by omega⟩ (t := 1344) rfl (fun hc239 => ?_) (fun hc239 => ?_)
                                              · skip
                                                refine rw_blk lk_L_isAct_1344 ?_
                                                refine rw_of (fun rr hrr => q_iload rfl hrr) ?_
                                                refine rw_blk lk_L_isAct_1346 ?_
                                                refine rw_icmp_ne (rg_vF _) (rg_vF _) (t := 1353) rfl (fun hc240 => ?_) (fun hc240 => ?_)
                                                · exfalso; omega
                                                · skip
                                                  refine rw_blk lk_L_isAct_1349 ?_
                                                  refine rw_of (fun rr hrr => q_iconst (q_goto (t := 1354) rfl hrr)) ?_
                                                  refine rw_blk lk_L_isAct_1354 ?_
                                                  refine lw_end hQ (q_ireturn (by omega)) (by omega) (by omega) (FrS_tr (by omega) FrS_rfl hS233) ?_
                                                  exact ⟨rfl, k, cp, ci, N, by omega, (hC238).1, hg0, hg1, hg2, ⟨PP, fun i hi => (show nn rp i = nn rp i from congrFun rfl _).trans (hpp i hi), fun i hi => (hpc i hi).trans (congrFun (hC238).P i).symm⟩, fun i hi => ((show nn ur i = nn ur i from congrFun rfl _).trans (huu i hi)).trans (congrArg vF (congrFun (hC238).U i).symm)⟩
                                              · exact absurd hc239 (by decide)
                                        · exact absurd hc235 (by decide)
                                      · exact absurd hc234 (by decide)
                                  · skip
                                    refine rw_of (fun rr hrr => q_iload rfl (q_sipush rfl hrr)) ?_
                                    refine rw_icmp_ge ⟨by omega, by omega⟩ ⟨by omega, by omega⟩ (t := 1246) rfl (fun hc241 => ?_) (fun hc241 => ?_)
                                    · skip
                                      refine rw_blk lk_L_isAct_1246 ?_
                                      refine rw_of (fun rr hrr => q_iconst hrr) ?_
                                      refine rw_blk lk_L_isAct_1247 ?_
                                      refine rw_of (fun rr hrr => q_istore (Nat.le_of_ble_eq_true rfl) rfl (q_iload rfl hrr)) ?_
                                      refine rw_if_eq ⟨by omega, by omega⟩ (t := 1269) rfl (fun hc242 => ?_) (fun hc242 => ?_)
                                      · exact absurd hc242 (by decide)
                                      · skip
                                        refine rw_of (fun rr hrr => q_aload_n rfl (q_iload rfl (q_iload rfl (q_eqv (show (((w : Nat) : Int) : Int) = 0 from by omega) (q_iload rfl (q_iload rfl hrr)))))) ?_
                                        obtain ⟨_, mm243, pp243, hV243, rfl, hC243⟩ := w_at0 (S := (K, gB X sh nn)) (d := d) (by omega) hC29 (s := sy) (by omega) (i := i) (j := j) (by omega) (by omega)
                                        refine rw_of (fun rr hrr => q_invV hV243 (show SH 1 = (17, 0) from rfl) rfl rfl (okar_cons rfl (okar_cons rfl (okar_cons rfl (okar_cons rfl okar_nil)))) (Nat.le_of_ble_eq_true rfl) (q_goto (t := 1270) rfl hrr)) ?_
                                        refine rw_blk lk_L_isAct_1270 ?_
                                        refine rw_of (fun rr hrr => q_istore (Nat.le_of_ble_eq_true rfl) rfl (q_aload_n rfl (q_iconst (q_iload rfl (q_iload rfl (q_eqv (show (((w : Nat) : Int) : Int) = 0 from by omega) (q_iload rfl (q_iload rfl (q_iload rfl hrr))))))))) ?_
                                        obtain ⟨_, mm244, pp244, K244, _, _, cc244, ss244, hV244, hK244, hKB244, hS244, rfl, hC244, rfl, rfl⟩ := e_setX (w := 0) (i := i) (j := j) (X := X) (K := K) (sh := sh) (nn := nn) (d := d) (by omega) hC243 (s := sy) (by omega) (x := x) (Or.inl ⟨rfl, by omega, by omega⟩) (by omega) (by omega)
                                        have hKB244 : K244 ≤ K + 1 := hKB244
                                        refine rw_of (fun rr hrr => q_invS hV244 rfl rfl (okar_cons rfl (okar_cons rfl (okar_cons rfl (okar_cons rfl (okar_cons rfl (okar_cons rfl (okar_cons rfl okar_nil))))))) (Nat.le_of_ble_eq_true rfl) (q_iload rfl hrr)) ?_
                                        refine rw_if_ne ⟨by omega, by omega⟩ (t := 1298) rfl (fun hc245 => ?_) (fun hc245 => ?_)
                                        · skip
                                          refine rw_blk lk_L_isAct_1298 ?_
                                          refine rw_of (fun rr hrr => q_iload rfl hrr) ?_
                                          refine rw_if_eq ⟨by omega, by omega⟩ (t := 1308) rfl (fun hc246 => ?_) (fun hc246 => ?_)
                                          · skip
                                            refine rw_blk lk_L_isAct_1308 ?_
                                            refine rw_of (fun rr hrr => q_sipush rfl hrr) ?_
                                            refine rw_blk lk_L_isAct_1311 ?_
                                            refine rw_icmp_ne ⟨by omega, by omega⟩ ⟨by omega, by omega⟩ (t := 1353) rfl (fun hc247 => ?_) (fun hc247 => ?_)
                                            · exfalso; omega
                                            · skip
                                              refine rw_of (fun rr hrr => q_iload rfl hrr) ?_
                                              refine rw_if_eq ⟨by omega, by omega⟩ (t := 1349) rfl (fun hc248 => ?_) (fun hc248 => ?_)
                                              · exact absurd hc248 (by decide)
                                              · skip
                                                refine rw_of (fun rr hrr => q_aload_n rfl (q_iload rfl (q_iload rfl (q_eqv (show (((w : Nat) : Int) : Int) = 0 from by omega) (q_iload rfl (q_iload rfl hrr)))))) ?_
                                                obtain ⟨_, mm249, pp249, hV249, rfl, hC249⟩ := w_at0 (S := (K244, gB X sh nn)) (d := d) (by omega) hC244 (s := sy) (by omega) (i := i) (j := j) (by omega) (by omega)
                                                refine rw_of (fun rr hrr => q_invV hV249 (show SH 1 = (17, 0) from rfl) rfl rfl (okar_cons rfl (okar_cons rfl (okar_cons rfl (okar_cons rfl okar_nil)))) (Nat.le_of_ble_eq_true rfl) (q_iload rfl hrr)) ?_
                                                refine rw_if_eq ⟨by omega, by omega⟩ (t := 1344) rfl (fun hc250 => ?_) (fun hc250 => ?_)
                                                · skip
                                                  refine rw_blk lk_L_isAct_1344 ?_
                                                  refine rw_of (fun rr hrr => q_iload rfl hrr) ?_
                                                  refine rw_blk lk_L_isAct_1346 ?_
                                                  refine rw_icmp_ne (rg_vF _) (rg_vF _) (t := 1353) rfl (fun hc251 => ?_) (fun hc251 => ?_)
                                                  · exfalso; omega
                                                  · skip
                                                    refine rw_blk lk_L_isAct_1349 ?_
                                                    refine rw_of (fun rr hrr => q_iconst (q_goto (t := 1354) rfl hrr)) ?_
                                                    refine rw_blk lk_L_isAct_1354 ?_
                                                    refine lw_end hQ (q_ireturn (by omega)) (by omega) (by omega) (FrS_tr (by omega) FrS_rfl hS244) ?_
                                                    exact ⟨rfl, k, cp, ci, N, by omega, (hC249).1, hg0, hg1, hg2, ⟨PP, fun i hi => (show nn rp i = nn rp i from congrFun rfl _).trans (hpp i hi), fun i hi => (hpc i hi).trans (congrFun (hC249).P i).symm⟩, fun i hi => ((show nn ur i = nn ur i from congrFun rfl _).trans (huu i hi)).trans (congrArg vF (congrFun (hC249).U i).symm)⟩
                                                · exact absurd hc250 (by decide)
                                          · exact absurd hc246 (by decide)
                                        · exact absurd hc245 (by decide)
                                    · skip
                                      refine rw_of (fun rr hrr => q_iconst (q_goto (t := 1247) rfl hrr)) ?_
                                      refine rw_blk lk_L_isAct_1247 ?_
                                      refine rw_of (fun rr hrr => q_istore (Nat.le_of_ble_eq_true rfl) rfl (q_iload rfl hrr)) ?_
                                      refine rw_if_eq ⟨by omega, by omega⟩ (t := 1269) rfl (fun hc252 => ?_) (fun hc252 => ?_)
                                      · exact absurd hc252 (by decide)
                                      · skip
                                        refine rw_of (fun rr hrr => q_aload_n rfl (q_iload rfl (q_iload rfl (q_eqv (show (((w : Nat) : Int) : Int) = 0 from by omega) (q_iload rfl (q_iload rfl hrr)))))) ?_
                                        obtain ⟨_, mm253, pp253, hV253, rfl, hC253⟩ := w_at0 (S := (K, gB X sh nn)) (d := d) (by omega) hC29 (s := sy) (by omega) (i := i) (j := j) (by omega) (by omega)
                                        refine rw_of (fun rr hrr => q_invV hV253 (show SH 1 = (17, 0) from rfl) rfl rfl (okar_cons rfl (okar_cons rfl (okar_cons rfl (okar_cons rfl okar_nil)))) (Nat.le_of_ble_eq_true rfl) (q_goto (t := 1270) rfl hrr)) ?_
                                        refine rw_blk lk_L_isAct_1270 ?_
                                        refine rw_of (fun rr hrr => q_istore (Nat.le_of_ble_eq_true rfl) rfl (q_aload_n rfl (q_iconst (q_iload rfl (q_iload rfl (q_eqv (show (((w : Nat) : Int) : Int) = 0 from by omega) (q_iload rfl (q_iload rfl (q_iload rfl hrr))))))))) ?_
                                        obtain ⟨_, mm254, pp254, K254, _, _, cc254, ss254, hV254, hK254, hKB254, hS254, rfl, ⟨⟨hC254, hP254, hU254⟩, hE254⟩, rfl, rfl⟩ := e_set0 (X := X) (K := K) (sh := sh) (nn := nn) (d := d) (by omega) hC253 (s := sy) (by omega) (i := i) (j := j) (x := x) (by omega) (by omega) ⟨by omega, by omega⟩
                                        have hKB254 : K254 ≤ K + 1 := hKB254
                                        refine rw_of (fun rr hrr => q_invS hV254 rfl rfl (okar_cons rfl (okar_cons rfl (okar_cons rfl (okar_cons rfl (okar_cons rfl (okar_cons rfl (okar_cons rfl okar_nil))))))) (Nat.le_of_ble_eq_true rfl) (q_iload rfl hrr)) ?_
                                        refine rw_if_ne ⟨by omega, by omega⟩ (t := 1298) rfl (fun hc255 => ?_) (fun hc255 => ?_)
                                        · skip
                                          refine rw_blk lk_L_isAct_1298 ?_
                                          refine rw_of (fun rr hrr => q_iload rfl hrr) ?_
                                          refine rw_if_eq ⟨by omega, by omega⟩ (t := 1308) rfl (fun hc256 => ?_) (fun hc256 => ?_)
                                          · exact absurd hc256 (by decide)
                                          · skip
                                            refine rw_of (fun rr hrr => q_iload rfl (q_goto (t := 1311) rfl hrr)) ?_
                                            refine rw_blk lk_L_isAct_1311 ?_
                                            refine rw_icmp_ne (rg_vF _) (rg_vF _) (t := 1353) rfl (fun hc257 => ?_) (fun hc257 => ?_)
                                            · exfalso; omega
                                            · skip
                                              refine rw_of (fun rr hrr => q_iload rfl hrr) ?_
                                              refine rw_if_eq ⟨by omega, by omega⟩ (t := 1349) rfl (fun hc258 => ?_) (fun hc258 => ?_)
                                              · exact absurd hc258 (by decide)
                                              · skip
                                                refine rw_of (fun rr hrr => q_aload_n rfl (q_iload rfl (q_iload rfl (q_eqv (show (((w : Nat) : Int) : Int) = 0 from by omega) (q_iload rfl (q_iload rfl hrr)))))) ?_
                                                obtain ⟨_, mm259, pp259, hV259, rfl, hC259⟩ := w_at0 (S := (K254, gB X sh nn)) (d := d) (by omega) hC254 (s := sy) (by omega) (i := i) (j := j) (by omega) (by omega)
                                                refine rw_of (fun rr hrr => q_invV hV259 (show SH 1 = (17, 0) from rfl) rfl rfl (okar_cons rfl (okar_cons rfl (okar_cons rfl (okar_cons rfl okar_nil)))) (Nat.le_of_ble_eq_true rfl) (q_iload rfl hrr)) ?_
                                                refine rw_if_eq ⟨by omega, by omega⟩ (t := 1344) rfl (fun hc260 => ?_) (fun hc260 => ?_)
                                                · exact absurd hc260 (by decide)
                                                · skip
                                                  refine rw_of (fun rr hrr => q_iload rfl hrr) ?_
                                                  obtain ⟨_, _, _, hV261, rfl, rfl, rfl⟩ := c_L_rest (S := (K254, gB X sh nn)) (fz := false) (m := mm259) (p := pp259) (d := d) (by omega) (x) ((toF x)) ⟨by omega, by omega⟩ (by simp only [toF_add, toF_mul, toF_sub, toF_neg, toF_vF, toF_nat, toF_0, toF_1, toF_M, F_add0, F_0sub])
                                                  refine rw_of (fun rr hrr => q_invS hV261 rfl rfl (okar_cons rfl okar_nil) (Nat.le_of_ble_eq_true rfl) (q_goto (t := 1346) rfl hrr)) ?_
                                                  refine rw_blk lk_L_isAct_1346 ?_
                                                  refine rw_icmp_ne (rg_vF _) (rg_vF _) (t := 1353) rfl (fun hc262 => ?_) (fun hc262 => ?_)
                                                  · refine absurd (congrArg vF ?_) hc262
                                                    exact hE254
                                                  · skip
                                                    refine rw_blk lk_L_isAct_1349 ?_
                                                    refine rw_of (fun rr hrr => q_iconst (q_goto (t := 1354) rfl hrr)) ?_
                                                    refine rw_blk lk_L_isAct_1354 ?_
                                                    refine lw_end hQ (q_ireturn (by omega)) (by omega) (by omega) (FrS_tr (by omega) FrS_rfl hS254) ?_
                                                    exact ⟨rfl, k, cp, ci, N, by omega, (hC259).1, hg0, hg1, hg2, ⟨PP, fun i hi => (show nn rp i = nn rp i from congrFun rfl _).trans (hpp i hi), fun i hi => (hpc i hi).trans (congrFun ((hC259).P.trans hP254) i).symm⟩, fun i hi => ((show nn ur i = nn ur i from congrFun rfl _).trans (huu i hi)).trans (congrArg vF (congrFun ((hC259).U.trans hU254) i).symm)⟩
                                        · exact absurd hc255 (by decide)
                                refine rw_if_ne ⟨by omega, by omega⟩ (t := 1214) rfl (fun hc263 => ?_) (fun hc263 => ?_)
                                · skip
                                  refine rw_blk lk_L_isAct_1214 ?_
                                  refine rw_of (fun rr hrr => q_iload rfl (q_bipush rfl (q_idiv ⟨by omega, by omega⟩ ⟨by omega, by omega⟩ (by omega) (show (((one : Nat) : Int)).tdiv (65) = ((one / 65 : Nat) : Int) by rfl) (q_bipush rfl (q_irem ⟨by omega, by omega⟩ ⟨by omega, by omega⟩ (by omega) (show (((one / 65 : Nat) : Int)).tmod (9) = (((one / 65) % 9 : Nat) : Int) by rfl) (q_iconst (q_isub hrr))))))) ?_
                                  have hA264 : -10007 ≤ (((((one / 65) % 9 : Nat) : Int) - 4)) ∧ (((((one / 65) % 9 : Nat) : Int) - 4)) ≤ 10007 := by
                                    omega
                                  exact rw_casts (hL1224 _ _ (((((one / 65) % 9 : Nat) : Int) - 4)) hA264) rfl rfl
                                · skip
                                  refine rw_of (fun rr hrr => q_iload rfl (q_sipush rfl (q_irem ⟨by omega, by omega⟩ ⟨by omega, by omega⟩ (by omega) (show (((two : Nat) : Int)).tmod (20015) = ((two % 20015 : Nat) : Int) by rfl) (q_sipush rfl (q_isub (q_goto (t := 1224) rfl hrr)))))) ?_
                                  have hA265 : -10007 ≤ ((((two % 20015 : Nat) : Int) - 10007)) ∧ ((((two % 20015 : Nat) : Int) - 10007)) ≤ 10007 := by
                                    omega
                                  exact rw_casts (hL1224 _ _ ((((two % 20015 : Nat) : Int) - 10007)) hA265) rfl rfl
            · exact absurd hc6 (by decide)
          · exact absurd hc5 (by decide)
        · exact absurd hc4 (by decide)
      · exact absurd hc3 (by decide)
    · exact absurd hc2 (by decide)
  · exact absurd hc1 (by decide)
