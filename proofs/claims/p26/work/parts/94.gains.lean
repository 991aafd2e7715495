/-! The gains bring the asked polynomial. -/
theorem rw_casts {C : Nat → List Value → MH → Res → Prop} {k pc : Nat} {lv lv' : List (Option Value)} {st : List Value} {h h' : MH} {c s : Nat} {Q : Res → Prop} (n : Rw C k (pc, [], lv', st, h', c, s) Q) (e : lv = lv') (e' : h = h') : Rw C k (pc, [], lv, st, h, c, s) Q := by
  subst e
  subst e'
  exact n
theorem prd_cg {P P' : Nat → F} {x : F} (t : Nat) : (∀ i, i < t → P i = P' i) → prd P x t = prd P' x t := by
  induction t with
  | zero => exact fun _ => rfl
  | succ t ih =>
    intro h
    show prd P x t * (x - P t) = prd P' x t * (x - P' t)
    rw [ih (fun i hi => h i (by omega)), h t (by omega)]
theorem c_L_areGains11 {d : Nat} {X : MC} {m0 m : M1} {p : M2} {K : Nat} {sh : Nat → Nat} {nn : N2} (hd : 10 ≤ d) (hK : 260 ≤ K) (a b rp gg s : Nat) (PP : Nat → F) (k cp ci : Nat) (N : Nat → Nat) (y : Nat → F) (y2 : Nat → F) (hC : CS m0 k N cp ci m p) (hsk : s < k) (ha : Ro K sh a 64) (hb : Ro K sh b 18) (hA : Mv nn a (N s) (SA m0 s)) (hbv : ∀ i, i < N s → nn b i = vF (Sb m0 s i)) (hcv : ∀ i, i < N s → nn b (8 + i) = vF (Sc m0 s i)) (hbd : nn b 16 = vF (Sd m0 s)) (hbn : nn b 17 = ((N s : Nat) : Int)) (hpr : Ro K sh rp 32) (hgr : Ro K sh gg 3) (hpp : ∀ i, i < 32 → nn rp i = vF (PP i)) (hpc : ∀ i, i < cp → PP i = m0 4 i) (hg1 : nn gg 1 = (cp : Int)) (hc : N s ≤ cp) (hr : rk (N s) (kr (N s) (SA m0 s) (Sb m0 s)) = N s) (hy : Du (N s) (SA m0 s) (Sb m0 s) y) (hc2 : 2 * N s ≤ cp) (hr2 : rk (N s) (kr (N s) (trp (SA m0 s)) (Sc m0 s)) = N s) (hy2 : Du (N s) (trp (SA m0 s)) (Sc m0 s) y2) : Lc d k_L_areGains X [.ref (1), .ref (a), .ref (b), .ref (rp), .ref (gg), .int (iI (((s : Nat) : Int)))] m p K sh nn (fun v m' p' K' sh' n' => v = some (.int (iI 1)) ∧ CS m0 k N cp ci m' p' ∧ FrN (fun a_ => K < a_) nn n') := by
  obtain ⟨d, rfl⟩ : ∃ e, d = e + 1 := ⟨d - 1, by omega⟩
  have ha8 := ha.1; have ha9 := ha.2.1
  have hb8 := hb.1; have hb9 := hb.2.1
  have hpr8 := hpr.1; have hpr9 := hpr.2.1
  have hgr8 := hgr.1; have hgr9 := hgr.2.1
  have hn1 := hC.N1 hsk
  have hn := hC.N8 hsk
  have hp16 := hC.p16
  have hdr0 : drk (N s) (kr (N s) (SA m0 s) (Sb m0 s)) = rk (N s) (kr (N s) (SA m0 s) (Sb m0 s)) := drk_rk
  have hdr1 : drk (N s) (kr (N s) (trp (SA m0 s)) (Sc m0 s)) = rk (N s) (kr (N s) (trp (SA m0 s)) (Sc m0 s)) := drk_rk
  have hdl0 := drk_le (n := N s) (W := kr (N s) (SA m0 s) (Sb m0 s))
  have hdl1 := drk_le (n := N s) (W := kr (N s) (trp (SA m0 s)) (Sc m0 s))
  refine lc_go (lv := [some (.ref (1)), some (.ref (a)), some (.ref (b)), some (.ref (rp)), some (.ref (gg)), some (.int (iI (((s : Nat) : Int)))), none, none, none, none, none, none, none, none, none, none]) (B := 66) (Nat.le_of_ble_eq_true rfl) (okar_cons rfl (okar_cons rfl (okar_cons rfl (okar_cons rfl (okar_cons rfl (okar_cons rfl okar_nil)))))) rfl rfl (fun Qr hQ => ?_)
  refine rw_blk lk_L_areGains_0 ?_
  refine rw_of (fun rr hrr => q_aload_n rfl (q_bipush rfl (q_lald (j := 17) hb rfl (by omega) hbn (q_istore (Nat.le_of_ble_eq_true rfl) rfl (q_aload rfl (q_iconst (q_lald (j := 1) hgr rfl (by omega) hg1 (q_iload rfl hrr)))))))) ?_
  refine rw_icmp_lt ⟨by omega, by omega⟩ ⟨by omega, by omega⟩ (t := 30) rfl (fun hc1 => ?_) (fun hc1 => ?_)
  · exfalso; omega
  · skip
    refine rw_of (fun rr hrr => q_aload_n rfl (q_aload_n rfl (q_iconst hrr))) ?_
    obtain ⟨_, mm2, pp2, K2, sh2, e2, cc2, ss2, hV2, hK2, hKB2, hS2, rfl, rfl, rfl, hF2⟩ := c_L_rankOf0 (X := X) (m := m) (p := p) (K := K) (sh := sh) (nn := nn) (d := d) (by omega) (by omega) a b (N s) (SA m0 s) (Sb m0 s) (Sc m0 s) (ha) (hb) hn (Mv_k hA rfl) (fun z hz => (congrFun rfl _).trans (hbv z hz)) (fun z hz => (congrFun rfl _).trans (hcv z hz)) ((congrFun rfl _).trans hbn)
    have hKB2 : K2 ≤ K + 10 := hKB2
    refine rw_of (fun rr hrr => q_invS hV2 rfl rfl (okar_cons rfl (okar_cons rfl (okar_cons rfl okar_nil))) (Nat.le_of_ble_eq_true rfl) (q_iload rfl hrr)) ?_
    refine rw_icmp_ne ⟨by omega, by omega⟩ ⟨by omega, by omega⟩ (t := 30) rfl (fun hc3 => ?_) (fun hc3 => ?_)
    · exfalso; omega
    · skip
      refine rw_of (fun rr hrr => q_iconst (q_goto (t := 31) rfl hrr)) ?_
      refine rw_blk lk_L_areGains_31 ?_
      refine rw_of (fun rr hrr => q_istore (Nat.le_of_ble_eq_true rfl) rfl (q_aload rfl (q_iconst (q_lald (j := 1) (Ro_call hK2 hS2 hgr) rfl (by omega) ((congrFun (hF2 gg (by show ¬ (K < gg); omega)) _).trans hg1) (q_iconst (q_iload rfl (q_imul hrr))))))) ?_
      refine rw_icmp_lt ⟨by omega, by omega⟩ ⟨by omega, by omega⟩ (t := 59) rfl (fun hc4 => ?_) (fun hc4 => ?_)
      · exfalso; omega
      · skip
        refine rw_of (fun rr hrr => q_aload_n rfl (q_aload_n rfl (q_iconst hrr))) ?_
        obtain ⟨_, mm5, pp5, K5, sh5, e5, cc5, ss5, hV5, hK5, hKB5, hS5, rfl, rfl, rfl, hF5⟩ := c_L_rankOf1 (X := X) (m := m) (p := p) (K := K2) (sh := sh2) (nn := e2) (d := d) (by omega) (by omega) a b (N s) (SA m0 s) (Sb m0 s) (Sc m0 s) ((Ro_call hK2 hS2 ha)) ((Ro_call hK2 hS2 hb)) hn (Mv_k hA (hF2 a (by show ¬ (K < a); omega))) (fun z hz => (congrFun (hF2 b (by show ¬ (K < b); omega)) _).trans (hbv z hz)) (fun z hz => (congrFun (hF2 b (by show ¬ (K < b); omega)) _).trans (hcv z hz)) ((congrFun (hF2 b (by show ¬ (K < b); omega)) _).trans hbn)
        have hKB5 : K5 ≤ K2 + 10 := hKB5
        refine rw_of (fun rr hrr => q_invS hV5 rfl rfl (okar_cons rfl (okar_cons rfl (okar_cons rfl okar_nil))) (Nat.le_of_ble_eq_true rfl) (q_iload rfl hrr)) ?_
        refine rw_icmp_ne ⟨by omega, by omega⟩ ⟨by omega, by omega⟩ (t := 59) rfl (fun hc6 => ?_) (fun hc6 => ?_)
        · exfalso; omega
        · skip
          refine rw_of (fun rr hrr => q_iconst (q_goto (t := 60) rfl hrr)) ?_
          refine rw_blk lk_L_areGains_60 ?_
          refine rw_of (fun rr hrr => q_istore (Nat.le_of_ble_eq_true rfl) rfl (q_aload_n rfl (q_bipush rfl (q_iload rfl (q_iload rfl (q_iconst (q_iconst (q_iconst hrr)))))))) ?_
          obtain ⟨_, mm7, pp7, K7, _, _, cc7, ss7, hV7, hK7, hKB7, hS7, rfl, hC7, rfl, rfl⟩ := e_gainP (X := X) (K := K5) (sh := sh5) (nn := e5) (d := d) (by omega) hC hsk
          have hKB7 : K7 ≤ K5 + 1 := hKB7
          refine rw_of (fun rr hrr => q_invS hV7 rfl rfl (okar_cons rfl (okar_cons rfl (okar_cons rfl (okar_cons rfl (okar_cons rfl (okar_cons rfl (okar_cons rfl okar_nil))))))) (Nat.le_of_ble_eq_true rfl) (q_sipush rfl hrr)) ?_
          refine rw_icmp_ne ⟨by omega, by omega⟩ ⟨by omega, by omega⟩ (t := 103) rfl (fun hc8 => ?_) (fun hc8 => ?_)
          · exact absurd hc8 (by decide)
          · skip
            refine rw_of (fun rr hrr => q_aload_n rfl (q_bipush rfl (q_iload rfl (q_iconst (q_iconst (q_iconst (q_iconst hrr))))))) ?_
            obtain ⟨_, mm9, pp9, K9, _, _, cc9, ss9, hV9, hK9, hKB9, hS9, rfl, hC9, rfl, rfl⟩ := e_obsP (X := X) (K := K7) (sh := sh5) (nn := e5) (d := d) (by omega) hC7 hsk
            have hKB9 : K9 ≤ K7 + 1 := hKB9
            refine rw_of (fun rr hrr => q_invS hV9 rfl rfl (okar_cons rfl (okar_cons rfl (okar_cons rfl (okar_cons rfl (okar_cons rfl (okar_cons rfl (okar_cons rfl okar_nil))))))) (Nat.le_of_ble_eq_true rfl) (q_sipush rfl hrr)) ?_
            refine rw_icmp_ne ⟨by omega, by omega⟩ ⟨by omega, by omega⟩ (t := 103) rfl (fun hc10 => ?_) (fun hc10 => ?_)
            · exact absurd hc10 (by decide)
            · skip
              refine rw_of (fun rr hrr => q_iconst (q_goto (t := 104) rfl hrr)) ?_
              refine rw_blk lk_L_areGains_104 ?_
              refine rw_of (fun rr hrr => q_istore (Nat.le_of_ble_eq_true rfl) rfl (q_bipush rfl (q_lnew (l := 18) (by omega) rfl (by omega) hrr))) ?_
              generalize hu11 : nU e5 (K9 + 1) = e12
              refine rw_of (fun rr hrr => q_astore (Nat.le_of_ble_eq_true rfl) rfl (q_bipush rfl (q_lnew (l := 18) (by omega) rfl (by omega) hrr))) ?_
              generalize hu13 : nU e12 (K9 + 1 + 1) = e14
              refine rw_of (fun rr hrr => q_astore (Nat.le_of_ble_eq_true rfl) rfl (q_iconst (q_istore (Nat.le_of_ble_eq_true rfl) rfl hrr))) ?_
              have hL121 : ∀ i, i ≤ N s → ∀ (cc ss : Nat) (K121 : Nat) (sh121 : Nat → Nat) (nn121 : N2) (m121 : M1) (p121 : M2), (K9 + 1 + 1 ≤ K121 ∧ K121 ≤ K9 + 1 + 1 + 3 * i ∧ FrS (K9 + 1 + 1) (shU (shU sh5 (K9 + 1) 18) (K9 + 1 + 1) 18) sh121 ∧ FrN (fun a_ => K9 + 1 + 1 < a_ ∨ a_ = (K9 + 1) ∨ a_ = (K9 + 1 + 1)) e14 nn121 ∧ CS m0 k N cp ci m121 p121 ∧ ((∀ z, z < i → nn121 (K9 + 1) z = vF (Sb m0 s z)) ∧ (∀ z, z < i → nn121 (K9 + 1) (8 + z) = vF (av (N s) (SA m0 s) (m0 4) y (N s) z)) ∧ (∀ z, z < i → nn121 (K9 + 1 + 1) z = vF (av (N s) (trp (SA m0 s)) (fun zz => m0 4 (N s + zz)) y2 (N s) z)) ∧ (∀ z, z < i → nn121 (K9 + 1 + 1) (8 + z) = vF (Sc m0 s z)))) → Rw (Ev d) k_L_areGains (121, [], [some (.ref (1)), some (.ref (a)), some (.ref (b)), some (.ref (rp)), some (.ref (gg)), some (.int (iI (((s : Nat) : Int)))), some (.int (iI (((N s : Nat) : Int)))), some (.int (iI (1))), some (.int (iI (1))), some (.int (iI (1))), some (.ref (K9 + 1)), some (.ref (K9 + 1 + 1)), some (.int (iI (((i : Nat) : Int)))), none, none, none], [], hB X m121 p121 K121 sh121 nn121, cc, ss) Qr := by
                refine loop_any (fun i hi121 ih121 => ?_)
                intro cc ss K121 sh121 nn121 m121 p121
                intro hI
                obtain ⟨hKl121, hBl121, hSl121, hF121, hC121, ⟨hk1, hk2, hl1, hl2⟩⟩ := hI
                refine rw_blk lk_L_areGains_121 ?_
                refine rw_of (fun rr hrr => q_iload rfl (q_iload rfl hrr)) ?_
                refine rw_icmp_ge ⟨by omega, by omega⟩ ⟨by omega, by omega⟩ (t := 293) rfl (fun hc15 => ?_) (fun hc15 => ?_)
                · skip
                  refine rw_blk lk_L_areGains_293 ?_
                  refine rw_of (fun rr hrr => q_aload rfl (q_bipush rfl (q_iload rfl (q_last (j := 17) (Ro_call hKl121 hSl121 (Ro_new (Ro_made (by omega)))) rfl (by omega) hrr)))) ?_
                  generalize hm16 : wI nn121 (K9 + 1) 17 (((N s : Nat) : Int)) = e17
                  refine rw_of (fun rr hrr => q_aload rfl (q_bipush rfl (q_iload rfl (q_last (j := 17) (Ro_call hKl121 hSl121 (Ro_made (by omega))) rfl (by omega) hrr)))) ?_
                  generalize hm18 : wI e17 (K9 + 1 + 1) 17 (((N s : Nat) : Int)) = e19
                  refine rw_of (fun rr hrr => q_iconst (q_istore (Nat.le_of_ble_eq_true rfl) rfl hrr)) ?_
                  have hL310 : ∀ x, x ≤ N s + 1 → ∀ (cc ss : Nat) (K310 : Nat) (sh310 : Nat → Nat) (nn310 : N2) (x310_13 : Option Value) (x310_14 : Option Value) (x310_15 : Option Value), (K121 ≤ K310 ∧ K310 ≤ K121 + 2 * x ∧ FrS K121 sh121 sh310 ∧ FrN (fun a_ => K121 < a_) e19 nn310 ∧ ((∀ z, z < N s → nn310 (K9 + 1) z = vF (Sb m0 s z)) ∧ (∀ z, z < N s → nn310 (K9 + 1) (8 + z) = vF (av (N s) (SA m0 s) (m0 4) y (N s) z)) ∧ (∀ z, z < N s → nn310 (K9 + 1 + 1) z = vF (av (N s) (trp (SA m0 s)) (fun zz => m0 4 (N s + zz)) y2 (N s) z)) ∧ (∀ z, z < N s → nn310 (K9 + 1 + 1) (8 + z) = vF (Sc m0 s z)) ∧ nn310 (K9 + 1) 17 = ((N s : Nat) : Int) ∧ nn310 (K9 + 1 + 1) 17 = ((N s : Nat) : Int))) → Rw (Ev d) k_L_areGains (310, [], [some (.ref (1)), some (.ref (a)), some (.ref (b)), some (.ref (rp)), some (.ref (gg)), some (.int (iI (((s : Nat) : Int)))), some (.int (iI (((N s : Nat) : Int)))), some (.int (iI (1))), some (.int (iI (1))), some (.int (iI (1))), some (.ref (K9 + 1)), some (.ref (K9 + 1 + 1)), some (.int (iI (((x : Nat) : Int)))), x310_13, x310_14, x310_15], [], hB X m121 p121 K310 sh310 nn310, cc, ss) Qr := by
                    refine loop_any (fun x hi310 ih310 => ?_)
                    intro cc ss K310 sh310 nn310 x310_13 x310_14 x310_15
                    intro hI
                    obtain ⟨hKl310, hBl310, hSl310, hF310, ⟨gk1, gk2, gl1, gl2, gk3, gl3⟩⟩ := hI
                    refine rw_blk lk_L_areGains_310 ?_
                    refine rw_of (fun rr hrr => q_iload rfl (q_iload rfl hrr)) ?_
                    refine rw_icmp_gt ⟨by omega, by omega⟩ ⟨by omega, by omega⟩ (t := 436) rfl (fun hc20 => ?_) (fun hc20 => ?_)
                    · skip
                      refine rw_blk lk_L_areGains_436 ?_
                      refine rw_of (fun rr hrr => q_iload rfl hrr) ?_
                      refine lw_end hQ (q_ireturn (by omega)) (by omega) (by omega) (FrS_tr (by omega) (FrS_tr (by omega) (FrS_tr (by omega) (FrS_tr (by omega) (FrS_tr (by omega) (FrS_tr (by omega) (FrS_tr (by omega) (FrS_tr (by omega) FrS_rfl hS2) hS5) hS7) hS9) FrS_new) FrS_new) hSl121) hSl310) ?_
                      exact ⟨rfl, hC121, fun a9 h9 => ((hF310 a9 (by show ¬ (K121 < a9); omega)).trans ((kN hm18 (by omega)).trans ((kN hm16 (by omega)).trans ((hF121 a9 (by show ¬ (K9 + 1 + 1 < a9 ∨ a9 = (K9 + 1) ∨ a9 = (K9 + 1 + 1)); omega)).trans ((kU hu13 (by omega)).trans ((kU hu11 (by omega)).trans ((hF5 a9 (by show ¬ (K2 < a9); omega)).trans (hF2 a9 (by show ¬ (K < a9); omega)))))))))⟩
                    · skip
                      refine rw_of (fun rr hrr => q_iload rfl hrr) ?_
                      refine rw_if_eq ⟨by omega, by omega⟩ (t := 436) rfl (fun hc21 => ?_) (fun hc21 => ?_)
                      · exact absurd hc21 (by decide)
                      · skip
                        refine rw_of (fun rr hrr => q_iconst (q_istore (Nat.le_of_ble_eq_true rfl) rfl (q_iconst (q_istore (Nat.le_of_ble_eq_true rfl) rfl (q_iconst (q_istore (Nat.le_of_ble_eq_true rfl) rfl hrr)))))) ?_
                        have hL331 : ∀ i, i ≤ N s → ∀ (cc ss : Nat) , Rw (Ev d) k_L_areGains (331, [], [some (.ref (1)), some (.ref (a)), some (.ref (b)), some (.ref (rp)), some (.ref (gg)), some (.int (iI (((s : Nat) : Int)))), some (.int (iI (((N s : Nat) : Int)))), some (.int (iI (1))), some (.int (iI (1))), some (.int (iI (1))), some (.ref (K9 + 1)), some (.ref (K9 + 1 + 1)), some (.int (iI (((x : Nat) : Int)))), some (.int (iI (vF (prd PP (nF x) i)))), some (.int (iI (vF (prd (fun zz => PP (N s + zz)) (nF x) i)))), some (.int (iI (((i : Nat) : Int))))], [], hB X m121 p121 K310 sh310 nn310, cc, ss) Qr := by
                          refine loop_any (fun i hi331 ih331 => ?_)
                          intro cc ss
                          refine rw_blk lk_L_areGains_331 ?_
                          refine rw_of (fun rr hrr => q_iload rfl (q_iload rfl hrr)) ?_
                          refine rw_icmp_ge ⟨by omega, by omega⟩ ⟨by omega, by omega⟩ (t := 385) rfl (fun hc22 => ?_) (fun hc22 => ?_)
                          · skip
                            refine rw_blk lk_L_areGains_385 ?_
                            refine rw_of (fun rr hrr => q_iload rfl hrr) ?_
                            refine rw_if_eq ⟨by omega, by omega⟩ (t := 404) rfl (fun hc23 => ?_) (fun hc23 => ?_)
                            · exact absurd hc23 (by decide)
                            · skip
                              refine rw_of (fun rr hrr => q_aload_n rfl (q_aload rfl (q_iload rfl (q_eqv (show (((x : Nat) : Int) : Int) = vF (nF x) from (vF_nF (by omega)).symm) (q_iconst hrr))))) ?_
                              obtain ⟨_, mm24, pp24, K24, sh24, e24, cc24, ss24, hV24, hK24, hKB24, hS24, rfl, rfl, rfl, hF24⟩ := c_L_at1 (X := X) (m := m121) (p := p121) (K := K310) (sh := sh310) (nn := nn310) (d := d) (by omega) (by omega) a (K9 + 1) (N s) (nF x) (SA m0 s) (Sb m0 s) (av (N s) (SA m0 s) (m0 4) y (N s)) ((Ro_call hKl310 hSl310 (Ro_call hKl121 hSl121 (Ro_new (Ro_new (Ro_call hK9 hS9 (Ro_call hK7 hS7 (Ro_call hK5 hS5 (Ro_call hK2 hS2 ha))))))))) ((Ro_call hKl310 hSl310 (Ro_call hKl121 hSl121 (Ro_new (Ro_made (by omega)))))) hn (Mv_k hA ((hF310 a (by show ¬ (K121 < a); omega)).trans ((kN hm18 (by omega)).trans ((kN hm16 (by omega)).trans ((hF121 a (by show ¬ (K9 + 1 + 1 < a ∨ a = (K9 + 1) ∨ a = (K9 + 1 + 1)); omega)).trans ((kU hu13 (by omega)).trans ((kU hu11 (by omega)).trans ((hF5 a (by show ¬ (K2 < a); omega)).trans (hF2 a (by show ¬ (K < a); omega)))))))))) (fun z hz => (congrFun rfl _).trans (gk1 z hz)) (fun z hz => (congrFun rfl _).trans (gk2 z hz)) ((congrFun rfl _).trans gk3)
                              have hKB24 : K24 ≤ K310 + 1 := hKB24
                              refine rw_of (fun rr hrr => q_invS hV24 rfl rfl (okar_cons rfl (okar_cons rfl (okar_cons rfl (okar_cons rfl okar_nil)))) (Nat.le_of_ble_eq_true rfl) hrr) ?_
                              have hat1 : dta (N s) (atM (SA m0 s) (Sb m0 s) (av (N s) (SA m0 s) (m0 4) y (N s)) (nF x) 1) = vF (prd PP (nF x) i) := by
                                rw [dta_dt, gain_dt hn hr hy (fun _ _ => rfl), show i = N s by omega]
                                exact congrArg vF (prd_cg (N s) (fun z hz => (hpc z (by omega)).symm))
                              refine rw_of (fun rr hrr => q_iload rfl hrr) ?_
                              refine rw_icmp_ne (by rw [hat1]; exact rg_vF _) (rg_vF _) (t := 427) rfl (fun hc25 => ?_) (fun hc25 => ?_)
                              · exact absurd hat1 hc25
                              · skip
                                refine rw_blk lk_L_areGains_404 ?_
                                refine rw_of (fun rr hrr => q_iload rfl hrr) ?_
                                refine rw_if_eq ⟨by omega, by omega⟩ (t := 423) rfl (fun hc26 => ?_) (fun hc26 => ?_)
                                · exact absurd hc26 (by decide)
                                · skip
                                  refine rw_of (fun rr hrr => q_aload_n rfl (q_aload rfl (q_iload rfl (q_eqv (show (((x : Nat) : Int) : Int) = vF (nF x) from (vF_nF (by omega)).symm) (q_iconst hrr))))) ?_
                                  obtain ⟨_, mm27, pp27, K27, sh27, e27, cc27, ss27, hV27, hK27, hKB27, hS27, rfl, rfl, rfl, hF27⟩ := c_L_at1 (X := X) (m := m121) (p := p121) (K := K24) (sh := sh24) (nn := e24) (d := d) (by omega) (by omega) a (K9 + 1 + 1) (N s) (nF x) (SA m0 s) (av (N s) (trp (SA m0 s)) (fun zz => m0 4 (N s + zz)) y2 (N s)) (Sc m0 s) ((Ro_call hK24 hS24 (Ro_call hKl310 hSl310 (Ro_call hKl121 hSl121 (Ro_new (Ro_new (Ro_call hK9 hS9 (Ro_call hK7 hS7 (Ro_call hK5 hS5 (Ro_call hK2 hS2 ha)))))))))) ((Ro_call hK24 hS24 (Ro_call hKl310 hSl310 (Ro_call hKl121 hSl121 (Ro_made (by omega)))))) hn (Mv_k hA ((hF24 a (by show ¬ (K310 < a); omega)).trans ((hF310 a (by show ¬ (K121 < a); omega)).trans ((kN hm18 (by omega)).trans ((kN hm16 (by omega)).trans ((hF121 a (by show ¬ (K9 + 1 + 1 < a ∨ a = (K9 + 1) ∨ a = (K9 + 1 + 1)); omega)).trans ((kU hu13 (by omega)).trans ((kU hu11 (by omega)).trans ((hF5 a (by show ¬ (K2 < a); omega)).trans (hF2 a (by show ¬ (K < a); omega))))))))))) (fun z hz => (congrFun (hF24 (K9 + 1 + 1) (by show ¬ (K310 < (K9 + 1 + 1)); omega)) _).trans (gl1 z hz)) (fun z hz => (congrFun (hF24 (K9 + 1 + 1) (by show ¬ (K310 < (K9 + 1 + 1)); omega)) _).trans (gl2 z hz)) ((congrFun (hF24 (K9 + 1 + 1) (by show ¬ (K310 < (K9 + 1 + 1)); omega)) _).trans gl3)
                                  have hKB27 : K27 ≤ K24 + 1 := hKB27
                                  refine rw_of (fun rr hrr => q_invS hV27 rfl rfl (okar_cons rfl (okar_cons rfl (okar_cons rfl (okar_cons rfl okar_nil)))) (Nat.le_of_ble_eq_true rfl) hrr) ?_
                                  have hat2 : dta (N s) (atM (SA m0 s) (av (N s) (trp (SA m0 s)) (fun zz => m0 4 (N s + zz)) y2 (N s)) (Sc m0 s) (nF x) 1) = vF (prd (fun zz => PP (N s + zz)) (nF x) i) := by
                                    rw [dta_dt, watch_dt hn hr2 hy2 (fun _ _ => rfl), show i = N s by omega]
                                    exact congrArg vF (prd_cg (N s) (fun z hz => (hpc (N s + z) (by omega)).symm))
                                  refine rw_of (fun rr hrr => q_iload rfl hrr) ?_
                                  refine rw_icmp_ne (by rw [hat2]; exact rg_vF _) (rg_vF _) (t := 427) rfl (fun hc28 => ?_) (fun hc28 => ?_)
                                  · exact absurd hat2 hc28
                                  · skip
                                    refine rw_blk lk_L_areGains_423 ?_
                                    refine rw_of (fun rr hrr => q_iconst (q_goto (t := 428) rfl hrr)) ?_
                                    refine rw_blk lk_L_areGains_428 ?_
                                    refine rw_of (fun rr hrr => q_istore (Nat.le_of_ble_eq_true rfl) rfl (q_iinc rfl rfl (q_goto (t := 310) rfl hrr))) ?_
                                    have hA29 : (∀ z, z < N s → e27 (K9 + 1) z = vF (Sb m0 s z)) ∧ (∀ z, z < N s → e27 (K9 + 1) (8 + z) = vF (av (N s) (SA m0 s) (m0 4) y (N s) z)) ∧ (∀ z, z < N s → e27 (K9 + 1 + 1) z = vF (av (N s) (trp (SA m0 s)) (fun zz => m0 4 (N s + zz)) y2 (N s) z)) ∧ (∀ z, z < N s → e27 (K9 + 1 + 1) (8 + z) = vF (Sc m0 s z)) ∧ e27 (K9 + 1) 17 = ((N s : Nat) : Int) ∧ e27 (K9 + 1 + 1) 17 = ((N s : Nat) : Int) := by
                                      have ek : e27 (K9 + 1) = nn310 (K9 + 1) := ((hF27 (K9 + 1) (by show ¬ (K24 < (K9 + 1)); omega)).trans (hF24 (K9 + 1) (by show ¬ (K310 < (K9 + 1)); omega)))
                                      have el : e27 (K9 + 1 + 1) = nn310 (K9 + 1 + 1) := ((hF27 (K9 + 1 + 1) (by show ¬ (K24 < (K9 + 1 + 1)); omega)).trans (hF24 (K9 + 1 + 1) (by show ¬ (K310 < (K9 + 1 + 1)); omega)))
                                      exact ⟨fun z hz => (congrFun ek _).trans (gk1 z hz), fun z hz => (congrFun ek _).trans (gk2 z hz), fun z hz => (congrFun el _).trans (gl1 z hz), fun z hz => (congrFun el _).trans (gl2 z hz), (congrFun ek _).trans gk3, (congrFun el _).trans gl3⟩
                                    exact rw_cast (ih310 (by omega) _ _ K27 sh27 e27 (some (.int (iI (vF (prd PP (nF x) i))))) (some (.int (iI (vF (prd (fun zz => PP (N s + zz)) (nF x) i))))) (some (.int (iI (((i : Nat) : Int))))) ⟨(by omega), (by omega), ((FrS_tr (by omega) (FrS_tr (by omega) (FrS_tr (by omega) FrS_rfl hSl310) hS24) hS27)), (fun a9 h9 => ((hF27 a9 (by show ¬ (K24 < a9); omega)).trans ((hF24 a9 (by show ¬ (K310 < a9); omega)).trans (hF310 a9 (by show ¬ (K121 < a9); omega))))), hA29⟩) (lcons rfl (lcons rfl (lcons rfl (lcons rfl (lcons rfl (lcons rfl (lcons rfl (lcons rfl (lcons rfl (lcons rfl (lcons rfl (lcons rfl (lcons (lvI (by omega)) (lcons rfl (lcons rfl (lcons rfl rfl)))))))))))))))) rfl
                          · skip
                            refine rw_of (fun rr hrr => q_iload rfl (q_iload rfl (q_aload_n rfl (q_iload rfl (q_lald (j := i) (Ro_call hKl310 hSl310 (Ro_call hKl121 hSl121 (Ro_new (Ro_new (Ro_call hK9 hS9 (Ro_call hK7 hS7 (Ro_call hK5 hS5 (Ro_call hK2 hS2 hpr)))))))) rfl (by omega) (((congrFun (hF310 rp (by show ¬ (K121 < rp); omega)) _).trans ((congrFun (kN hm18 (by omega)) _).trans ((congrFun (kN hm16 (by omega)) _).trans ((congrFun (hF121 rp (by show ¬ (K9 + 1 + 1 < rp ∨ rp = (K9 + 1) ∨ rp = (K9 + 1 + 1)); omega)) _).trans ((congrFun (kU hu13 (by omega)) _).trans ((congrFun (kU hu11 (by omega)) _).trans ((congrFun (hF5 rp (by show ¬ (K2 < rp); omega)) _).trans (congrFun (hF2 rp (by show ¬ (K < rp); omega)) _)))))))).trans (hpp i (by omega))) (q_isub hrr)))))) ?_
                            obtain ⟨_, _, _, hV30, rfl, rfl, rfl⟩ := c_L_rest (S := (K310, gB X sh310 nn310)) (fz := false) (m := m121) (p := p121) (d := d) (by omega) ((((x : Nat) : Int) - vF (PP i))) ((nF (x) - (PP i))) ⟨by have := vF_ge (PP i); have := vF_lt (PP i); omega, by have := vF_ge (PP i); have := vF_lt (PP i); omega⟩ (by simp only [toF_add, toF_mul, toF_sub, toF_neg, toF_vF, toF_nat, toF_0, toF_1, toF_M, F_add0, F_0sub])
                            refine rw_of (fun rr hrr => q_invS hV30 rfl rfl (okar_cons rfl okar_nil) (Nat.le_of_ble_eq_true rfl) (q_imul (q_sipush rfl (q_irem (rg_times _ _) ⟨by omega, by omega⟩ (by omega) (remF (Int.mul_nonneg (vF_ge _) (vF_ge _)) (show toF ((vF (prd PP (nF x) i) * vF ((nF (x) - (PP i))))) = ((prd PP (nF x) i) * ((nF (x) - (PP i)))) by simp only [toF_add, toF_mul, toF_sub, toF_neg, toF_vF, toF_nat, toF_0, toF_1, toF_M, F_add0, F_0sub])) (q_istore (Nat.le_of_ble_eq_true rfl) rfl (q_iload rfl (q_iload rfl (q_aload_n rfl (q_iload rfl (q_iload rfl (q_iadd (q_lald (j := N s + i) (Ro_call hKl310 hSl310 (Ro_call hKl121 hSl121 (Ro_new (Ro_new (Ro_call hK9 hS9 (Ro_call hK7 hS7 (Ro_call hK5 hS5 (Ro_call hK2 hS2 hpr)))))))) (by omega) (by omega) (((congrFun (hF310 rp (by show ¬ (K121 < rp); omega)) _).trans ((congrFun (kN hm18 (by omega)) _).trans ((congrFun (kN hm16 (by omega)) _).trans ((congrFun (hF121 rp (by show ¬ (K9 + 1 + 1 < rp ∨ rp = (K9 + 1) ∨ rp = (K9 + 1 + 1)); omega)) _).trans ((congrFun (kU hu13 (by omega)) _).trans ((congrFun (kU hu11 (by omega)) _).trans ((congrFun (hF5 rp (by show ¬ (K2 < rp); omega)) _).trans (congrFun (hF2 rp (by show ¬ (K < rp); omega)) _)))))))).trans (hpp (N s + i) (by omega))) (q_isub hrr))))))))))))) ?_
                            obtain ⟨_, _, _, hV31, rfl, rfl, rfl⟩ := c_L_rest (S := (K310, gB X sh310 nn310)) (fz := false) (m := m121) (p := p121) (d := d) (by omega) ((((x : Nat) : Int) - vF (PP (N s + i)))) ((nF (x) - (PP (N s + i)))) ⟨by have := vF_ge (PP (N s + i)); have := vF_lt (PP (N s + i)); omega, by have := vF_ge (PP (N s + i)); have := vF_lt (PP (N s + i)); omega⟩ (by simp only [toF_add, toF_mul, toF_sub, toF_neg, toF_vF, toF_nat, toF_0, toF_1, toF_M, F_add0, F_0sub])
                            refine rw_of (fun rr hrr => q_invS hV31 rfl rfl (okar_cons rfl okar_nil) (Nat.le_of_ble_eq_true rfl) (q_imul (q_sipush rfl (q_irem (rg_times _ _) ⟨by omega, by omega⟩ (by omega) (remF (Int.mul_nonneg (vF_ge _) (vF_ge _)) (show toF ((vF (prd (fun zz => PP (N s + zz)) (nF x) i) * vF ((nF (x) - (PP (N s + i)))))) = ((prd (fun zz => PP (N s + zz)) (nF x) i) * ((nF (x) - (PP (N s + i))))) by simp only [toF_add, toF_mul, toF_sub, toF_neg, toF_vF, toF_nat, toF_0, toF_1, toF_M, F_add0, F_0sub])) (q_istore (Nat.le_of_ble_eq_true rfl) rfl (q_iinc rfl rfl (q_goto (t := 331) rfl hrr))))))) ?_
                            exact rw_cast (ih331 (by omega) _ _) (lcons rfl (lcons rfl (lcons rfl (lcons rfl (lcons rfl (lcons rfl (lcons rfl (lcons rfl (lcons rfl (lcons rfl (lcons rfl (lcons rfl (lcons rfl (lcons (lvI (by exact congrArg vF (by first | rfl | grind))) (lcons (lvI (by exact congrArg vF (by first | rfl | grind))) (lcons (lvI (by omega)) rfl)))))))))))))))) rfl
                        exact rw_cast (hL331 0 (by omega) _ _) (lcons rfl (lcons rfl (lcons rfl (lcons rfl (lcons rfl (lcons rfl (lcons rfl (lcons rfl (lcons rfl (lcons rfl (lcons rfl (lcons rfl (lcons rfl (lcons (lvI (by rfl)) (lcons (lvI (by rfl)) (lcons (lvI (by omega)) rfl)))))))))))))))) rfl
                  have hA32 : (∀ z, z < N s → e19 (K9 + 1) z = vF (Sb m0 s z)) ∧ (∀ z, z < N s → e19 (K9 + 1) (8 + z) = vF (av (N s) (SA m0 s) (m0 4) y (N s) z)) ∧ (∀ z, z < N s → e19 (K9 + 1 + 1) z = vF (av (N s) (trp (SA m0 s)) (fun zz => m0 4 (N s + zz)) y2 (N s) z)) ∧ (∀ z, z < N s → e19 (K9 + 1 + 1) (8 + z) = vF (Sc m0 s z)) ∧ e19 (K9 + 1) 17 = ((N s : Nat) : Int) ∧ e19 (K9 + 1 + 1) 17 = ((N s : Nat) : Int) := by
                    refine ⟨fun z hz => ?_, fun z hz => ?_, fun z hz => ?_, fun z hz => ?_, (congrFun (kN hm18 (by omega)) _).trans (kA hm16), kA hm18⟩
                    · exact (congrFun (kN hm18 (by omega)) _).trans ((kB hm16 (by omega)).trans (hk1 z (by omega)))
                    · exact (congrFun (kN hm18 (by omega)) _).trans ((kB hm16 (by omega)).trans (hk2 z (by omega)))
                    · exact (kB hm18 (by omega)).trans ((congrFun (kN hm16 (by omega)) _).trans (hl1 z (by omega)))
                    · exact (kB hm18 (by omega)).trans ((congrFun (kN hm16 (by omega)) _).trans (hl2 z (by omega)))
                  exact rw_cast (hL310 0 (by omega) _ _ K121 sh121 e19 none none none ⟨(by omega), (by omega), (FrS_rfl), (fun _ _ => rfl), hA32⟩) (lcons rfl (lcons rfl (lcons rfl (lcons rfl (lcons rfl (lcons rfl (lcons rfl (lcons rfl (lcons rfl (lcons rfl (lcons rfl (lcons rfl (lcons (lvI (by omega)) (lcons rfl (lcons rfl (lcons rfl rfl)))))))))))))))) rfl
                · skip
                  refine rw_of (fun rr hrr => q_iload rfl hrr) ?_
                  refine rw_if_eq ⟨by omega, by omega⟩ (t := 293) rfl (fun hc33 => ?_) (fun hc33 => ?_)
                  · exact absurd hc33 (by decide)
                  · skip
                    refine rw_of (fun rr hrr => q_aload rfl (q_iload rfl (q_aload_n rfl (q_iload rfl (q_lald (j := i) (Ro_call hKl121 hSl121 (Ro_new (Ro_new (Ro_call hK9 hS9 (Ro_call hK7 hS7 (Ro_call hK5 hS5 (Ro_call hK2 hS2 hb))))))) rfl (by omega) (((congrFun (hF121 b (by show ¬ (K9 + 1 + 1 < b ∨ b = (K9 + 1) ∨ b = (K9 + 1 + 1)); omega)) _).trans ((congrFun (kU hu13 (by omega)) _).trans ((congrFun (kU hu11 (by omega)) _).trans ((congrFun (hF5 b (by show ¬ (K2 < b); omega)) _).trans (congrFun (hF2 b (by show ¬ (K < b); omega)) _))))).trans (hbv i (by omega))) (q_last (j := i) (Ro_call hKl121 hSl121 (Ro_new (Ro_made (by omega)))) rfl (by omega) hrr)))))) ?_
                    generalize hm34 : wI nn121 (K9 + 1) i (vF (Sb m0 s i)) = e35
                    refine rw_of (fun rr hrr => q_aload rfl (q_bipush rfl (q_iload rfl (q_iadd (q_aload_n rfl (q_bipush rfl (q_iload rfl (q_iload rfl (q_iconst (q_iconst (q_iconst hrr))))))))))) ?_
                    obtain ⟨_, mm36, pp36, K36, _, _, cc36, ss36, hV36, hK36, hKB36, hS36, rfl, hC36, rfl, rfl⟩ := e_gain (X := X) (K := K121) (sh := sh121) (nn := e35) (d := d) (by omega) hC121 hsk (g := i) (by omega) hc hr hy
                    have hKB36 : K36 ≤ K121 + 1 := hKB36
                    refine rw_of (fun rr hrr => q_invS hV36 rfl rfl (okar_cons rfl (okar_cons rfl (okar_cons rfl (okar_cons rfl (okar_cons rfl (okar_cons rfl (okar_cons rfl okar_nil))))))) (Nat.le_of_ble_eq_true rfl) (q_last (j := 8 + i) (Ro_call hK36 hS36 (Ro_call hKl121 hSl121 (Ro_new (Ro_made (by omega))))) (by omega) (by omega) hrr)) ?_
                    generalize hm37 : wI e35 (K9 + 1) (8 + i) (vF (av (N s) (SA m0 s) (m0 4) y (N s) i)) = e38
                    refine rw_of (fun rr hrr => q_aload rfl (q_iload rfl (q_aload_n rfl (q_bipush rfl (q_iload rfl (q_iload rfl (q_iconst (q_iconst (q_iconst hrr))))))))) ?_
                    obtain ⟨_, mm39, pp39, K39, _, _, cc39, ss39, hV39, hK39, hKB39, hS39, rfl, hC39, rfl, rfl⟩ := e_obs (X := X) (K := K36) (sh := sh121) (nn := e38) (d := d) (by omega) hC36 hsk (g := i) (by omega) hc2 hr2 hy2
                    have hKB39 : K39 ≤ K36 + 1 := hKB39
                    refine rw_of (fun rr hrr => q_invS hV39 rfl rfl (okar_cons rfl (okar_cons rfl (okar_cons rfl (okar_cons rfl (okar_cons rfl (okar_cons rfl (okar_cons rfl okar_nil))))))) (Nat.le_of_ble_eq_true rfl) (q_last (j := i) (Ro_call hK39 hS39 (Ro_call hK36 hS36 (Ro_call hKl121 hSl121 (Ro_made (by omega))))) rfl (by omega) hrr)) ?_
                    generalize hm40 : wI e38 (K9 + 1 + 1) i (vF (av (N s) (trp (SA m0 s)) (fun zz => m0 4 (N s + zz)) y2 (N s) i)) = e41
                    refine rw_of (fun rr hrr => q_aload rfl (q_bipush rfl (q_iload rfl (q_iadd (q_aload_n rfl (q_bipush rfl (q_iload rfl (q_iadd (q_lald (j := 8 + i) (Ro_call hK39 hS39 (Ro_call hK36 hS36 (Ro_call hKl121 hSl121 (Ro_new (Ro_new (Ro_call hK9 hS9 (Ro_call hK7 hS7 (Ro_call hK5 hS5 (Ro_call hK2 hS2 hb))))))))) (by omega) (by omega) (((congrFun (kN hm40 (by omega)) _).trans ((congrFun (kN hm37 (by omega)) _).trans ((congrFun (kN hm34 (by omega)) _).trans ((congrFun (hF121 b (by show ¬ (K9 + 1 + 1 < b ∨ b = (K9 + 1) ∨ b = (K9 + 1 + 1)); omega)) _).trans ((congrFun (kU hu13 (by omega)) _).trans ((congrFun (kU hu11 (by omega)) _).trans ((congrFun (hF5 b (by show ¬ (K2 < b); omega)) _).trans (congrFun (hF2 b (by show ¬ (K < b); omega)) _)))))))).trans (hcv i (by omega))) (q_last (j := 8 + i) (Ro_call hK39 hS39 (Ro_call hK36 hS36 (Ro_call hKl121 hSl121 (Ro_made (by omega))))) (by omega) (by omega) hrr)))))))))) ?_
                    generalize hm42 : wI e41 (K9 + 1 + 1) (8 + i) (vF (Sc m0 s i)) = e43
                    refine rw_of (fun rr hrr => q_aload rfl (q_bipush rfl (q_iload rfl (q_iadd (q_lald (j := 8 + i) (Ro_call hK39 hS39 (Ro_call hK36 hS36 (Ro_call hKl121 hSl121 (Ro_new (Ro_made (by omega)))))) (by omega) (by omega) (((congrFun (kN hm42 (by omega)) _).trans (congrFun (kN hm40 (by omega)) _)).trans (kA hm37)) (q_aload_n rfl (q_bipush rfl (q_iload rfl (q_iload rfl (q_iconst (q_iconst (q_iconst hrr)))))))))))) ?_
                    obtain ⟨_, mm44, pp44, K44, _, _, cc44, ss44, hV44, hK44, hKB44, hS44, rfl, hC44, rfl, rfl⟩ := e_gainA (X := X) (K := K39) (sh := sh121) (nn := e43) (d := d) (by omega) hC39 hsk (g := i) (by omega) hc hr hy
                    have hKB44 : K44 ≤ K39 + 1 := hKB44
                    refine rw_of (fun rr hrr => q_invS hV44 rfl rfl (okar_cons rfl (okar_cons rfl (okar_cons rfl (okar_cons rfl (okar_cons rfl (okar_cons rfl (okar_cons rfl okar_nil))))))) (Nat.le_of_ble_eq_true rfl) hrr) ?_
                    refine rw_icmp_ne (rg_vF _) (rg_vF _) (t := 284) rfl (fun hc45 => ?_) (fun hc45 => ?_)
                    · exfalso; omega
                    · skip
                      refine rw_of (fun rr hrr => q_iload rfl hrr) ?_
                      refine rw_if_eq ⟨by omega, by omega⟩ (t := 239) rfl (fun hc46 => ?_) (fun hc46 => ?_)
                      · exact absurd hc46 (by decide)
                      · skip
                        refine rw_of (fun rr hrr => q_aload rfl (q_bipush rfl (q_iload rfl (q_iadd (q_lald (j := 8 + i) (Ro_call hK44 hS44 (Ro_call hK39 hS39 (Ro_call hK36 hS36 (Ro_call hKl121 hSl121 (Ro_new (Ro_made (by omega))))))) (by omega) (by omega) (((congrFun (kN hm42 (by omega)) _).trans (congrFun (kN hm40 (by omega)) _)).trans (kA hm37)) hrr))))) ?_
                        refine rw_if_lt (rg_vF _) (t := 284) rfl (fun hc47 => ?_) (fun hc47 => ?_)
                        · exfalso; have := vF_ge (av (N s) (SA m0 s) (m0 4) y (N s) i); omega
                        · skip
                          refine rw_of (fun rr hrr => q_goto (t := 253) rfl hrr) ?_
                          refine rw_blk lk_L_areGains_253 ?_
                          refine rw_of (fun rr hrr => q_iload rfl hrr) ?_
                          refine rw_if_eq ⟨by omega, by omega⟩ (t := 269) rfl (fun hc48 => ?_) (fun hc48 => ?_)
                          · exact absurd hc48 (by decide)
                          · skip
                            refine rw_of (fun rr hrr => q_aload rfl (q_iload rfl (q_lald (j := i) (Ro_call hK44 hS44 (Ro_call hK39 hS39 (Ro_call hK36 hS36 (Ro_call hKl121 hSl121 (Ro_made (by omega)))))) rfl (by omega) ((kB hm42 (by omega)).trans (kA hm40)) hrr))) ?_
                            refine rw_if_lt (rg_vF _) (t := 284) rfl (fun hc49 => ?_) (fun hc49 => ?_)
                            · exfalso; have := vF_ge (av (N s) (trp (SA m0 s)) (fun zz => m0 4 (N s + zz)) y2 (N s) i); omega
                            · skip
                              refine rw_of (fun rr hrr => q_goto (t := 280) rfl hrr) ?_
                              refine rw_blk lk_L_areGains_280 ?_
                              refine rw_of (fun rr hrr => q_iconst (q_goto (t := 285) rfl hrr)) ?_
                              refine rw_blk lk_L_areGains_285 ?_
                              refine rw_of (fun rr hrr => q_istore (Nat.le_of_ble_eq_true rfl) rfl (q_iinc rfl rfl (q_goto (t := 121) rfl hrr))) ?_
                              have hA50 : (∀ z, z < (i + 1) → e43 (K9 + 1) z = vF (Sb m0 s z)) ∧ (∀ z, z < (i + 1) → e43 (K9 + 1) (8 + z) = vF (av (N s) (SA m0 s) (m0 4) y (N s) z)) ∧ (∀ z, z < (i + 1) → e43 (K9 + 1 + 1) z = vF (av (N s) (trp (SA m0 s)) (fun zz => m0 4 (N s + zz)) y2 (N s) z)) ∧ (∀ z, z < (i + 1) → e43 (K9 + 1 + 1) (8 + z) = vF (Sc m0 s z)) := by
                                refine ⟨fun z hz => ?_, fun z hz => ?_, fun z hz => ?_, fun z hz => ?_⟩
                                · rw [kN hm42 (by omega), kN hm40 (by omega), kB hm37 (by omega)]
                                  by_cases q : z = i
                                  · rw [q]
                                    exact kA hm34
                                  · exact (kB hm34 q).trans (hk1 z (by omega))
                                · rw [kN hm42 (by omega), kN hm40 (by omega)]
                                  by_cases q : z = i
                                  · rw [q]
                                    exact kA hm37
                                  · rw [kB hm37 (by omega), kB hm34 (by omega)]
                                    exact hk2 z (by omega)
                                · rw [kB hm42 (by omega)]
                                  by_cases q : z = i
                                  · rw [q]
                                    exact kA hm40
                                  · rw [kB hm40 (by omega), kN hm37 (by omega), kN hm34 (by omega)]
                                    exact hl1 z (by omega)
                                · by_cases q : z = i
                                  · rw [q]
                                    exact kA hm42
                                  · rw [kB hm42 (by omega), kB hm40 (by omega), kN hm37 (by omega), kN hm34 (by omega)]
                                    exact hl2 z (by omega)
                              exact rw_cast (ih121 (by omega) _ _ K44 sh121 e43 mm44 pp44 ⟨(by omega), (by omega), ((FrS_tr (by omega) (FrS_tr (by omega) (FrS_tr (by omega) (FrS_tr (by omega) FrS_rfl hSl121) hS36) hS39) hS44)), (fun a9 h9 => ((kN hm42 (by omega)).trans ((kN hm40 (by omega)).trans ((kN hm37 (by omega)).trans ((kN hm34 (by omega)).trans (hF121 a9 (by show ¬ (K9 + 1 + 1 < a9 ∨ a9 = (K9 + 1) ∨ a9 = (K9 + 1 + 1)); omega))))))), hC44, hA50⟩) (lcons rfl (lcons rfl (lcons rfl (lcons rfl (lcons rfl (lcons rfl (lcons rfl (lcons rfl (lcons rfl (lcons rfl (lcons rfl (lcons rfl (lcons (lvI (by omega)) (lcons rfl (lcons rfl (lcons rfl rfl)))))))))))))))) rfl
              have hA51 : (∀ z, z < 0 → e14 (K9 + 1) z = vF (Sb m0 s z)) ∧ (∀ z, z < 0 → e14 (K9 + 1) (8 + z) = vF (av (N s) (SA m0 s) (m0 4) y (N s) z)) ∧ (∀ z, z < 0 → e14 (K9 + 1 + 1) z = vF (av (N s) (trp (SA m0 s)) (fun zz => m0 4 (N s + zz)) y2 (N s) z)) ∧ (∀ z, z < 0 → e14 (K9 + 1 + 1) (8 + z) = vF (Sc m0 s z)) := by
                exact ⟨fun z hz => absurd hz (Nat.not_lt_zero z), fun z hz => absurd hz (Nat.not_lt_zero z), fun z hz => absurd hz (Nat.not_lt_zero z), fun z hz => absurd hz (Nat.not_lt_zero z)⟩
              exact rw_cast (hL121 0 (by omega) _ _ (K9 + 1 + 1) (shU (shU sh5 (K9 + 1) 18) (K9 + 1 + 1) 18) e14 mm9 pp9 ⟨(by omega), (by omega), (FrS_rfl), (fun _ _ => rfl), hC9, hA51⟩) (lcons rfl (lcons rfl (lcons rfl (lcons rfl (lcons rfl (lcons rfl (lcons rfl (lcons rfl (lcons rfl (lcons rfl (lcons rfl (lcons rfl (lcons (lvI (by omega)) (lcons rfl (lcons rfl (lcons rfl rfl)))))))))))))))) rfl
theorem c_L_areGains10 {d : Nat} {X : MC} {m0 m : M1} {p : M2} {K : Nat} {sh : Nat → Nat} {nn : N2} (hd : 10 ≤ d) (hK : 260 ≤ K) (a b rp gg s : Nat) (PP : Nat → F) (k cp ci : Nat) (N : Nat → Nat) (y : Nat → F) (hC : CS m0 k N cp ci m p) (hsk : s < k) (ha : Ro K sh a 64) (hb : Ro K sh b 18) (hA : Mv nn a (N s) (SA m0 s)) (hbv : ∀ i, i < N s → nn b i = vF (Sb m0 s i)) (hcv : ∀ i, i < N s → nn b (8 + i) = vF (Sc m0 s i)) (hbd : nn b 16 = vF (Sd m0 s)) (hbn : nn b 17 = ((N s : Nat) : Int)) (hpr : Ro K sh rp 32) (hgr : Ro K sh gg 3) (hpp : ∀ i, i < 32 → nn rp i = vF (PP i)) (hpc : ∀ i, i < cp → PP i = m0 4 i) (hg1 : nn gg 1 = (cp : Int)) (hc : N s ≤ cp) (hr : rk (N s) (kr (N s) (SA m0 s) (Sb m0 s)) = N s) (hy : Du (N s) (SA m0 s) (Sb m0 s) y) (hcn2 : ¬ (2 * N s ≤ cp ∧ rk (N s) (kr (N s) (trp (SA m0 s)) (Sc m0 s)) = N s)) : Lc d k_L_areGains X [.ref (1), .ref (a), .ref (b), .ref (rp), .ref (gg), .int (iI (((s : Nat) : Int)))] m p K sh nn (fun v m' p' K' sh' n' => v = some (.int (iI 1)) ∧ CS m0 k N cp ci m' p' ∧ FrN (fun a_ => K < a_) nn n') := by
  obtain ⟨d, rfl⟩ : ∃ e, d = e + 1 := ⟨d - 1, by omega⟩
  have ha8 := ha.1; have ha9 := ha.2.1
  have hb8 := hb.1; have hb9 := hb.2.1
  have hpr8 := hpr.1; have hpr9 := hpr.2.1
  have hgr8 := hgr.1; have hgr9 := hgr.2.1
  have hn1 := hC.N1 hsk
  have hn := hC.N8 hsk
  have hp16 := hC.p16
  have hdr0 : drk (N s) (kr (N s) (SA m0 s) (Sb m0 s)) = rk (N s) (kr (N s) (SA m0 s) (Sb m0 s)) := drk_rk
  have hdr1 : drk (N s) (kr (N s) (trp (SA m0 s)) (Sc m0 s)) = rk (N s) (kr (N s) (trp (SA m0 s)) (Sc m0 s)) := drk_rk
  have hdl0 := drk_le (n := N s) (W := kr (N s) (SA m0 s) (Sb m0 s))
  have hdl1 := drk_le (n := N s) (W := kr (N s) (trp (SA m0 s)) (Sc m0 s))
  refine lc_go (lv := [some (.ref (1)), some (.ref (a)), some (.ref (b)), some (.ref (rp)), some (.ref (gg)), some (.int (iI (((s : Nat) : Int)))), none, none, none, none, none, none, none, none, none, none]) (B := 66) (Nat.le_of_ble_eq_true rfl) (okar_cons rfl (okar_cons rfl (okar_cons rfl (okar_cons rfl (okar_cons rfl (okar_cons rfl okar_nil)))))) rfl rfl (fun Qr hQ => ?_)
  refine rw_blk lk_L_areGains_0 ?_
  refine rw_of (fun rr hrr => q_aload_n rfl (q_bipush rfl (q_lald (j := 17) hb rfl (by omega) hbn (q_istore (Nat.le_of_ble_eq_true rfl) rfl (q_aload rfl (q_iconst (q_lald (j := 1) hgr rfl (by omega) hg1 (q_iload rfl hrr)))))))) ?_
  refine rw_icmp_lt ⟨by omega, by omega⟩ ⟨by omega, by omega⟩ (t := 30) rfl (fun hc1 => ?_) (fun hc1 => ?_)
  · exfalso; omega
  · skip
    refine rw_of (fun rr hrr => q_aload_n rfl (q_aload_n rfl (q_iconst hrr))) ?_
    obtain ⟨_, mm2, pp2, K2, sh2, e2, cc2, ss2, hV2, hK2, hKB2, hS2, rfl, rfl, rfl, hF2⟩ := c_L_rankOf0 (X := X) (m := m) (p := p) (K := K) (sh := sh) (nn := nn) (d := d) (by omega) (by omega) a b (N s) (SA m0 s) (Sb m0 s) (Sc m0 s) (ha) (hb) hn (Mv_k hA rfl) (fun z hz => (congrFun rfl _).trans (hbv z hz)) (fun z hz => (congrFun rfl _).trans (hcv z hz)) ((congrFun rfl _).trans hbn)
    have hKB2 : K2 ≤ K + 10 := hKB2
    refine rw_of (fun rr hrr => q_invS hV2 rfl rfl (okar_cons rfl (okar_cons rfl (okar_cons rfl okar_nil))) (Nat.le_of_ble_eq_true rfl) (q_iload rfl hrr)) ?_
    refine rw_icmp_ne ⟨by omega, by omega⟩ ⟨by omega, by omega⟩ (t := 30) rfl (fun hc3 => ?_) (fun hc3 => ?_)
    · exfalso; omega
    · skip
      refine rw_of (fun rr hrr => q_iconst (q_goto (t := 31) rfl hrr)) ?_
      refine rw_blk lk_L_areGains_31 ?_
      refine rw_of (fun rr hrr => q_istore (Nat.le_of_ble_eq_true rfl) rfl (q_aload rfl (q_iconst (q_lald (j := 1) (Ro_call hK2 hS2 hgr) rfl (by omega) ((congrFun (hF2 gg (by show ¬ (K < gg); omega)) _).trans hg1) (q_iconst (q_iload rfl (q_imul hrr))))))) ?_
      have hL60 : ∀ (cc ss : Nat) (K60 : Nat) (sh60 : Nat → Nat) (nn60 : N2), (K2 ≤ K60 ∧ K60 ≤ K2 + 10 ∧ FrS K2 sh2 sh60 ∧ FrN (fun a_ => K2 < a_) e2 nn60) → Rw (Ev d) k_L_areGains (60, [], [some (.ref (1)), some (.ref (a)), some (.ref (b)), some (.ref (rp)), some (.ref (gg)), some (.int (iI (((s : Nat) : Int)))), some (.int (iI (((N s : Nat) : Int)))), some (.int (iI (1))), none, none, none, none, none, none, none, none], [.int (iI (0))], hB X m p K60 sh60 nn60, cc, ss) Qr := by
        intro cc ss K60 sh60 nn60
        intro hI
        obtain ⟨hKl60, hBl60, hSl60, hF60⟩ := hI
        refine rw_blk lk_L_areGains_60 ?_
        refine rw_of (fun rr hrr => q_istore (Nat.le_of_ble_eq_true rfl) rfl (q_aload_n rfl (q_bipush rfl (q_iload rfl (q_iload rfl (q_iconst (q_iconst (q_iconst hrr)))))))) ?_
        obtain ⟨_, mm4, pp4, K4, _, _, cc4, ss4, hV4, hK4, hKB4, hS4, rfl, hC4, rfl, rfl⟩ := e_gainP (X := X) (K := K60) (sh := sh60) (nn := nn60) (d := d) (by omega) hC hsk
        have hKB4 : K4 ≤ K60 + 1 := hKB4
        refine rw_of (fun rr hrr => q_invS hV4 rfl rfl (okar_cons rfl (okar_cons rfl (okar_cons rfl (okar_cons rfl (okar_cons rfl (okar_cons rfl (okar_cons rfl okar_nil))))))) (Nat.le_of_ble_eq_true rfl) (q_sipush rfl hrr)) ?_
        refine rw_icmp_ne ⟨by omega, by omega⟩ ⟨by omega, by omega⟩ (t := 103) rfl (fun hc5 => ?_) (fun hc5 => ?_)
        · exact absurd hc5 (by decide)
        · skip
          refine rw_of (fun rr hrr => q_aload_n rfl (q_bipush rfl (q_iload rfl (q_iconst (q_iconst (q_iconst (q_iconst hrr))))))) ?_
          obtain ⟨_, mm6, pp6, K6, _, _, cc6, ss6, hV6, hK6, hKB6, hS6, rfl, hC6, rfl, rfl⟩ := e_obsP (X := X) (K := K4) (sh := sh60) (nn := nn60) (d := d) (by omega) hC4 hsk
          have hKB6 : K6 ≤ K4 + 1 := hKB6
          refine rw_of (fun rr hrr => q_invS hV6 rfl rfl (okar_cons rfl (okar_cons rfl (okar_cons rfl (okar_cons rfl (okar_cons rfl (okar_cons rfl (okar_cons rfl okar_nil))))))) (Nat.le_of_ble_eq_true rfl) (q_sipush rfl hrr)) ?_
          refine rw_icmp_ne ⟨by omega, by omega⟩ ⟨by omega, by omega⟩ (t := 103) rfl (fun hc7 => ?_) (fun hc7 => ?_)
          · exact absurd hc7 (by decide)
          · skip
            refine rw_of (fun rr hrr => q_iconst (q_goto (t := 104) rfl hrr)) ?_
            refine rw_blk lk_L_areGains_104 ?_
            refine rw_of (fun rr hrr => q_istore (Nat.le_of_ble_eq_true rfl) rfl (q_bipush rfl (q_lnew (l := 18) (by omega) rfl (by omega) hrr))) ?_
            generalize hu8 : nU nn60 (K6 + 1) = e9
            refine rw_of (fun rr hrr => q_astore (Nat.le_of_ble_eq_true rfl) rfl (q_bipush rfl (q_lnew (l := 18) (by omega) rfl (by omega) hrr))) ?_
            generalize hu10 : nU e9 (K6 + 1 + 1) = e11
            refine rw_of (fun rr hrr => q_astore (Nat.le_of_ble_eq_true rfl) rfl (q_iconst (q_istore (Nat.le_of_ble_eq_true rfl) rfl hrr))) ?_
            have hL121 : ∀ i, i ≤ N s → ∀ (cc ss : Nat) (K121 : Nat) (sh121 : Nat → Nat) (nn121 : N2) (m121 : M1) (p121 : M2), (K6 + 1 + 1 ≤ K121 ∧ K121 ≤ K6 + 1 + 1 + 3 * i ∧ FrS (K6 + 1 + 1) (shU (shU sh60 (K6 + 1) 18) (K6 + 1 + 1) 18) sh121 ∧ FrN (fun a_ => K6 + 1 + 1 < a_ ∨ a_ = (K6 + 1) ∨ a_ = (K6 + 1 + 1)) e11 nn121 ∧ CS m0 k N cp ci m121 p121 ∧ ((∀ z, z < i → nn121 (K6 + 1) z = vF (Sb m0 s z)) ∧ (∀ z, z < i → nn121 (K6 + 1) (8 + z) = vF (av (N s) (SA m0 s) (m0 4) y (N s) z)) ∧ (∀ z, z < i → nn121 (K6 + 1 + 1) z = -1000) ∧ (∀ z, z < i → nn121 (K6 + 1 + 1) (8 + z) = vF (Sc m0 s z)))) → Rw (Ev d) k_L_areGains (121, [], [some (.ref (1)), some (.ref (a)), some (.ref (b)), some (.ref (rp)), some (.ref (gg)), some (.int (iI (((s : Nat) : Int)))), some (.int (iI (((N s : Nat) : Int)))), some (.int (iI (1))), some (.int (iI (0))), some (.int (iI (1))), some (.ref (K6 + 1)), some (.ref (K6 + 1 + 1)), some (.int (iI (((i : Nat) : Int)))), none, none, none], [], hB X m121 p121 K121 sh121 nn121, cc, ss) Qr := by
              refine loop_any (fun i hi121 ih121 => ?_)
              intro cc ss K121 sh121 nn121 m121 p121
              intro hI
              obtain ⟨hKl121, hBl121, hSl121, hF121, hC121, ⟨hk1, hk2, hl1, hl2⟩⟩ := hI
              refine rw_blk lk_L_areGains_121 ?_
              refine rw_of (fun rr hrr => q_iload rfl (q_iload rfl hrr)) ?_
              refine rw_icmp_ge ⟨by omega, by omega⟩ ⟨by omega, by omega⟩ (t := 293) rfl (fun hc12 => ?_) (fun hc12 => ?_)
              · skip
                refine rw_blk lk_L_areGains_293 ?_
                refine rw_of (fun rr hrr => q_aload rfl (q_bipush rfl (q_iload rfl (q_last (j := 17) (Ro_call hKl121 hSl121 (Ro_new (Ro_made (by omega)))) rfl (by omega) hrr)))) ?_
                generalize hm13 : wI nn121 (K6 + 1) 17 (((N s : Nat) : Int)) = e14
                refine rw_of (fun rr hrr => q_aload rfl (q_bipush rfl (q_iload rfl (q_last (j := 17) (Ro_call hKl121 hSl121 (Ro_made (by omega))) rfl (by omega) hrr)))) ?_
                generalize hm15 : wI e14 (K6 + 1 + 1) 17 (((N s : Nat) : Int)) = e16
                refine rw_of (fun rr hrr => q_iconst (q_istore (Nat.le_of_ble_eq_true rfl) rfl hrr)) ?_
                have hL310 : ∀ x, x ≤ N s + 1 → ∀ (cc ss : Nat) (K310 : Nat) (sh310 : Nat → Nat) (nn310 : N2) (x310_13 : Option Value) (x310_14 : Option Value) (x310_15 : Option Value), (K121 ≤ K310 ∧ K310 ≤ K121 + 2 * x ∧ FrS K121 sh121 sh310 ∧ FrN (fun a_ => K121 < a_) e16 nn310 ∧ ((∀ z, z < N s → nn310 (K6 + 1) z = vF (Sb m0 s z)) ∧ (∀ z, z < N s → nn310 (K6 + 1) (8 + z) = vF (av (N s) (SA m0 s) (m0 4) y (N s) z)) ∧ (∀ z, z < N s → nn310 (K6 + 1 + 1) z = -1000) ∧ (∀ z, z < N s → nn310 (K6 + 1 + 1) (8 + z) = vF (Sc m0 s z)) ∧ nn310 (K6 + 1) 17 = ((N s : Nat) : Int) ∧ nn310 (K6 + 1 + 1) 17 = ((N s : Nat) : Int))) → Rw (Ev d) k_L_areGains (310, [], [some (.ref (1)), some (.ref (a)), some (.ref (b)), some (.ref (rp)), some (.ref (gg)), some (.int (iI (((s : Nat) : Int)))), some (.int (iI (((N s : Nat) : Int)))), some (.int (iI (1))), some (.int (iI (0))), some (.int (iI (1))), some (.ref (K6 + 1)), some (.ref (K6 + 1 + 1)), some (.int (iI (((x : Nat) : Int)))), x310_13, x310_14, x310_15], [], hB X m121 p121 K310 sh310 nn310, cc, ss) Qr := by
                  refine loop_any (fun x hi310 ih310 => ?_)
                  intro cc ss K310 sh310 nn310 x310_13 x310_14 x310_15
                  intro hI
                  obtain ⟨hKl310, hBl310, hSl310, hF310, ⟨gk1, gk2, gl1, gl2, gk3, gl3⟩⟩ := hI
                  refine rw_blk lk_L_areGains_310 ?_
                  refine rw_of (fun rr hrr => q_iload rfl (q_iload rfl hrr)) ?_
                  refine rw_icmp_gt ⟨by omega, by omega⟩ ⟨by omega, by omega⟩ (t := 436) rfl (fun hc17 => ?_) (fun hc17 => ?_)
                  · skip
                    refine rw_blk lk_L_areGains_436 ?_
                    refine rw_of (fun rr hrr => q_iload rfl hrr) ?_
                    refine lw_end hQ (q_ireturn (by omega)) (by omega) (by omega) (FrS_tr (by omega) (FrS_tr (by omega) (FrS_tr (by omega) (FrS_tr (by omega) (FrS_tr (by omega) (FrS_tr (by omega) (FrS_tr (by omega) (FrS_tr (by omega) FrS_rfl hS2) hSl60) hS4) hS6) FrS_new) FrS_new) hSl121) hSl310) ?_
                    exact ⟨rfl, hC121, fun a9 h9 => ((hF310 a9 (by show ¬ (K121 < a9); omega)).trans ((kN hm15 (by omega)).trans ((kN hm13 (by omega)).trans ((hF121 a9 (by show ¬ (K6 + 1 + 1 < a9 ∨ a9 = (K6 + 1) ∨ a9 = (K6 + 1 + 1)); omega)).trans ((kU hu10 (by omega)).trans ((kU hu8 (by omega)).trans ((hF60 a9 (by show ¬ (K2 < a9); omega)).trans (hF2 a9 (by show ¬ (K < a9); omega)))))))))⟩
                  · skip
                    refine rw_of (fun rr hrr => q_iload rfl hrr) ?_
                    refine rw_if_eq ⟨by omega, by omega⟩ (t := 436) rfl (fun hc18 => ?_) (fun hc18 => ?_)
                    · exact absurd hc18 (by decide)
                    · skip
                      refine rw_of (fun rr hrr => q_iconst (q_istore (Nat.le_of_ble_eq_true rfl) rfl (q_iconst (q_istore (Nat.le_of_ble_eq_true rfl) rfl (q_iconst (q_istore (Nat.le_of_ble_eq_true rfl) rfl hrr)))))) ?_
                      have hL331 : ∀ i, i ≤ N s → ∀ (cc ss : Nat) , Rw (Ev d) k_L_areGains (331, [], [some (.ref (1)), some (.ref (a)), some (.ref (b)), some (.ref (rp)), some (.ref (gg)), some (.int (iI (((s : Nat) : Int)))), some (.int (iI (((N s : Nat) : Int)))), some (.int (iI (1))), some (.int (iI (0))), some (.int (iI (1))), some (.ref (K6 + 1)), some (.ref (K6 + 1 + 1)), some (.int (iI (((x : Nat) : Int)))), some (.int (iI (vF (prd PP (nF x) i)))), some (.int (iI (vF (prd (fun zz => PP (N s + zz)) (nF x) i)))), some (.int (iI (((i : Nat) : Int))))], [], hB X m121 p121 K310 sh310 nn310, cc, ss) Qr := by
                        refine loop_any (fun i hi331 ih331 => ?_)
                        intro cc ss
                        refine rw_blk lk_L_areGains_331 ?_
                        refine rw_of (fun rr hrr => q_iload rfl (q_iload rfl hrr)) ?_
                        refine rw_icmp_ge ⟨by omega, by omega⟩ ⟨by omega, by omega⟩ (t := 385) rfl (fun hc19 => ?_) (fun hc19 => ?_)
                        · skip
                          refine rw_blk lk_L_areGains_385 ?_
                          refine rw_of (fun rr hrr => q_iload rfl hrr) ?_
                          refine rw_if_eq ⟨by omega, by omega⟩ (t := 404) rfl (fun hc20 => ?_) (fun hc20 => ?_)
                          · exact absurd hc20 (by decide)
                          · skip
                            refine rw_of (fun rr hrr => q_aload_n rfl (q_aload rfl (q_iload rfl (q_eqv (show (((x : Nat) : Int) : Int) = vF (nF x) from (vF_nF (by omega)).symm) (q_iconst hrr))))) ?_
                            obtain ⟨_, mm21, pp21, K21, sh21, e21, cc21, ss21, hV21, hK21, hKB21, hS21, rfl, rfl, rfl, hF21⟩ := c_L_at1 (X := X) (m := m121) (p := p121) (K := K310) (sh := sh310) (nn := nn310) (d := d) (by omega) (by omega) a (K6 + 1) (N s) (nF x) (SA m0 s) (Sb m0 s) (av (N s) (SA m0 s) (m0 4) y (N s)) ((Ro_call hKl310 hSl310 (Ro_call hKl121 hSl121 (Ro_new (Ro_new (Ro_call hK6 hS6 (Ro_call hK4 hS4 (Ro_call hKl60 hSl60 (Ro_call hK2 hS2 ha))))))))) ((Ro_call hKl310 hSl310 (Ro_call hKl121 hSl121 (Ro_new (Ro_made (by omega)))))) hn (Mv_k hA ((hF310 a (by show ¬ (K121 < a); omega)).trans ((kN hm15 (by omega)).trans ((kN hm13 (by omega)).trans ((hF121 a (by show ¬ (K6 + 1 + 1 < a ∨ a = (K6 + 1) ∨ a = (K6 + 1 + 1)); omega)).trans ((kU hu10 (by omega)).trans ((kU hu8 (by omega)).trans ((hF60 a (by show ¬ (K2 < a); omega)).trans (hF2 a (by show ¬ (K < a); omega)))))))))) (fun z hz => (congrFun rfl _).trans (gk1 z hz)) (fun z hz => (congrFun rfl _).trans (gk2 z hz)) ((congrFun rfl _).trans gk3)
                            have hKB21 : K21 ≤ K310 + 1 := hKB21
                            refine rw_of (fun rr hrr => q_invS hV21 rfl rfl (okar_cons rfl (okar_cons rfl (okar_cons rfl (okar_cons rfl okar_nil)))) (Nat.le_of_ble_eq_true rfl) hrr) ?_
                            have hat1 : dta (N s) (atM (SA m0 s) (Sb m0 s) (av (N s) (SA m0 s) (m0 4) y (N s)) (nF x) 1) = vF (prd PP (nF x) i) := by
                              rw [dta_dt, gain_dt hn hr hy (fun _ _ => rfl), show i = N s by omega]
                              exact congrArg vF (prd_cg (N s) (fun z hz => (hpc z (by omega)).symm))
                            refine rw_of (fun rr hrr => q_iload rfl hrr) ?_
                            refine rw_icmp_ne (by rw [hat1]; exact rg_vF _) (rg_vF _) (t := 427) rfl (fun hc22 => ?_) (fun hc22 => ?_)
                            · exact absurd hat1 hc22
                            · skip
                              refine rw_blk lk_L_areGains_404 ?_
                              refine rw_of (fun rr hrr => q_iload rfl hrr) ?_
                              refine rw_if_eq ⟨by omega, by omega⟩ (t := 423) rfl (fun hc23 => ?_) (fun hc23 => ?_)
                              · skip
                                refine rw_blk lk_L_areGains_423 ?_
                                refine rw_of (fun rr hrr => q_iconst (q_goto (t := 428) rfl hrr)) ?_
                                refine rw_blk lk_L_areGains_428 ?_
                                refine rw_of (fun rr hrr => q_istore (Nat.le_of_ble_eq_true rfl) rfl (q_iinc rfl rfl (q_goto (t := 310) rfl hrr))) ?_
                                have hA24 : (∀ z, z < N s → e21 (K6 + 1) z = vF (Sb m0 s z)) ∧ (∀ z, z < N s → e21 (K6 + 1) (8 + z) = vF (av (N s) (SA m0 s) (m0 4) y (N s) z)) ∧ (∀ z, z < N s → e21 (K6 + 1 + 1) z = -1000) ∧ (∀ z, z < N s → e21 (K6 + 1 + 1) (8 + z) = vF (Sc m0 s z)) ∧ e21 (K6 + 1) 17 = ((N s : Nat) : Int) ∧ e21 (K6 + 1 + 1) 17 = ((N s : Nat) : Int) := by
                                  have ek : e21 (K6 + 1) = nn310 (K6 + 1) := (hF21 (K6 + 1) (by show ¬ (K310 < (K6 + 1)); omega))
                                  have el : e21 (K6 + 1 + 1) = nn310 (K6 + 1 + 1) := (hF21 (K6 + 1 + 1) (by show ¬ (K310 < (K6 + 1 + 1)); omega))
                                  exact ⟨fun z hz => (congrFun ek _).trans (gk1 z hz), fun z hz => (congrFun ek _).trans (gk2 z hz), fun z hz => (congrFun el _).trans (gl1 z hz), fun z hz => (congrFun el _).trans (gl2 z hz), (congrFun ek _).trans gk3, (congrFun el _).trans gl3⟩
                                exact rw_cast (ih310 (by omega) _ _ K21 sh21 e21 (some (.int (iI (vF (prd PP (nF x) i))))) (some (.int (iI (vF (prd (fun zz => PP (N s + zz)) (nF x) i))))) (some (.int (iI (((i : Nat) : Int))))) ⟨(by omega), (by omega), ((FrS_tr (by omega) (FrS_tr (by omega) FrS_rfl hSl310) hS21)), (fun a9 h9 => ((hF21 a9 (by show ¬ (K310 < a9); omega)).trans (hF310 a9 (by show ¬ (K121 < a9); omega)))), hA24⟩) (lcons rfl (lcons rfl (lcons rfl (lcons rfl (lcons rfl (lcons rfl (lcons rfl (lcons rfl (lcons rfl (lcons rfl (lcons rfl (lcons rfl (lcons (lvI (by omega)) (lcons rfl (lcons rfl (lcons rfl rfl)))))))))))))))) rfl
                              · exact absurd hc23 (by decide)
                        · skip
                          refine rw_of (fun rr hrr => q_iload rfl (q_iload rfl (q_aload_n rfl (q_iload rfl (q_lald (j := i) (Ro_call hKl310 hSl310 (Ro_call hKl121 hSl121 (Ro_new (Ro_new (Ro_call hK6 hS6 (Ro_call hK4 hS4 (Ro_call hKl60 hSl60 (Ro_call hK2 hS2 hpr)))))))) rfl (by omega) (((congrFun (hF310 rp (by show ¬ (K121 < rp); omega)) _).trans ((congrFun (kN hm15 (by omega)) _).trans ((congrFun (kN hm13 (by omega)) _).trans ((congrFun (hF121 rp (by show ¬ (K6 + 1 + 1 < rp ∨ rp = (K6 + 1) ∨ rp = (K6 + 1 + 1)); omega)) _).trans ((congrFun (kU hu10 (by omega)) _).trans ((congrFun (kU hu8 (by omega)) _).trans ((congrFun (hF60 rp (by show ¬ (K2 < rp); omega)) _).trans (congrFun (hF2 rp (by show ¬ (K < rp); omega)) _)))))))).trans (hpp i (by omega))) (q_isub hrr)))))) ?_
                          obtain ⟨_, _, _, hV25, rfl, rfl, rfl⟩ := c_L_rest (S := (K310, gB X sh310 nn310)) (fz := false) (m := m121) (p := p121) (d := d) (by omega) ((((x : Nat) : Int) - vF (PP i))) ((nF (x) - (PP i))) ⟨by have := vF_ge (PP i); have := vF_lt (PP i); omega, by have := vF_ge (PP i); have := vF_lt (PP i); omega⟩ (by simp only [toF_add, toF_mul, toF_sub, toF_neg, toF_vF, toF_nat, toF_0, toF_1, toF_M, F_add0, F_0sub])
                          refine rw_of (fun rr hrr => q_invS hV25 rfl rfl (okar_cons rfl okar_nil) (Nat.le_of_ble_eq_true rfl) (q_imul (q_sipush rfl (q_irem (rg_times _ _) ⟨by omega, by omega⟩ (by omega) (remF (Int.mul_nonneg (vF_ge _) (vF_ge _)) (show toF ((vF (prd PP (nF x) i) * vF ((nF (x) - (PP i))))) = ((prd PP (nF x) i) * ((nF (x) - (PP i)))) by simp only [toF_add, toF_mul, toF_sub, toF_neg, toF_vF, toF_nat, toF_0, toF_1, toF_M, F_add0, F_0sub])) (q_istore (Nat.le_of_ble_eq_true rfl) rfl (q_iload rfl (q_iload rfl (q_aload_n rfl (q_iload rfl (q_iload rfl (q_iadd (q_lald (j := N s + i) (Ro_call hKl310 hSl310 (Ro_call hKl121 hSl121 (Ro_new (Ro_new (Ro_call hK6 hS6 (Ro_call hK4 hS4 (Ro_call hKl60 hSl60 (Ro_call hK2 hS2 hpr)))))))) (by omega) (by omega) (((congrFun (hF310 rp (by show ¬ (K121 < rp); omega)) _).trans ((congrFun (kN hm15 (by omega)) _).trans ((congrFun (kN hm13 (by omega)) _).trans ((congrFun (hF121 rp (by show ¬ (K6 + 1 + 1 < rp ∨ rp = (K6 + 1) ∨ rp = (K6 + 1 + 1)); omega)) _).trans ((congrFun (kU hu10 (by omega)) _).trans ((congrFun (kU hu8 (by omega)) _).trans ((congrFun (hF60 rp (by show ¬ (K2 < rp); omega)) _).trans (congrFun (hF2 rp (by show ¬ (K < rp); omega)) _)))))))).trans (hpp (N s + i) (by omega))) (q_isub hrr))))))))))))) ?_
                          obtain ⟨_, _, _, hV26, rfl, rfl, rfl⟩ := c_L_rest (S := (K310, gB X sh310 nn310)) (fz := false) (m := m121) (p := p121) (d := d) (by omega) ((((x : Nat) : Int) - vF (PP (N s + i)))) ((nF (x) - (PP (N s + i)))) ⟨by have := vF_ge (PP (N s + i)); have := vF_lt (PP (N s + i)); omega, by have := vF_ge (PP (N s + i)); have := vF_lt (PP (N s + i)); omega⟩ (by simp only [toF_add, toF_mul, toF_sub, toF_neg, toF_vF, toF_nat, toF_0, toF_1, toF_M, F_add0, F_0sub])
                          refine rw_of (fun rr hrr => q_invS hV26 rfl rfl (okar_cons rfl okar_nil) (Nat.le_of_ble_eq_true rfl) (q_imul (q_sipush rfl (q_irem (rg_times _ _) ⟨by omega, by omega⟩ (by omega) (remF (Int.mul_nonneg (vF_ge _) (vF_ge _)) (show toF ((vF (prd (fun zz => PP (N s + zz)) (nF x) i) * vF ((nF (x) - (PP (N s + i)))))) = ((prd (fun zz => PP (N s + zz)) (nF x) i) * ((nF (x) - (PP (N s + i))))) by simp only [toF_add, toF_mul, toF_sub, toF_neg, toF_vF, toF_nat, toF_0, toF_1, toF_M, F_add0, F_0sub])) (q_istore (Nat.le_of_ble_eq_true rfl) rfl (q_iinc rfl rfl (q_goto (t := 331) rfl hrr))))))) ?_
                          exact rw_cast (ih331 (by omega) _ _) (lcons rfl (lcons rfl (lcons rfl (lcons rfl (lcons rfl (lcons rfl (lcons rfl (lcons rfl (lcons rfl (lcons rfl (lcons rfl (lcons rfl (lcons rfl (lcons (lvI (by exact congrArg vF (by first | rfl | grind))) (lcons (lvI (by exact congrArg vF (by first | rfl | grind))) (lcons (lvI (by omega)) rfl)))))))))))))))) rfl
                      exact rw_cast (hL331 0 (by omega) _ _) (lcons rfl (lcons rfl (lcons rfl (lcons rfl (lcons rfl (lcons rfl (lcons rfl (lcons rfl (lcons rfl (lcons rfl (lcons rfl (lcons rfl (lcons rfl (lcons (lvI (by rfl)) (lcons (lvI (by rfl)) (lcons (lvI (by omega)) rfl)))))))))))))))) rfl
                have hA27 : (∀ z, z < N s → e16 (K6 + 1) z = vF (Sb m0 s z)) ∧ (∀ z, z < N s → e16 (K6 + 1) (8 + z) = vF (av (N s) (SA m0 s) (m0 4) y (N s) z)) ∧ (∀ z, z < N s → e16 (K6 + 1 + 1) z = -1000) ∧ (∀ z, z < N s → e16 (K6 + 1 + 1) (8 + z) = vF (Sc m0 s z)) ∧ e16 (K6 + 1) 17 = ((N s : Nat) : Int) ∧ e16 (K6 + 1 + 1) 17 = ((N s : Nat) : Int) := by
                  refine ⟨fun z hz => ?_, fun z hz => ?_, fun z hz => ?_, fun z hz => ?_, (congrFun (kN hm15 (by omega)) _).trans (kA hm13), kA hm15⟩
                  · exact (congrFun (kN hm15 (by omega)) _).trans ((kB hm13 (by omega)).trans (hk1 z (by omega)))
                  · exact (congrFun (kN hm15 (by omega)) _).trans ((kB hm13 (by omega)).trans (hk2 z (by omega)))
                  · exact (kB hm15 (by omega)).trans ((congrFun (kN hm13 (by omega)) _).trans (hl1 z (by omega)))
                  · exact (kB hm15 (by omega)).trans ((congrFun (kN hm13 (by omega)) _).trans (hl2 z (by omega)))
                exact rw_cast (hL310 0 (by omega) _ _ K121 sh121 e16 none none none ⟨(by omega), (by omega), (FrS_rfl), (fun _ _ => rfl), hA27⟩) (lcons rfl (lcons rfl (lcons rfl (lcons rfl (lcons rfl (lcons rfl (lcons rfl (lcons rfl (lcons rfl (lcons rfl (lcons rfl (lcons rfl (lcons (lvI (by omega)) (lcons rfl (lcons rfl (lcons rfl rfl)))))))))))))))) rfl
              · skip
                refine rw_of (fun rr hrr => q_iload rfl hrr) ?_
                refine rw_if_eq ⟨by omega, by omega⟩ (t := 293) rfl (fun hc28 => ?_) (fun hc28 => ?_)
                · exact absurd hc28 (by decide)
                · skip
                  refine rw_of (fun rr hrr => q_aload rfl (q_iload rfl (q_aload_n rfl (q_iload rfl (q_lald (j := i) (Ro_call hKl121 hSl121 (Ro_new (Ro_new (Ro_call hK6 hS6 (Ro_call hK4 hS4 (Ro_call hKl60 hSl60 (Ro_call hK2 hS2 hb))))))) rfl (by omega) (((congrFun (hF121 b (by show ¬ (K6 + 1 + 1 < b ∨ b = (K6 + 1) ∨ b = (K6 + 1 + 1)); omega)) _).trans ((congrFun (kU hu10 (by omega)) _).trans ((congrFun (kU hu8 (by omega)) _).trans ((congrFun (hF60 b (by show ¬ (K2 < b); omega)) _).trans (congrFun (hF2 b (by show ¬ (K < b); omega)) _))))).trans (hbv i (by omega))) (q_last (j := i) (Ro_call hKl121 hSl121 (Ro_new (Ro_made (by omega)))) rfl (by omega) hrr)))))) ?_
                  generalize hm29 : wI nn121 (K6 + 1) i (vF (Sb m0 s i)) = e30
                  refine rw_of (fun rr hrr => q_aload rfl (q_bipush rfl (q_iload rfl (q_iadd (q_aload_n rfl (q_bipush rfl (q_iload rfl (q_iload rfl (q_iconst (q_iconst (q_iconst hrr))))))))))) ?_
                  obtain ⟨_, mm31, pp31, K31, _, _, cc31, ss31, hV31, hK31, hKB31, hS31, rfl, hC31, rfl, rfl⟩ := e_gain (X := X) (K := K121) (sh := sh121) (nn := e30) (d := d) (by omega) hC121 hsk (g := i) (by omega) hc hr hy
                  have hKB31 : K31 ≤ K121 + 1 := hKB31
                  refine rw_of (fun rr hrr => q_invS hV31 rfl rfl (okar_cons rfl (okar_cons rfl (okar_cons rfl (okar_cons rfl (okar_cons rfl (okar_cons rfl (okar_cons rfl okar_nil))))))) (Nat.le_of_ble_eq_true rfl) (q_last (j := 8 + i) (Ro_call hK31 hS31 (Ro_call hKl121 hSl121 (Ro_new (Ro_made (by omega))))) (by omega) (by omega) hrr)) ?_
                  generalize hm32 : wI e30 (K6 + 1) (8 + i) (vF (av (N s) (SA m0 s) (m0 4) y (N s) i)) = e33
                  refine rw_of (fun rr hrr => q_aload rfl (q_iload rfl (q_aload_n rfl (q_bipush rfl (q_iload rfl (q_iload rfl (q_iconst (q_iconst (q_iconst hrr))))))))) ?_
                  obtain ⟨_, mm34, pp34, K34, _, _, cc34, ss34, hV34, hK34, hKB34, hS34, rfl, hC34, rfl, rfl⟩ := e_obsN (X := X) (K := K31) (sh := sh121) (nn := e33) (d := d) (by omega) hC31 hsk (g := i) (by omega) hcn2
                  have hKB34 : K34 ≤ K31 + 1 := hKB34
                  refine rw_of (fun rr hrr => q_invS hV34 rfl rfl (okar_cons rfl (okar_cons rfl (okar_cons rfl (okar_cons rfl (okar_cons rfl (okar_cons rfl (okar_cons rfl okar_nil))))))) (Nat.le_of_ble_eq_true rfl) (q_last (j := i) (Ro_call hK34 hS34 (Ro_call hK31 hS31 (Ro_call hKl121 hSl121 (Ro_made (by omega))))) rfl (by omega) hrr)) ?_
                  generalize hm35 : wI e33 (K6 + 1 + 1) i ((-1000)) = e36
                  refine rw_of (fun rr hrr => q_aload rfl (q_bipush rfl (q_iload rfl (q_iadd (q_aload_n rfl (q_bipush rfl (q_iload rfl (q_iadd (q_lald (j := 8 + i) (Ro_call hK34 hS34 (Ro_call hK31 hS31 (Ro_call hKl121 hSl121 (Ro_new (Ro_new (Ro_call hK6 hS6 (Ro_call hK4 hS4 (Ro_call hKl60 hSl60 (Ro_call hK2 hS2 hb))))))))) (by omega) (by omega) (((congrFun (kN hm35 (by omega)) _).trans ((congrFun (kN hm32 (by omega)) _).trans ((congrFun (kN hm29 (by omega)) _).trans ((congrFun (hF121 b (by show ¬ (K6 + 1 + 1 < b ∨ b = (K6 + 1) ∨ b = (K6 + 1 + 1)); omega)) _).trans ((congrFun (kU hu10 (by omega)) _).trans ((congrFun (kU hu8 (by omega)) _).trans ((congrFun (hF60 b (by show ¬ (K2 < b); omega)) _).trans (congrFun (hF2 b (by show ¬ (K < b); omega)) _)))))))).trans (hcv i (by omega))) (q_last (j := 8 + i) (Ro_call hK34 hS34 (Ro_call hK31 hS31 (Ro_call hKl121 hSl121 (Ro_made (by omega))))) (by omega) (by omega) hrr)))))))))) ?_
                  generalize hm37 : wI e36 (K6 + 1 + 1) (8 + i) (vF (Sc m0 s i)) = e38
                  refine rw_of (fun rr hrr => q_aload rfl (q_bipush rfl (q_iload rfl (q_iadd (q_lald (j := 8 + i) (Ro_call hK34 hS34 (Ro_call hK31 hS31 (Ro_call hKl121 hSl121 (Ro_new (Ro_made (by omega)))))) (by omega) (by omega) (((congrFun (kN hm37 (by omega)) _).trans (congrFun (kN hm35 (by omega)) _)).trans (kA hm32)) (q_aload_n rfl (q_bipush rfl (q_iload rfl (q_iload rfl (q_iconst (q_iconst (q_iconst hrr)))))))))))) ?_
                  obtain ⟨_, mm39, pp39, K39, _, _, cc39, ss39, hV39, hK39, hKB39, hS39, rfl, hC39, rfl, rfl⟩ := e_gainA (X := X) (K := K34) (sh := sh121) (nn := e38) (d := d) (by omega) hC34 hsk (g := i) (by omega) hc hr hy
                  have hKB39 : K39 ≤ K34 + 1 := hKB39
                  refine rw_of (fun rr hrr => q_invS hV39 rfl rfl (okar_cons rfl (okar_cons rfl (okar_cons rfl (okar_cons rfl (okar_cons rfl (okar_cons rfl (okar_cons rfl okar_nil))))))) (Nat.le_of_ble_eq_true rfl) hrr) ?_
                  refine rw_icmp_ne (rg_vF _) (rg_vF _) (t := 284) rfl (fun hc40 => ?_) (fun hc40 => ?_)
                  · exfalso; omega
                  · skip
                    refine rw_of (fun rr hrr => q_iload rfl hrr) ?_
                    refine rw_if_eq ⟨by omega, by omega⟩ (t := 239) rfl (fun hc41 => ?_) (fun hc41 => ?_)
                    · exact absurd hc41 (by decide)
                    · skip
                      refine rw_of (fun rr hrr => q_aload rfl (q_bipush rfl (q_iload rfl (q_iadd (q_lald (j := 8 + i) (Ro_call hK39 hS39 (Ro_call hK34 hS34 (Ro_call hK31 hS31 (Ro_call hKl121 hSl121 (Ro_new (Ro_made (by omega))))))) (by omega) (by omega) (((congrFun (kN hm37 (by omega)) _).trans (congrFun (kN hm35 (by omega)) _)).trans (kA hm32)) hrr))))) ?_
                      refine rw_if_lt (rg_vF _) (t := 284) rfl (fun hc42 => ?_) (fun hc42 => ?_)
                      · exfalso; have := vF_ge (av (N s) (SA m0 s) (m0 4) y (N s) i); omega
                      · skip
                        refine rw_of (fun rr hrr => q_goto (t := 253) rfl hrr) ?_
                        refine rw_blk lk_L_areGains_253 ?_
                        refine rw_of (fun rr hrr => q_iload rfl hrr) ?_
                        refine rw_if_eq ⟨by omega, by omega⟩ (t := 269) rfl (fun hc43 => ?_) (fun hc43 => ?_)
                        · skip
                          refine rw_blk lk_L_areGains_269 ?_
                          refine rw_of (fun rr hrr => q_aload rfl (q_iload rfl (q_lald (j := i) (Ro_call hK39 hS39 (Ro_call hK34 hS34 (Ro_call hK31 hS31 (Ro_call hKl121 hSl121 (Ro_made (by omega)))))) rfl (by omega) ((kB hm37 (by omega)).trans (kA hm35)) (q_sipush rfl hrr)))) ?_
                          refine rw_icmp_ne ⟨by omega, by omega⟩ ⟨by omega, by omega⟩ (t := 284) rfl (fun hc44 => ?_) (fun hc44 => ?_)
                          · exact absurd hc44 (by decide)
                          · skip
                            refine rw_blk lk_L_areGains_280 ?_
                            refine rw_of (fun rr hrr => q_iconst (q_goto (t := 285) rfl hrr)) ?_
                            refine rw_blk lk_L_areGains_285 ?_
                            refine rw_of (fun rr hrr => q_istore (Nat.le_of_ble_eq_true rfl) rfl (q_iinc rfl rfl (q_goto (t := 121) rfl hrr))) ?_
                            have hA45 : (∀ z, z < (i + 1) → e38 (K6 + 1) z = vF (Sb m0 s z)) ∧ (∀ z, z < (i + 1) → e38 (K6 + 1) (8 + z) = vF (av (N s) (SA m0 s) (m0 4) y (N s) z)) ∧ (∀ z, z < (i + 1) → e38 (K6 + 1 + 1) z = -1000) ∧ (∀ z, z < (i + 1) → e38 (K6 + 1 + 1) (8 + z) = vF (Sc m0 s z)) := by
                              refine ⟨fun z hz => ?_, fun z hz => ?_, fun z hz => ?_, fun z hz => ?_⟩
                              · rw [kN hm37 (by omega), kN hm35 (by omega), kB hm32 (by omega)]
                                by_cases q : z = i
                                · rw [q]
                                  exact kA hm29
                                · exact (kB hm29 q).trans (hk1 z (by omega))
                              · rw [kN hm37 (by omega), kN hm35 (by omega)]
                                by_cases q : z = i
                                · rw [q]
                                  exact kA hm32
                                · rw [kB hm32 (by omega), kB hm29 (by omega)]
                                  exact hk2 z (by omega)
                              · rw [kB hm37 (by omega)]
                                by_cases q : z = i
                                · rw [q]
                                  exact kA hm35
                                · rw [kB hm35 (by omega), kN hm32 (by omega), kN hm29 (by omega)]
                                  exact hl1 z (by omega)
                              · by_cases q : z = i
                                · rw [q]
                                  exact kA hm37
                                · rw [kB hm37 (by omega), kB hm35 (by omega), kN hm32 (by omega), kN hm29 (by omega)]
                                  exact hl2 z (by omega)
                            exact rw_cast (ih121 (by omega) _ _ K39 sh121 e38 mm39 pp39 ⟨(by omega), (by omega), ((FrS_tr (by omega) (FrS_tr (by omega) (FrS_tr (by omega) (FrS_tr (by omega) FrS_rfl hSl121) hS31) hS34) hS39)), (fun a9 h9 => ((kN hm37 (by omega)).trans ((kN hm35 (by omega)).trans ((kN hm32 (by omega)).trans ((kN hm29 (by omega)).trans (hF121 a9 (by show ¬ (K6 + 1 + 1 < a9 ∨ a9 = (K6 + 1) ∨ a9 = (K6 + 1 + 1)); omega))))))), hC39, hA45⟩) (lcons rfl (lcons rfl (lcons rfl (lcons rfl (lcons rfl (lcons rfl (lcons rfl (lcons rfl (lcons rfl (lcons rfl (lcons rfl (lcons rfl (lcons (lvI (by omega)) (lcons rfl (lcons rfl (lcons rfl rfl)))))))))))))))) rfl
                        · exact absurd hc43 (by decide)
            have hA46 : (∀ z, z < 0 → e11 (K6 + 1) z = vF (Sb m0 s z)) ∧ (∀ z, z < 0 → e11 (K6 + 1) (8 + z) = vF (av (N s) (SA m0 s) (m0 4) y (N s) z)) ∧ (∀ z, z < 0 → e11 (K6 + 1 + 1) z = -1000) ∧ (∀ z, z < 0 → e11 (K6 + 1 + 1) (8 + z) = vF (Sc m0 s z)) := by
              exact ⟨fun z hz => absurd hz (Nat.not_lt_zero z), fun z hz => absurd hz (Nat.not_lt_zero z), fun z hz => absurd hz (Nat.not_lt_zero z), fun z hz => absurd hz (Nat.not_lt_zero z)⟩
            exact rw_cast (hL121 0 (by omega) _ _ (K6 + 1 + 1) (shU (shU sh60 (K6 + 1) 18) (K6 + 1 + 1) 18) e11 mm6 pp6 ⟨(by omega), (by omega), (FrS_rfl), (fun _ _ => rfl), hC6, hA46⟩) (lcons rfl (lcons rfl (lcons rfl (lcons rfl (lcons rfl (lcons rfl (lcons rfl (lcons rfl (lcons rfl (lcons rfl (lcons rfl (lcons rfl (lcons (lvI (by omega)) (lcons rfl (lcons rfl (lcons rfl rfl)))))))))))))))) rfl
      refine rw_icmp_lt ⟨by omega, by omega⟩ ⟨by omega, by omega⟩ (t := 59) rfl (fun hc47 => ?_) (fun hc47 => ?_)
      · skip
        refine rw_blk lk_L_areGains_59 ?_
        refine rw_of (fun rr hrr => q_iconst hrr) ?_
        exact rw_casts (hL60 _ _ K2 sh2 e2 ⟨(by omega), (by omega), (FrS_rfl), (fun _ _ => rfl)⟩) rfl rfl
      · skip
        refine rw_of (fun rr hrr => q_aload_n rfl (q_aload_n rfl (q_iconst hrr))) ?_
        obtain ⟨_, mm48, pp48, K48, sh48, e48, cc48, ss48, hV48, hK48, hKB48, hS48, rfl, rfl, rfl, hF48⟩ := c_L_rankOf1 (X := X) (m := m) (p := p) (K := K2) (sh := sh2) (nn := e2) (d := d) (by omega) (by omega) a b (N s) (SA m0 s) (Sb m0 s) (Sc m0 s) ((Ro_call hK2 hS2 ha)) ((Ro_call hK2 hS2 hb)) hn (Mv_k hA (hF2 a (by show ¬ (K < a); omega))) (fun z hz => (congrFun (hF2 b (by show ¬ (K < b); omega)) _).trans (hbv z hz)) (fun z hz => (congrFun (hF2 b (by show ¬ (K < b); omega)) _).trans (hcv z hz)) ((congrFun (hF2 b (by show ¬ (K < b); omega)) _).trans hbn)
        have hKB48 : K48 ≤ K2 + 10 := hKB48
        refine rw_of (fun rr hrr => q_invS hV48 rfl rfl (okar_cons rfl (okar_cons rfl (okar_cons rfl okar_nil))) (Nat.le_of_ble_eq_true rfl) (q_iload rfl hrr)) ?_
        refine rw_icmp_ne ⟨by omega, by omega⟩ ⟨by omega, by omega⟩ (t := 59) rfl (fun hc49 => ?_) (fun hc49 => ?_)
        · skip
          refine rw_blk lk_L_areGains_59 ?_
          refine rw_of (fun rr hrr => q_iconst hrr) ?_
          exact rw_casts (hL60 _ _ K48 sh48 e48 ⟨(by omega), (by omega), ((FrS_tr (by omega) FrS_rfl hS48)), (fun a9 h9 => (hF48 a9 (by show ¬ (K2 < a9); omega)))⟩) rfl rfl
        · exact absurd ⟨by omega, by omega⟩ hcn2
theorem c_L_areGains01 {d : Nat} {X : MC} {m0 m : M1} {p : M2} {K : Nat} {sh : Nat → Nat} {nn : N2} (hd : 10 ≤ d) (hK : 260 ≤ K) (a b rp gg s : Nat) (PP : Nat → F) (k cp ci : Nat) (N : Nat → Nat) (y2 : Nat → F) (hC : CS m0 k N cp ci m p) (hsk : s < k) (ha : Ro K sh a 64) (hb : Ro K sh b 18) (hA : Mv nn a (N s) (SA m0 s)) (hbv : ∀ i, i < N s → nn b i = vF (Sb m0 s i)) (hcv : ∀ i, i < N s → nn b (8 + i) = vF (Sc m0 s i)) (hbd : nn b 16 = vF (Sd m0 s)) (hbn : nn b 17 = ((N s : Nat) : Int)) (hpr : Ro K sh rp 32) (hgr : Ro K sh gg 3) (hpp : ∀ i, i < 32 → nn rp i = vF (PP i)) (hpc : ∀ i, i < cp → PP i = m0 4 i) (hg1 : nn gg 1 = (cp : Int)) (hcn : ¬ (N s ≤ cp ∧ rk (N s) (kr (N s) (SA m0 s) (Sb m0 s)) = N s)) (hc2 : 2 * N s ≤ cp) (hr2 : rk (N s) (kr (N s) (trp (SA m0 s)) (Sc m0 s)) = N s) (hy2 : Du (N s) (trp (SA m0 s)) (Sc m0 s) y2) : Lc d k_L_areGains X [.ref (1), .ref (a), .ref (b), .ref (rp), .ref (gg), .int (iI (((s : Nat) : Int)))] m p K sh nn (fun v m' p' K' sh' n' => v = some (.int (iI 1)) ∧ CS m0 k N cp ci m' p' ∧ FrN (fun a_ => K < a_) nn n') := by
  obtain ⟨d, rfl⟩ : ∃ e, d = e + 1 := ⟨d - 1, by omega⟩
  have ha8 := ha.1; have ha9 := ha.2.1
  have hb8 := hb.1; have hb9 := hb.2.1
  have hpr8 := hpr.1; have hpr9 := hpr.2.1
  have hgr8 := hgr.1; have hgr9 := hgr.2.1
  have hn1 := hC.N1 hsk
  have hn := hC.N8 hsk
  have hp16 := hC.p16
  have hdr0 : drk (N s) (kr (N s) (SA m0 s) (Sb m0 s)) = rk (N s) (kr (N s) (SA m0 s) (Sb m0 s)) := drk_rk
  have hdr1 : drk (N s) (kr (N s) (trp (SA m0 s)) (Sc m0 s)) = rk (N s) (kr (N s) (trp (SA m0 s)) (Sc m0 s)) := drk_rk
  have hdl0 := drk_le (n := N s) (W := kr (N s) (SA m0 s) (Sb m0 s))
  have hdl1 := drk_le (n := N s) (W := kr (N s) (trp (SA m0 s)) (Sc m0 s))
  refine lc_go (lv := [some (.ref (1)), some (.ref (a)), some (.ref (b)), some (.ref (rp)), some (.ref (gg)), some (.int (iI (((s : Nat) : Int)))), none, none, none, none, none, none, none, none, none, none]) (B := 66) (Nat.le_of_ble_eq_true rfl) (okar_cons rfl (okar_cons rfl (okar_cons rfl (okar_cons rfl (okar_cons rfl (okar_cons rfl okar_nil)))))) rfl rfl (fun Qr hQ => ?_)
  refine rw_blk lk_L_areGains_0 ?_
  refine rw_of (fun rr hrr => q_aload_n rfl (q_bipush rfl (q_lald (j := 17) hb rfl (by omega) hbn (q_istore (Nat.le_of_ble_eq_true rfl) rfl (q_aload rfl (q_iconst (q_lald (j := 1) hgr rfl (by omega) hg1 (q_iload rfl hrr)))))))) ?_
  have hL31 : ∀ (cc ss : Nat) (K31 : Nat) (sh31 : Nat → Nat) (nn31 : N2), (K ≤ K31 ∧ K31 ≤ K + 10 ∧ FrS K sh sh31 ∧ FrN (fun a_ => K < a_) nn nn31) → Rw (Ev d) k_L_areGains (31, [], [some (.ref (1)), some (.ref (a)), some (.ref (b)), some (.ref (rp)), some (.ref (gg)), some (.int (iI (((s : Nat) : Int)))), some (.int (iI (((N s : Nat) : Int)))), none, none, none, none, none, none, none, none, none], [.int (iI (0))], hB X m p K31 sh31 nn31, cc, ss) Qr := by
    intro cc ss K31 sh31 nn31
    intro hI
    obtain ⟨hKl31, hBl31, hSl31, hF31⟩ := hI
    refine rw_blk lk_L_areGains_31 ?_
    refine rw_of (fun rr hrr => q_istore (Nat.le_of_ble_eq_true rfl) rfl (q_aload rfl (q_iconst (q_lald (j := 1) (Ro_call hKl31 hSl31 hgr) rfl (by omega) ((congrFun (hF31 gg (by show ¬ (K < gg); omega)) _).trans hg1) (q_iconst (q_iload rfl (q_imul hrr))))))) ?_
    refine rw_icmp_lt ⟨by omega, by omega⟩ ⟨by omega, by omega⟩ (t := 59) rfl (fun hc1 => ?_) (fun hc1 => ?_)
    · exfalso; omega
    · skip
      refine rw_of (fun rr hrr => q_aload_n rfl (q_aload_n rfl (q_iconst hrr))) ?_
      obtain ⟨_, mm2, pp2, K2, sh2, e2, cc2, ss2, hV2, hK2, hKB2, hS2, rfl, rfl, rfl, hF2⟩ := c_L_rankOf1 (X := X) (m := m) (p := p) (K := K31) (sh := sh31) (nn := nn31) (d := d) (by omega) (by omega) a b (N s) (SA m0 s) (Sb m0 s) (Sc m0 s) ((Ro_call hKl31 hSl31 ha)) ((Ro_call hKl31 hSl31 hb)) hn (Mv_k hA (hF31 a (by show ¬ (K < a); omega))) (fun z hz => (congrFun (hF31 b (by show ¬ (K < b); omega)) _).trans (hbv z hz)) (fun z hz => (congrFun (hF31 b (by show ¬ (K < b); omega)) _).trans (hcv z hz)) ((congrFun (hF31 b (by show ¬ (K < b); omega)) _).trans hbn)
      have hKB2 : K2 ≤ K31 + 10 := hKB2
      refine rw_of (fun rr hrr => q_invS hV2 rfl rfl (okar_cons rfl (okar_cons rfl (okar_cons rfl okar_nil))) (Nat.le_of_ble_eq_true rfl) (q_iload rfl hrr)) ?_
      refine rw_icmp_ne ⟨by omega, by omega⟩ ⟨by omega, by omega⟩ (t := 59) rfl (fun hc3 => ?_) (fun hc3 => ?_)
      · exfalso; omega
      · skip
        refine rw_of (fun rr hrr => q_iconst (q_goto (t := 60) rfl hrr)) ?_
        refine rw_blk lk_L_areGains_60 ?_
        refine rw_of (fun rr hrr => q_istore (Nat.le_of_ble_eq_true rfl) rfl (q_aload_n rfl (q_bipush rfl (q_iload rfl (q_iload rfl (q_iconst (q_iconst (q_iconst hrr)))))))) ?_
        obtain ⟨_, mm4, pp4, K4, _, _, cc4, ss4, hV4, hK4, hKB4, hS4, rfl, hC4, rfl, rfl⟩ := e_gainP (X := X) (K := K2) (sh := sh2) (nn := e2) (d := d) (by omega) hC hsk
        have hKB4 : K4 ≤ K2 + 1 := hKB4
        refine rw_of (fun rr hrr => q_invS hV4 rfl rfl (okar_cons rfl (okar_cons rfl (okar_cons rfl (okar_cons rfl (okar_cons rfl (okar_cons rfl (okar_cons rfl okar_nil))))))) (Nat.le_of_ble_eq_true rfl) (q_sipush rfl hrr)) ?_
        refine rw_icmp_ne ⟨by omega, by omega⟩ ⟨by omega, by omega⟩ (t := 103) rfl (fun hc5 => ?_) (fun hc5 => ?_)
        · exact absurd hc5 (by decide)
        · skip
          refine rw_of (fun rr hrr => q_aload_n rfl (q_bipush rfl (q_iload rfl (q_iconst (q_iconst (q_iconst (q_iconst hrr))))))) ?_
          obtain ⟨_, mm6, pp6, K6, _, _, cc6, ss6, hV6, hK6, hKB6, hS6, rfl, hC6, rfl, rfl⟩ := e_obsP (X := X) (K := K4) (sh := sh2) (nn := e2) (d := d) (by omega) hC4 hsk
          have hKB6 : K6 ≤ K4 + 1 := hKB6
          refine rw_of (fun rr hrr => q_invS hV6 rfl rfl (okar_cons rfl (okar_cons rfl (okar_cons rfl (okar_cons rfl (okar_cons rfl (okar_cons rfl (okar_cons rfl okar_nil))))))) (Nat.le_of_ble_eq_true rfl) (q_sipush rfl hrr)) ?_
          refine rw_icmp_ne ⟨by omega, by omega⟩ ⟨by omega, by omega⟩ (t := 103) rfl (fun hc7 => ?_) (fun hc7 => ?_)
          · exact absurd hc7 (by decide)
          · skip
            refine rw_of (fun rr hrr => q_iconst (q_goto (t := 104) rfl hrr)) ?_
            refine rw_blk lk_L_areGains_104 ?_
            refine rw_of (fun rr hrr => q_istore (Nat.le_of_ble_eq_true rfl) rfl (q_bipush rfl (q_lnew (l := 18) (by omega) rfl (by omega) hrr))) ?_
            generalize hu8 : nU e2 (K6 + 1) = e9
            refine rw_of (fun rr hrr => q_astore (Nat.le_of_ble_eq_true rfl) rfl (q_bipush rfl (q_lnew (l := 18) (by omega) rfl (by omega) hrr))) ?_
            generalize hu10 : nU e9 (K6 + 1 + 1) = e11
            refine rw_of (fun rr hrr => q_astore (Nat.le_of_ble_eq_true rfl) rfl (q_iconst (q_istore (Nat.le_of_ble_eq_true rfl) rfl hrr))) ?_
            have hL121 : ∀ i, i ≤ N s → ∀ (cc ss : Nat) (K121 : Nat) (sh121 : Nat → Nat) (nn121 : N2) (m121 : M1) (p121 : M2), (K6 + 1 + 1 ≤ K121 ∧ K121 ≤ K6 + 1 + 1 + 3 * i ∧ FrS (K6 + 1 + 1) (shU (shU sh2 (K6 + 1) 18) (K6 + 1 + 1) 18) sh121 ∧ FrN (fun a_ => K6 + 1 + 1 < a_ ∨ a_ = (K6 + 1) ∨ a_ = (K6 + 1 + 1)) e11 nn121 ∧ CS m0 k N cp ci m121 p121 ∧ ((∀ z, z < i → nn121 (K6 + 1) z = vF (Sb m0 s z)) ∧ (∀ z, z < i → nn121 (K6 + 1) (8 + z) = -1000) ∧ (∀ z, z < i → nn121 (K6 + 1 + 1) z = vF (av (N s) (trp (SA m0 s)) (fun zz => m0 4 (N s + zz)) y2 (N s) z)) ∧ (∀ z, z < i → nn121 (K6 + 1 + 1) (8 + z) = vF (Sc m0 s z)))) → Rw (Ev d) k_L_areGains (121, [], [some (.ref (1)), some (.ref (a)), some (.ref (b)), some (.ref (rp)), some (.ref (gg)), some (.int (iI (((s : Nat) : Int)))), some (.int (iI (((N s : Nat) : Int)))), some (.int (iI (0))), some (.int (iI (1))), some (.int (iI (1))), some (.ref (K6 + 1)), some (.ref (K6 + 1 + 1)), some (.int (iI (((i : Nat) : Int)))), none, none, none], [], hB X m121 p121 K121 sh121 nn121, cc, ss) Qr := by
              refine loop_any (fun i hi121 ih121 => ?_)
              intro cc ss K121 sh121 nn121 m121 p121
              intro hI
              obtain ⟨hKl121, hBl121, hSl121, hF121, hC121, ⟨hk1, hk2, hl1, hl2⟩⟩ := hI
              refine rw_blk lk_L_areGains_121 ?_
              refine rw_of (fun rr hrr => q_iload rfl (q_iload rfl hrr)) ?_
              refine rw_icmp_ge ⟨by omega, by omega⟩ ⟨by omega, by omega⟩ (t := 293) rfl (fun hc12 => ?_) (fun hc12 => ?_)
              · skip
                refine rw_blk lk_L_areGains_293 ?_
                refine rw_of (fun rr hrr => q_aload rfl (q_bipush rfl (q_iload rfl (q_last (j := 17) (Ro_call hKl121 hSl121 (Ro_new (Ro_made (by omega)))) rfl (by omega) hrr)))) ?_
                generalize hm13 : wI nn121 (K6 + 1) 17 (((N s : Nat) : Int)) = e14
                refine rw_of (fun rr hrr => q_aload rfl (q_bipush rfl (q_iload rfl (q_last (j := 17) (Ro_call hKl121 hSl121 (Ro_made (by omega))) rfl (by omega) hrr)))) ?_
                generalize hm15 : wI e14 (K6 + 1 + 1) 17 (((N s : Nat) : Int)) = e16
                refine rw_of (fun rr hrr => q_iconst (q_istore (Nat.le_of_ble_eq_true rfl) rfl hrr)) ?_
                have hL310 : ∀ x, x ≤ N s + 1 → ∀ (cc ss : Nat) (K310 : Nat) (sh310 : Nat → Nat) (nn310 : N2) (x310_13 : Option Value) (x310_14 : Option Value) (x310_15 : Option Value), (K121 ≤ K310 ∧ K310 ≤ K121 + 2 * x ∧ FrS K121 sh121 sh310 ∧ FrN (fun a_ => K121 < a_) e16 nn310 ∧ ((∀ z, z < N s → nn310 (K6 + 1) z = vF (Sb m0 s z)) ∧ (∀ z, z < N s → nn310 (K6 + 1) (8 + z) = -1000) ∧ (∀ z, z < N s → nn310 (K6 + 1 + 1) z = vF (av (N s) (trp (SA m0 s)) (fun zz => m0 4 (N s + zz)) y2 (N s) z)) ∧ (∀ z, z < N s → nn310 (K6 + 1 + 1) (8 + z) = vF (Sc m0 s z)) ∧ nn310 (K6 + 1) 17 = ((N s : Nat) : Int) ∧ nn310 (K6 + 1 + 1) 17 = ((N s : Nat) : Int))) → Rw (Ev d) k_L_areGains (310, [], [some (.ref (1)), some (.ref (a)), some (.ref (b)), some (.ref (rp)), some (.ref (gg)), some (.int (iI (((s : Nat) : Int)))), some (.int (iI (((N s : Nat) : Int)))), some (.int (iI (0))), some (.int (iI (1))), some (.int (iI (1))), some (.ref (K6 + 1)), some (.ref (K6 + 1 + 1)), some (.int (iI (((x : Nat) : Int)))), x310_13, x310_14, x310_15], [], hB X m121 p121 K310 sh310 nn310, cc, ss) Qr := by
                  refine loop_any (fun x hi310 ih310 => ?_)
                  intro cc ss K310 sh310 nn310 x310_13 x310_14 x310_15
                  intro hI
                  obtain ⟨hKl310, hBl310, hSl310, hF310, ⟨gk1, gk2, gl1, gl2, gk3, gl3⟩⟩ := hI
                  refine rw_blk lk_L_areGains_310 ?_
                  refine rw_of (fun rr hrr => q_iload rfl (q_iload rfl hrr)) ?_
                  refine rw_icmp_gt ⟨by omega, by omega⟩ ⟨by omega, by omega⟩ (t := 436) rfl (fun hc17 => ?_) (fun hc17 => ?_)
                  · skip
                    refine rw_blk lk_L_areGains_436 ?_
                    refine rw_of (fun rr hrr => q_iload rfl hrr) ?_
                    refine lw_end hQ (q_ireturn (by omega)) (by omega) (by omega) (FrS_tr (by omega) (FrS_tr (by omega) (FrS_tr (by omega) (FrS_tr (by omega) (FrS_tr (by omega) (FrS_tr (by omega) (FrS_tr (by omega) (FrS_tr (by omega) FrS_rfl hSl31) hS2) hS4) hS6) FrS_new) FrS_new) hSl121) hSl310) ?_
                    exact ⟨rfl, hC121, fun a9 h9 => ((hF310 a9 (by show ¬ (K121 < a9); omega)).trans ((kN hm15 (by omega)).trans ((kN hm13 (by omega)).trans ((hF121 a9 (by show ¬ (K6 + 1 + 1 < a9 ∨ a9 = (K6 + 1) ∨ a9 = (K6 + 1 + 1)); omega)).trans ((kU hu10 (by omega)).trans ((kU hu8 (by omega)).trans ((hF2 a9 (by show ¬ (K31 < a9); omega)).trans (hF31 a9 (by show ¬ (K < a9); omega)))))))))⟩
                  · skip
                    refine rw_of (fun rr hrr => q_iload rfl hrr) ?_
                    refine rw_if_eq ⟨by omega, by omega⟩ (t := 436) rfl (fun hc18 => ?_) (fun hc18 => ?_)
                    · exact absurd hc18 (by decide)
                    · skip
                      refine rw_of (fun rr hrr => q_iconst (q_istore (Nat.le_of_ble_eq_true rfl) rfl (q_iconst (q_istore (Nat.le_of_ble_eq_true rfl) rfl (q_iconst (q_istore (Nat.le_of_ble_eq_true rfl) rfl hrr)))))) ?_
                      have hL331 : ∀ i, i ≤ N s → ∀ (cc ss : Nat) , Rw (Ev d) k_L_areGains (331, [], [some (.ref (1)), some (.ref (a)), some (.ref (b)), some (.ref (rp)), some (.ref (gg)), some (.int (iI (((s : Nat) : Int)))), some (.int (iI (((N s : Nat) : Int)))), some (.int (iI (0))), some (.int (iI (1))), some (.int (iI (1))), some (.ref (K6 + 1)), some (.ref (K6 + 1 + 1)), some (.int (iI (((x : Nat) : Int)))), some (.int (iI (vF (prd PP (nF x) i)))), some (.int (iI (vF (prd (fun zz => PP (N s + zz)) (nF x) i)))), some (.int (iI (((i : Nat) : Int))))], [], hB X m121 p121 K310 sh310 nn310, cc, ss) Qr := by
                        refine loop_any (fun i hi331 ih331 => ?_)
                        intro cc ss
                        refine rw_blk lk_L_areGains_331 ?_
                        refine rw_of (fun rr hrr => q_iload rfl (q_iload rfl hrr)) ?_
                        refine rw_icmp_ge ⟨by omega, by omega⟩ ⟨by omega, by omega⟩ (t := 385) rfl (fun hc19 => ?_) (fun hc19 => ?_)
                        · skip
                          refine rw_blk lk_L_areGains_385 ?_
                          refine rw_of (fun rr hrr => q_iload rfl hrr) ?_
                          refine rw_if_eq ⟨by omega, by omega⟩ (t := 404) rfl (fun hc20 => ?_) (fun hc20 => ?_)
                          · skip
                            refine rw_blk lk_L_areGains_404 ?_
                            refine rw_of (fun rr hrr => q_iload rfl hrr) ?_
                            refine rw_if_eq ⟨by omega, by omega⟩ (t := 423) rfl (fun hc21 => ?_) (fun hc21 => ?_)
                            · exact absurd hc21 (by decide)
                            · skip
                              refine rw_of (fun rr hrr => q_aload_n rfl (q_aload rfl (q_iload rfl (q_eqv (show (((x : Nat) : Int) : Int) = vF (nF x) from (vF_nF (by omega)).symm) (q_iconst hrr))))) ?_
                              obtain ⟨_, mm22, pp22, K22, sh22, e22, cc22, ss22, hV22, hK22, hKB22, hS22, rfl, rfl, rfl, hF22⟩ := c_L_at1 (X := X) (m := m121) (p := p121) (K := K310) (sh := sh310) (nn := nn310) (d := d) (by omega) (by omega) a (K6 + 1 + 1) (N s) (nF x) (SA m0 s) (av (N s) (trp (SA m0 s)) (fun zz => m0 4 (N s + zz)) y2 (N s)) (Sc m0 s) ((Ro_call hKl310 hSl310 (Ro_call hKl121 hSl121 (Ro_new (Ro_new (Ro_call hK6 hS6 (Ro_call hK4 hS4 (Ro_call hK2 hS2 (Ro_call hKl31 hSl31 ha))))))))) ((Ro_call hKl310 hSl310 (Ro_call hKl121 hSl121 (Ro_made (by omega))))) hn (Mv_k hA ((hF310 a (by show ¬ (K121 < a); omega)).trans ((kN hm15 (by omega)).trans ((kN hm13 (by omega)).trans ((hF121 a (by show ¬ (K6 + 1 + 1 < a ∨ a = (K6 + 1) ∨ a = (K6 + 1 + 1)); omega)).trans ((kU hu10 (by omega)).trans ((kU hu8 (by omega)).trans ((hF2 a (by show ¬ (K31 < a); omega)).trans (hF31 a (by show ¬ (K < a); omega)))))))))) (fun z hz => (congrFun rfl _).trans (gl1 z hz)) (fun z hz => (congrFun rfl _).trans (gl2 z hz)) ((congrFun rfl _).trans gl3)
                              have hKB22 : K22 ≤ K310 + 1 := hKB22
                              refine rw_of (fun rr hrr => q_invS hV22 rfl rfl (okar_cons rfl (okar_cons rfl (okar_cons rfl (okar_cons rfl okar_nil)))) (Nat.le_of_ble_eq_true rfl) hrr) ?_
                              have hat2 : dta (N s) (atM (SA m0 s) (av (N s) (trp (SA m0 s)) (fun zz => m0 4 (N s + zz)) y2 (N s)) (Sc m0 s) (nF x) 1) = vF (prd (fun zz => PP (N s + zz)) (nF x) i) := by
                                rw [dta_dt, watch_dt hn hr2 hy2 (fun _ _ => rfl), show i = N s by omega]
                                exact congrArg vF (prd_cg (N s) (fun z hz => (hpc (N s + z) (by omega)).symm))
                              refine rw_of (fun rr hrr => q_iload rfl hrr) ?_
                              refine rw_icmp_ne (by rw [hat2]; exact rg_vF _) (rg_vF _) (t := 427) rfl (fun hc23 => ?_) (fun hc23 => ?_)
                              · exact absurd hat2 hc23
                              · skip
                                refine rw_blk lk_L_areGains_423 ?_
                                refine rw_of (fun rr hrr => q_iconst (q_goto (t := 428) rfl hrr)) ?_
                                refine rw_blk lk_L_areGains_428 ?_
                                refine rw_of (fun rr hrr => q_istore (Nat.le_of_ble_eq_true rfl) rfl (q_iinc rfl rfl (q_goto (t := 310) rfl hrr))) ?_
                                have hA24 : (∀ z, z < N s → e22 (K6 + 1) z = vF (Sb m0 s z)) ∧ (∀ z, z < N s → e22 (K6 + 1) (8 + z) = -1000) ∧ (∀ z, z < N s → e22 (K6 + 1 + 1) z = vF (av (N s) (trp (SA m0 s)) (fun zz => m0 4 (N s + zz)) y2 (N s) z)) ∧ (∀ z, z < N s → e22 (K6 + 1 + 1) (8 + z) = vF (Sc m0 s z)) ∧ e22 (K6 + 1) 17 = ((N s : Nat) : Int) ∧ e22 (K6 + 1 + 1) 17 = ((N s : Nat) : Int) := by
                                  have ek : e22 (K6 + 1) = nn310 (K6 + 1) := (hF22 (K6 + 1) (by show ¬ (K310 < (K6 + 1)); omega))
                                  have el : e22 (K6 + 1 + 1) = nn310 (K6 + 1 + 1) := (hF22 (K6 + 1 + 1) (by show ¬ (K310 < (K6 + 1 + 1)); omega))
                                  exact ⟨fun z hz => (congrFun ek _).trans (gk1 z hz), fun z hz => (congrFun ek _).trans (gk2 z hz), fun z hz => (congrFun el _).trans (gl1 z hz), fun z hz => (congrFun el _).trans (gl2 z hz), (congrFun ek _).trans gk3, (congrFun el _).trans gl3⟩
                                exact rw_cast (ih310 (by omega) _ _ K22 sh22 e22 (some (.int (iI (vF (prd PP (nF x) i))))) (some (.int (iI (vF (prd (fun zz => PP (N s + zz)) (nF x) i))))) (some (.int (iI (((i : Nat) : Int))))) ⟨(by omega), (by omega), ((FrS_tr (by omega) (FrS_tr (by omega) FrS_rfl hSl310) hS22)), (fun a9 h9 => ((hF22 a9 (by show ¬ (K310 < a9); omega)).trans (hF310 a9 (by show ¬ (K121 < a9); omega)))), hA24⟩) (lcons rfl (lcons rfl (lcons rfl (lcons rfl (lcons rfl (lcons rfl (lcons rfl (lcons rfl (lcons rfl (lcons rfl (lcons rfl (lcons rfl (lcons (lvI (by omega)) (lcons rfl (lcons rfl (lcons rfl rfl)))))))))))))))) rfl
                          · exact absurd hc20 (by decide)
                        · skip
                          refine rw_of (fun rr hrr => q_iload rfl (q_iload rfl (q_aload_n rfl (q_iload rfl (q_lald (j := i) (Ro_call hKl310 hSl310 (Ro_call hKl121 hSl121 (Ro_new (Ro_new (Ro_call hK6 hS6 (Ro_call hK4 hS4 (Ro_call hK2 hS2 (Ro_call hKl31 hSl31 hpr)))))))) rfl (by omega) (((congrFun (hF310 rp (by show ¬ (K121 < rp); omega)) _).trans ((congrFun (kN hm15 (by omega)) _).trans ((congrFun (kN hm13 (by omega)) _).trans ((congrFun (hF121 rp (by show ¬ (K6 + 1 + 1 < rp ∨ rp = (K6 + 1) ∨ rp = (K6 + 1 + 1)); omega)) _).trans ((congrFun (kU hu10 (by omega)) _).trans ((congrFun (kU hu8 (by omega)) _).trans ((congrFun (hF2 rp (by show ¬ (K31 < rp); omega)) _).trans (congrFun (hF31 rp (by show ¬ (K < rp); omega)) _)))))))).trans (hpp i (by omega))) (q_isub hrr)))))) ?_
                          obtain ⟨_, _, _, hV25, rfl, rfl, rfl⟩ := c_L_rest (S := (K310, gB X sh310 nn310)) (fz := false) (m := m121) (p := p121) (d := d) (by omega) ((((x : Nat) : Int) - vF (PP i))) ((nF (x) - (PP i))) ⟨by have := vF_ge (PP i); have := vF_lt (PP i); omega, by have := vF_ge (PP i); have := vF_lt (PP i); omega⟩ (by simp only [toF_add, toF_mul, toF_sub, toF_neg, toF_vF, toF_nat, toF_0, toF_1, toF_M, F_add0, F_0sub])
                          refine rw_of (fun rr hrr => q_invS hV25 rfl rfl (okar_cons rfl okar_nil) (Nat.le_of_ble_eq_true rfl) (q_imul (q_sipush rfl (q_irem (rg_times _ _) ⟨by omega, by omega⟩ (by omega) (remF (Int.mul_nonneg (vF_ge _) (vF_ge _)) (show toF ((vF (prd PP (nF x) i) * vF ((nF (x) - (PP i))))) = ((prd PP (nF x) i) * ((nF (x) - (PP i)))) by simp only [toF_add, toF_mul, toF_sub, toF_neg, toF_vF, toF_nat, toF_0, toF_1, toF_M, F_add0, F_0sub])) (q_istore (Nat.le_of_ble_eq_true rfl) rfl (q_iload rfl (q_iload rfl (q_aload_n rfl (q_iload rfl (q_iload rfl (q_iadd (q_lald (j := N s + i) (Ro_call hKl310 hSl310 (Ro_call hKl121 hSl121 (Ro_new (Ro_new (Ro_call hK6 hS6 (Ro_call hK4 hS4 (Ro_call hK2 hS2 (Ro_call hKl31 hSl31 hpr)))))))) (by omega) (by omega) (((congrFun (hF310 rp (by show ¬ (K121 < rp); omega)) _).trans ((congrFun (kN hm15 (by omega)) _).trans ((congrFun (kN hm13 (by omega)) _).trans ((congrFun (hF121 rp (by show ¬ (K6 + 1 + 1 < rp ∨ rp = (K6 + 1) ∨ rp = (K6 + 1 + 1)); omega)) _).trans ((congrFun (kU hu10 (by omega)) _).trans ((congrFun (kU hu8 (by omega)) _).trans ((congrFun (hF2 rp (by show ¬ (K31 < rp); omega)) _).trans (congrFun (hF31 rp (by show ¬ (K < rp); omega)) _)))))))).trans (hpp (N s + i) (by omega))) (q_isub hrr))))))))))))) ?_
                          obtain ⟨_, _, _, hV26, rfl, rfl, rfl⟩ := c_L_rest (S := (K310, gB X sh310 nn310)) (fz := false) (m := m121) (p := p121) (d := d) (by omega) ((((x : Nat) : Int) - vF (PP (N s + i)))) ((nF (x) - (PP (N s + i)))) ⟨by have := vF_ge (PP (N s + i)); have := vF_lt (PP (N s + i)); omega, by have := vF_ge (PP (N s + i)); have := vF_lt (PP (N s + i)); omega⟩ (by simp only [toF_add, toF_mul, toF_sub, toF_neg, toF_vF, toF_nat, toF_0, toF_1, toF_M, F_add0, F_0sub])
                          refine rw_of (fun rr hrr => q_invS hV26 rfl rfl (okar_cons rfl okar_nil) (Nat.le_of_ble_eq_true rfl) (q_imul (q_sipush rfl (q_irem (rg_times _ _) ⟨by omega, by omega⟩ (by omega) (remF (Int.mul_nonneg (vF_ge _) (vF_ge _)) (show toF ((vF (prd (fun zz => PP (N s + zz)) (nF x) i) * vF ((nF (x) - (PP (N s + i)))))) = ((prd (fun zz => PP (N s + zz)) (nF x) i) * ((nF (x) - (PP (N s + i))))) by simp only [toF_add, toF_mul, toF_sub, toF_neg, toF_vF, toF_nat, toF_0, toF_1, toF_M, F_add0, F_0sub])) (q_istore (Nat.le_of_ble_eq_true rfl) rfl (q_iinc rfl rfl (q_goto (t := 331) rfl hrr))))))) ?_
                          exact rw_cast (ih331 (by omega) _ _) (lcons rfl (lcons rfl (lcons rfl (lcons rfl (lcons rfl (lcons rfl (lcons rfl (lcons rfl (lcons rfl (lcons rfl (lcons rfl (lcons rfl (lcons rfl (lcons (lvI (by exact congrArg vF (by first | rfl | grind))) (lcons (lvI (by exact congrArg vF (by first | rfl | grind))) (lcons (lvI (by omega)) rfl)))))))))))))))) rfl
                      exact rw_cast (hL331 0 (by omega) _ _) (lcons rfl (lcons rfl (lcons rfl (lcons rfl (lcons rfl (lcons rfl (lcons rfl (lcons rfl (lcons rfl (lcons rfl (lcons rfl (lcons rfl (lcons rfl (lcons (lvI (by rfl)) (lcons (lvI (by rfl)) (lcons (lvI (by omega)) rfl)))))))))))))))) rfl
                have hA27 : (∀ z, z < N s → e16 (K6 + 1) z = vF (Sb m0 s z)) ∧ (∀ z, z < N s → e16 (K6 + 1) (8 + z) = -1000) ∧ (∀ z, z < N s → e16 (K6 + 1 + 1) z = vF (av (N s) (trp (SA m0 s)) (fun zz => m0 4 (N s + zz)) y2 (N s) z)) ∧ (∀ z, z < N s → e16 (K6 + 1 + 1) (8 + z) = vF (Sc m0 s z)) ∧ e16 (K6 + 1) 17 = ((N s : Nat) : Int) ∧ e16 (K6 + 1 + 1) 17 = ((N s : Nat) : Int) := by
                  refine ⟨fun z hz => ?_, fun z hz => ?_, fun z hz => ?_, fun z hz => ?_, (congrFun (kN hm15 (by omega)) _).trans (kA hm13), kA hm15⟩
                  · exact (congrFun (kN hm15 (by omega)) _).trans ((kB hm13 (by omega)).trans (hk1 z (by omega)))
                  · exact (congrFun (kN hm15 (by omega)) _).trans ((kB hm13 (by omega)).trans (hk2 z (by omega)))
                  · exact (kB hm15 (by omega)).trans ((congrFun (kN hm13 (by omega)) _).trans (hl1 z (by omega)))
                  · exact (kB hm15 (by omega)).trans ((congrFun (kN hm13 (by omega)) _).trans (hl2 z (by omega)))
                exact rw_cast (hL310 0 (by omega) _ _ K121 sh121 e16 none none none ⟨(by omega), (by omega), (FrS_rfl), (fun _ _ => rfl), hA27⟩) (lcons rfl (lcons rfl (lcons rfl (lcons rfl (lcons rfl (lcons rfl (lcons rfl (lcons rfl (lcons rfl (lcons rfl (lcons rfl (lcons rfl (lcons (lvI (by omega)) (lcons rfl (lcons rfl (lcons rfl rfl)))))))))))))))) rfl
              · skip
                refine rw_of (fun rr hrr => q_iload rfl hrr) ?_
                refine rw_if_eq ⟨by omega, by omega⟩ (t := 293) rfl (fun hc28 => ?_) (fun hc28 => ?_)
                · exact absurd hc28 (by decide)
                · skip
                  refine rw_of (fun rr hrr => q_aload rfl (q_iload rfl (q_aload_n rfl (q_iload rfl (q_lald (j := i) (Ro_call hKl121 hSl121 (Ro_new (Ro_new (Ro_call hK6 hS6 (Ro_call hK4 hS4 (Ro_call hK2 hS2 (Ro_call hKl31 hSl31 hb))))))) rfl (by omega) (((congrFun (hF121 b (by show ¬ (K6 + 1 + 1 < b ∨ b = (K6 + 1) ∨ b = (K6 + 1 + 1)); omega)) _).trans ((congrFun (kU hu10 (by omega)) _).trans ((congrFun (kU hu8 (by omega)) _).trans ((congrFun (hF2 b (by show ¬ (K31 < b); omega)) _).trans (congrFun (hF31 b (by show ¬ (K < b); omega)) _))))).trans (hbv i (by omega))) (q_last (j := i) (Ro_call hKl121 hSl121 (Ro_new (Ro_made (by omega)))) rfl (by omega) hrr)))))) ?_
                  generalize hm29 : wI nn121 (K6 + 1) i (vF (Sb m0 s i)) = e30
                  refine rw_of (fun rr hrr => q_aload rfl (q_bipush rfl (q_iload rfl (q_iadd (q_aload_n rfl (q_bipush rfl (q_iload rfl (q_iload rfl (q_iconst (q_iconst (q_iconst hrr))))))))))) ?_
                  obtain ⟨_, mm32, pp32, K32, _, _, cc32, ss32, hV32, hK32, hKB32, hS32, rfl, hC32, rfl, rfl⟩ := e_gainN (X := X) (K := K121) (sh := sh121) (nn := e30) (d := d) (by omega) hC121 hsk (g := i) (by omega) hcn
                  have hKB32 : K32 ≤ K121 + 1 := hKB32
                  refine rw_of (fun rr hrr => q_invS hV32 rfl rfl (okar_cons rfl (okar_cons rfl (okar_cons rfl (okar_cons rfl (okar_cons rfl (okar_cons rfl (okar_cons rfl okar_nil))))))) (Nat.le_of_ble_eq_true rfl) (q_last (j := 8 + i) (Ro_call hK32 hS32 (Ro_call hKl121 hSl121 (Ro_new (Ro_made (by omega))))) (by omega) (by omega) hrr)) ?_
                  generalize hm33 : wI e30 (K6 + 1) (8 + i) ((-1000)) = e34
                  refine rw_of (fun rr hrr => q_aload rfl (q_iload rfl (q_aload_n rfl (q_bipush rfl (q_iload rfl (q_iload rfl (q_iconst (q_iconst (q_iconst hrr))))))))) ?_
                  obtain ⟨_, mm35, pp35, K35, _, _, cc35, ss35, hV35, hK35, hKB35, hS35, rfl, hC35, rfl, rfl⟩ := e_obs (X := X) (K := K32) (sh := sh121) (nn := e34) (d := d) (by omega) hC32 hsk (g := i) (by omega) hc2 hr2 hy2
                  have hKB35 : K35 ≤ K32 + 1 := hKB35
                  refine rw_of (fun rr hrr => q_invS hV35 rfl rfl (okar_cons rfl (okar_cons rfl (okar_cons rfl (okar_cons rfl (okar_cons rfl (okar_cons rfl (okar_cons rfl okar_nil))))))) (Nat.le_of_ble_eq_true rfl) (q_last (j := i) (Ro_call hK35 hS35 (Ro_call hK32 hS32 (Ro_call hKl121 hSl121 (Ro_made (by omega))))) rfl (by omega) hrr)) ?_
                  generalize hm36 : wI e34 (K6 + 1 + 1) i (vF (av (N s) (trp (SA m0 s)) (fun zz => m0 4 (N s + zz)) y2 (N s) i)) = e37
                  refine rw_of (fun rr hrr => q_aload rfl (q_bipush rfl (q_iload rfl (q_iadd (q_aload_n rfl (q_bipush rfl (q_iload rfl (q_iadd (q_lald (j := 8 + i) (Ro_call hK35 hS35 (Ro_call hK32 hS32 (Ro_call hKl121 hSl121 (Ro_new (Ro_new (Ro_call hK6 hS6 (Ro_call hK4 hS4 (Ro_call hK2 hS2 (Ro_call hKl31 hSl31 hb))))))))) (by omega) (by omega) (((congrFun (kN hm36 (by omega)) _).trans ((congrFun (kN hm33 (by omega)) _).trans ((congrFun (kN hm29 (by omega)) _).trans ((congrFun (hF121 b (by show ¬ (K6 + 1 + 1 < b ∨ b = (K6 + 1) ∨ b = (K6 + 1 + 1)); omega)) _).trans ((congrFun (kU hu10 (by omega)) _).trans ((congrFun (kU hu8 (by omega)) _).trans ((congrFun (hF2 b (by show ¬ (K31 < b); omega)) _).trans (congrFun (hF31 b (by show ¬ (K < b); omega)) _)))))))).trans (hcv i (by omega))) (q_last (j := 8 + i) (Ro_call hK35 hS35 (Ro_call hK32 hS32 (Ro_call hKl121 hSl121 (Ro_made (by omega))))) (by omega) (by omega) hrr)))))))))) ?_
                  generalize hm38 : wI e37 (K6 + 1 + 1) (8 + i) (vF (Sc m0 s i)) = e39
                  refine rw_of (fun rr hrr => q_aload rfl (q_bipush rfl (q_iload rfl (q_iadd (q_lald (j := 8 + i) (Ro_call hK35 hS35 (Ro_call hK32 hS32 (Ro_call hKl121 hSl121 (Ro_new (Ro_made (by omega)))))) (by omega) (by omega) (((congrFun (kN hm38 (by omega)) _).trans (congrFun (kN hm36 (by omega)) _)).trans (kA hm33)) (q_aload_n rfl (q_bipush rfl (q_iload rfl (q_iload rfl (q_iconst (q_iconst (q_iconst hrr)))))))))))) ?_
                  obtain ⟨_, mm40, pp40, K40, _, _, cc40, ss40, hV40, hK40, hKB40, hS40, rfl, hC40, rfl, rfl⟩ := e_gainAN (X := X) (K := K35) (sh := sh121) (nn := e39) (d := d) (by omega) hC35 hsk (g := i) (by omega) hcn
                  have hKB40 : K40 ≤ K35 + 1 := hKB40
                  refine rw_of (fun rr hrr => q_invS hV40 rfl rfl (okar_cons rfl (okar_cons rfl (okar_cons rfl (okar_cons rfl (okar_cons rfl (okar_cons rfl (okar_cons rfl okar_nil))))))) (Nat.le_of_ble_eq_true rfl) hrr) ?_
                  refine rw_icmp_ne ⟨by omega, by omega⟩ ⟨by omega, by omega⟩ (t := 284) rfl (fun hc41 => ?_) (fun hc41 => ?_)
                  · exact absurd hc41 (by decide)
                  · skip
                    refine rw_of (fun rr hrr => q_iload rfl hrr) ?_
                    refine rw_if_eq ⟨by omega, by omega⟩ (t := 239) rfl (fun hc42 => ?_) (fun hc42 => ?_)
                    · skip
                      refine rw_blk lk_L_areGains_239 ?_
                      refine rw_of (fun rr hrr => q_aload rfl (q_bipush rfl (q_iload rfl (q_iadd (q_lald (j := 8 + i) (Ro_call hK40 hS40 (Ro_call hK35 hS35 (Ro_call hK32 hS32 (Ro_call hKl121 hSl121 (Ro_new (Ro_made (by omega))))))) (by omega) (by omega) (((congrFun (kN hm38 (by omega)) _).trans (congrFun (kN hm36 (by omega)) _)).trans (kA hm33)) (q_sipush rfl hrr)))))) ?_
                      refine rw_icmp_ne ⟨by omega, by omega⟩ ⟨by omega, by omega⟩ (t := 284) rfl (fun hc43 => ?_) (fun hc43 => ?_)
                      · exact absurd hc43 (by decide)
                      · skip
                        refine rw_blk lk_L_areGains_253 ?_
                        refine rw_of (fun rr hrr => q_iload rfl hrr) ?_
                        refine rw_if_eq ⟨by omega, by omega⟩ (t := 269) rfl (fun hc44 => ?_) (fun hc44 => ?_)
                        · exact absurd hc44 (by decide)
                        · skip
                          refine rw_of (fun rr hrr => q_aload rfl (q_iload rfl (q_lald (j := i) (Ro_call hK40 hS40 (Ro_call hK35 hS35 (Ro_call hK32 hS32 (Ro_call hKl121 hSl121 (Ro_made (by omega)))))) rfl (by omega) ((kB hm38 (by omega)).trans (kA hm36)) hrr))) ?_
                          refine rw_if_lt (rg_vF _) (t := 284) rfl (fun hc45 => ?_) (fun hc45 => ?_)
                          · exfalso; have := vF_ge (av (N s) (trp (SA m0 s)) (fun zz => m0 4 (N s + zz)) y2 (N s) i); omega
                          · skip
                            refine rw_of (fun rr hrr => q_goto (t := 280) rfl hrr) ?_
                            refine rw_blk lk_L_areGains_280 ?_
                            refine rw_of (fun rr hrr => q_iconst (q_goto (t := 285) rfl hrr)) ?_
                            refine rw_blk lk_L_areGains_285 ?_
                            refine rw_of (fun rr hrr => q_istore (Nat.le_of_ble_eq_true rfl) rfl (q_iinc rfl rfl (q_goto (t := 121) rfl hrr))) ?_
                            have hA46 : (∀ z, z < (i + 1) → e39 (K6 + 1) z = vF (Sb m0 s z)) ∧ (∀ z, z < (i + 1) → e39 (K6 + 1) (8 + z) = -1000) ∧ (∀ z, z < (i + 1) → e39 (K6 + 1 + 1) z = vF (av (N s) (trp (SA m0 s)) (fun zz => m0 4 (N s + zz)) y2 (N s) z)) ∧ (∀ z, z < (i + 1) → e39 (K6 + 1 + 1) (8 + z) = vF (Sc m0 s z)) := by
                              refine ⟨fun z hz => ?_, fun z hz => ?_, fun z hz => ?_, fun z hz => ?_⟩
                              · rw [kN hm38 (by omega), kN hm36 (by omega), kB hm33 (by omega)]
                                by_cases q : z = i
                                · rw [q]
                                  exact kA hm29
                                · exact (kB hm29 q).trans (hk1 z (by omega))
                              · rw [kN hm38 (by omega), kN hm36 (by omega)]
                                by_cases q : z = i
                                · rw [q]
                                  exact kA hm33
                                · rw [kB hm33 (by omega), kB hm29 (by omega)]
                                  exact hk2 z (by omega)
                              · rw [kB hm38 (by omega)]
                                by_cases q : z = i
                                · rw [q]
                                  exact kA hm36
                                · rw [kB hm36 (by omega), kN hm33 (by omega), kN hm29 (by omega)]
                                  exact hl1 z (by omega)
                              · by_cases q : z = i
                                · rw [q]
                                  exact kA hm38
                                · rw [kB hm38 (by omega), kB hm36 (by omega), kN hm33 (by omega), kN hm29 (by omega)]
                                  exact hl2 z (by omega)
                            exact rw_cast (ih121 (by omega) _ _ K40 sh121 e39 mm40 pp40 ⟨(by omega), (by omega), ((FrS_tr (by omega) (FrS_tr (by omega) (FrS_tr (by omega) (FrS_tr (by omega) FrS_rfl hSl121) hS32) hS35) hS40)), (fun a9 h9 => ((kN hm38 (by omega)).trans ((kN hm36 (by omega)).trans ((kN hm33 (by omega)).trans ((kN hm29 (by omega)).trans (hF121 a9 (by show ¬ (K6 + 1 + 1 < a9 ∨ a9 = (K6 + 1) ∨ a9 = (K6 + 1 + 1)); omega))))))), hC40, hA46⟩) (lcons rfl (lcons rfl (lcons rfl (lcons rfl (lcons rfl (lcons rfl (lcons rfl (lcons rfl (lcons rfl (lcons rfl (lcons rfl (lcons rfl (lcons (lvI (by omega)) (lcons rfl (lcons rfl (lcons rfl rfl)))))))))))))))) rfl
                    · exact absurd hc42 (by decide)
            have hA47 : (∀ z, z < 0 → e11 (K6 + 1) z = vF (Sb m0 s z)) ∧ (∀ z, z < 0 → e11 (K6 + 1) (8 + z) = -1000) ∧ (∀ z, z < 0 → e11 (K6 + 1 + 1) z = vF (av (N s) (trp (SA m0 s)) (fun zz => m0 4 (N s + zz)) y2 (N s) z)) ∧ (∀ z, z < 0 → e11 (K6 + 1 + 1) (8 + z) = vF (Sc m0 s z)) := by
              exact ⟨fun z hz => absurd hz (Nat.not_lt_zero z), fun z hz => absurd hz (Nat.not_lt_zero z), fun z hz => absurd hz (Nat.not_lt_zero z), fun z hz => absurd hz (Nat.not_lt_zero z)⟩
            exact rw_cast (hL121 0 (by omega) _ _ (K6 + 1 + 1) (shU (shU sh2 (K6 + 1) 18) (K6 + 1 + 1) 18) e11 mm6 pp6 ⟨(by omega), (by omega), (FrS_rfl), (fun _ _ => rfl), hC6, hA47⟩) (lcons rfl (lcons rfl (lcons rfl (lcons rfl (lcons rfl (lcons rfl (lcons rfl (lcons rfl (lcons rfl (lcons rfl (lcons rfl (lcons rfl (lcons (lvI (by omega)) (lcons rfl (lcons rfl (lcons rfl rfl)))))))))))))))) rfl
  refine rw_icmp_lt ⟨by omega, by omega⟩ ⟨by omega, by omega⟩ (t := 30) rfl (fun hc48 => ?_) (fun hc48 => ?_)
  · skip
    refine rw_blk lk_L_areGains_30 ?_
    refine rw_of (fun rr hrr => q_iconst hrr) ?_
    exact rw_casts (hL31 _ _ K sh nn ⟨(by omega), (by omega), (FrS_rfl), (fun _ _ => rfl)⟩) rfl rfl
  · skip
    refine rw_of (fun rr hrr => q_aload_n rfl (q_aload_n rfl (q_iconst hrr))) ?_
    obtain ⟨_, mm49, pp49, K49, sh49, e49, cc49, ss49, hV49, hK49, hKB49, hS49, rfl, rfl, rfl, hF49⟩ := c_L_rankOf0 (X := X) (m := m) (p := p) (K := K) (sh := sh) (nn := nn) (d := d) (by omega) (by omega) a b (N s) (SA m0 s) (Sb m0 s) (Sc m0 s) (ha) (hb) hn (Mv_k hA rfl) (fun z hz => (congrFun rfl _).trans (hbv z hz)) (fun z hz => (congrFun rfl _).trans (hcv z hz)) ((congrFun rfl _).trans hbn)
    have hKB49 : K49 ≤ K + 10 := hKB49
    refine rw_of (fun rr hrr => q_invS hV49 rfl rfl (okar_cons rfl (okar_cons rfl (okar_cons rfl okar_nil))) (Nat.le_of_ble_eq_true rfl) (q_iload rfl hrr)) ?_
    refine rw_icmp_ne ⟨by omega, by omega⟩ ⟨by omega, by omega⟩ (t := 30) rfl (fun hc50 => ?_) (fun hc50 => ?_)
    · skip
      refine rw_blk lk_L_areGains_30 ?_
      refine rw_of (fun rr hrr => q_iconst hrr) ?_
      exact rw_casts (hL31 _ _ K49 sh49 e49 ⟨(by omega), (by omega), ((FrS_tr (by omega) FrS_rfl hS49)), (fun a9 h9 => (hF49 a9 (by show ¬ (K < a9); omega)))⟩) rfl rfl
    · exact absurd ⟨by omega, by omega⟩ hcn
theorem c_L_areGains00 {d : Nat} {X : MC} {m0 m : M1} {p : M2} {K : Nat} {sh : Nat → Nat} {nn : N2} (hd : 10 ≤ d) (hK : 260 ≤ K) (a b rp gg s : Nat) (PP : Nat → F) (k cp ci : Nat) (N : Nat → Nat) (hC : CS m0 k N cp ci m p) (hsk : s < k) (ha : Ro K sh a 64) (hb : Ro K sh b 18) (hA : Mv nn a (N s) (SA m0 s)) (hbv : ∀ i, i < N s → nn b i = vF (Sb m0 s i)) (hcv : ∀ i, i < N s → nn b (8 + i) = vF (Sc m0 s i)) (hbd : nn b 16 = vF (Sd m0 s)) (hbn : nn b 17 = ((N s : Nat) : Int)) (hpr : Ro K sh rp 32) (hgr : Ro K sh gg 3) (hpp : ∀ i, i < 32 → nn rp i = vF (PP i)) (hpc : ∀ i, i < cp → PP i = m0 4 i) (hg1 : nn gg 1 = (cp : Int)) (hcn : ¬ (N s ≤ cp ∧ rk (N s) (kr (N s) (SA m0 s) (Sb m0 s)) = N s)) (hcn2 : ¬ (2 * N s ≤ cp ∧ rk (N s) (kr (N s) (trp (SA m0 s)) (Sc m0 s)) = N s)) : Lc d k_L_areGains X [.ref (1), .ref (a), .ref (b), .ref (rp), .ref (gg), .int (iI (((s : Nat) : Int)))] m p K sh nn (fun v m' p' K' sh' n' => v = some (.int (iI 1)) ∧ CS m0 k N cp ci m' p' ∧ FrN (fun a_ => K < a_) nn n') := by
  obtain ⟨d, rfl⟩ : ∃ e, d = e + 1 := ⟨d - 1, by omega⟩
  have ha8 := ha.1; have ha9 := ha.2.1
  have hb8 := hb.1; have hb9 := hb.2.1
  have hpr8 := hpr.1; have hpr9 := hpr.2.1
  have hgr8 := hgr.1; have hgr9 := hgr.2.1
  have hn1 := hC.N1 hsk
  have hn := hC.N8 hsk
  have hp16 := hC.p16
  have hdr0 : drk (N s) (kr (N s) (SA m0 s) (Sb m0 s)) = rk (N s) (kr (N s) (SA m0 s) (Sb m0 s)) := drk_rk
  have hdr1 : drk (N s) (kr (N s) (trp (SA m0 s)) (Sc m0 s)) = rk (N s) (kr (N s) (trp (SA m0 s)) (Sc m0 s)) := drk_rk
  have hdl0 := drk_le (n := N s) (W := kr (N s) (SA m0 s) (Sb m0 s))
  have hdl1 := drk_le (n := N s) (W := kr (N s) (trp (SA m0 s)) (Sc m0 s))
  refine lc_go (lv := [some (.ref (1)), some (.ref (a)), some (.ref (b)), some (.ref (rp)), some (.ref (gg)), some (.int (iI (((s : Nat) : Int)))), none, none, none, none, none, none, none, none, none, none]) (B := 66) (Nat.le_of_ble_eq_true rfl) (okar_cons rfl (okar_cons rfl (okar_cons rfl (okar_cons rfl (okar_cons rfl (okar_cons rfl okar_nil)))))) rfl rfl (fun Qr hQ => ?_)
  refine rw_blk lk_L_areGains_0 ?_
  refine rw_of (fun rr hrr => q_aload_n rfl (q_bipush rfl (q_lald (j := 17) hb rfl (by omega) hbn (q_istore (Nat.le_of_ble_eq_true rfl) rfl (q_aload rfl (q_iconst (q_lald (j := 1) hgr rfl (by omega) hg1 (q_iload rfl hrr)))))))) ?_
  have hL31 : ∀ (cc ss : Nat) (K31 : Nat) (sh31 : Nat → Nat) (nn31 : N2), (K ≤ K31 ∧ K31 ≤ K + 10 ∧ FrS K sh sh31 ∧ FrN (fun a_ => K < a_) nn nn31) → Rw (Ev d) k_L_areGains (31, [], [some (.ref (1)), some (.ref (a)), some (.ref (b)), some (.ref (rp)), some (.ref (gg)), some (.int (iI (((s : Nat) : Int)))), some (.int (iI (((N s : Nat) : Int)))), none, none, none, none, none, none, none, none, none], [.int (iI (0))], hB X m p K31 sh31 nn31, cc, ss) Qr := by
    intro cc ss K31 sh31 nn31
    intro hI
    obtain ⟨hKl31, hBl31, hSl31, hF31⟩ := hI
    refine rw_blk lk_L_areGains_31 ?_
    refine rw_of (fun rr hrr => q_istore (Nat.le_of_ble_eq_true rfl) rfl (q_aload rfl (q_iconst (q_lald (j := 1) (Ro_call hKl31 hSl31 hgr) rfl (by omega) ((congrFun (hF31 gg (by show ¬ (K < gg); omega)) _).trans hg1) (q_iconst (q_iload rfl (q_imul hrr))))))) ?_
    have hL60 : ∀ (cc ss : Nat) (K60 : Nat) (sh60 : Nat → Nat) (nn60 : N2), (K31 ≤ K60 ∧ K60 ≤ K31 + 10 ∧ FrS K31 sh31 sh60 ∧ FrN (fun a_ => K31 < a_) nn31 nn60) → Rw (Ev d) k_L_areGains (60, [], [some (.ref (1)), some (.ref (a)), some (.ref (b)), some (.ref (rp)), some (.ref (gg)), some (.int (iI (((s : Nat) : Int)))), some (.int (iI (((N s : Nat) : Int)))), some (.int (iI (0))), none, none, none, none, none, none, none, none], [.int (iI (0))], hB X m p K60 sh60 nn60, cc, ss) Qr := by
      intro cc ss K60 sh60 nn60
      intro hI
      obtain ⟨hKl60, hBl60, hSl60, hF60⟩ := hI
      refine rw_blk lk_L_areGains_60 ?_
      refine rw_of (fun rr hrr => q_istore (Nat.le_of_ble_eq_true rfl) rfl (q_aload_n rfl (q_bipush rfl (q_iload rfl (q_iload rfl (q_iconst (q_iconst (q_iconst hrr)))))))) ?_
      obtain ⟨_, mm1, pp1, K1, _, _, cc1, ss1, hV1, hK1, hKB1, hS1, rfl, hC1, rfl, rfl⟩ := e_gainP (X := X) (K := K60) (sh := sh60) (nn := nn60) (d := d) (by omega) hC hsk
      have hKB1 : K1 ≤ K60 + 1 := hKB1
      refine rw_of (fun rr hrr => q_invS hV1 rfl rfl (okar_cons rfl (okar_cons rfl (okar_cons rfl (okar_cons rfl (okar_cons rfl (okar_cons rfl (okar_cons rfl okar_nil))))))) (Nat.le_of_ble_eq_true rfl) (q_sipush rfl hrr)) ?_
      refine rw_icmp_ne ⟨by omega, by omega⟩ ⟨by omega, by omega⟩ (t := 103) rfl (fun hc2 => ?_) (fun hc2 => ?_)
      · exact absurd hc2 (by decide)
      · skip
        refine rw_of (fun rr hrr => q_aload_n rfl (q_bipush rfl (q_iload rfl (q_iconst (q_iconst (q_iconst (q_iconst hrr))))))) ?_
        obtain ⟨_, mm3, pp3, K3, _, _, cc3, ss3, hV3, hK3, hKB3, hS3, rfl, hC3, rfl, rfl⟩ := e_obsP (X := X) (K := K1) (sh := sh60) (nn := nn60) (d := d) (by omega) hC1 hsk
        have hKB3 : K3 ≤ K1 + 1 := hKB3
        refine rw_of (fun rr hrr => q_invS hV3 rfl rfl (okar_cons rfl (okar_cons rfl (okar_cons rfl (okar_cons rfl (okar_cons rfl (okar_cons rfl (okar_cons rfl okar_nil))))))) (Nat.le_of_ble_eq_true rfl) (q_sipush rfl hrr)) ?_
        refine rw_icmp_ne ⟨by omega, by omega⟩ ⟨by omega, by omega⟩ (t := 103) rfl (fun hc4 => ?_) (fun hc4 => ?_)
        · exact absurd hc4 (by decide)
        · skip
          refine rw_of (fun rr hrr => q_iconst (q_goto (t := 104) rfl hrr)) ?_
          refine rw_blk lk_L_areGains_104 ?_
          refine rw_of (fun rr hrr => q_istore (Nat.le_of_ble_eq_true rfl) rfl (q_bipush rfl (q_lnew (l := 18) (by omega) rfl (by omega) hrr))) ?_
          generalize hu5 : nU nn60 (K3 + 1) = e6
          refine rw_of (fun rr hrr => q_astore (Nat.le_of_ble_eq_true rfl) rfl (q_bipush rfl (q_lnew (l := 18) (by omega) rfl (by omega) hrr))) ?_
          generalize hu7 : nU e6 (K3 + 1 + 1) = e8
          refine rw_of (fun rr hrr => q_astore (Nat.le_of_ble_eq_true rfl) rfl (q_iconst (q_istore (Nat.le_of_ble_eq_true rfl) rfl hrr))) ?_
          have hL121 : ∀ i, i ≤ N s → ∀ (cc ss : Nat) (K121 : Nat) (sh121 : Nat → Nat) (nn121 : N2) (m121 : M1) (p121 : M2), (K3 + 1 + 1 ≤ K121 ∧ K121 ≤ K3 + 1 + 1 + 3 * i ∧ FrS (K3 + 1 + 1) (shU (shU sh60 (K3 + 1) 18) (K3 + 1 + 1) 18) sh121 ∧ FrN (fun a_ => K3 + 1 + 1 < a_ ∨ a_ = (K3 + 1) ∨ a_ = (K3 + 1 + 1)) e8 nn121 ∧ CS m0 k N cp ci m121 p121 ∧ ((∀ z, z < i → nn121 (K3 + 1) z = vF (Sb m0 s z)) ∧ (∀ z, z < i → nn121 (K3 + 1) (8 + z) = -1000) ∧ (∀ z, z < i → nn121 (K3 + 1 + 1) z = -1000) ∧ (∀ z, z < i → nn121 (K3 + 1 + 1) (8 + z) = vF (Sc m0 s z)))) → Rw (Ev d) k_L_areGains (121, [], [some (.ref (1)), some (.ref (a)), some (.ref (b)), some (.ref (rp)), some (.ref (gg)), some (.int (iI (((s : Nat) : Int)))), some (.int (iI (((N s : Nat) : Int)))), some (.int (iI (0))), some (.int (iI (0))), some (.int (iI (1))), some (.ref (K3 + 1)), some (.ref (K3 + 1 + 1)), some (.int (iI (((i : Nat) : Int)))), none, none, none], [], hB X m121 p121 K121 sh121 nn121, cc, ss) Qr := by
            refine loop_any (fun i hi121 ih121 => ?_)
            intro cc ss K121 sh121 nn121 m121 p121
            intro hI
            obtain ⟨hKl121, hBl121, hSl121, hF121, hC121, ⟨hk1, hk2, hl1, hl2⟩⟩ := hI
            refine rw_blk lk_L_areGains_121 ?_
            refine rw_of (fun rr hrr => q_iload rfl (q_iload rfl hrr)) ?_
            refine rw_icmp_ge ⟨by omega, by omega⟩ ⟨by omega, by omega⟩ (t := 293) rfl (fun hc9 => ?_) (fun hc9 => ?_)
            · skip
              refine rw_blk lk_L_areGains_293 ?_
              refine rw_of (fun rr hrr => q_aload rfl (q_bipush rfl (q_iload rfl (q_last (j := 17) (Ro_call hKl121 hSl121 (Ro_new (Ro_made (by omega)))) rfl (by omega) hrr)))) ?_
              generalize hm10 : wI nn121 (K3 + 1) 17 (((N s : Nat) : Int)) = e11
              refine rw_of (fun rr hrr => q_aload rfl (q_bipush rfl (q_iload rfl (q_last (j := 17) (Ro_call hKl121 hSl121 (Ro_made (by omega))) rfl (by omega) hrr)))) ?_
              generalize hm12 : wI e11 (K3 + 1 + 1) 17 (((N s : Nat) : Int)) = e13
              refine rw_of (fun rr hrr => q_iconst (q_istore (Nat.le_of_ble_eq_true rfl) rfl hrr)) ?_
              have hL310 : ∀ x, x ≤ N s + 1 → ∀ (cc ss : Nat) (K310 : Nat) (sh310 : Nat → Nat) (nn310 : N2) (x310_13 : Option Value) (x310_14 : Option Value) (x310_15 : Option Value), (K121 ≤ K310 ∧ K310 ≤ K121 + 2 * x ∧ FrS K121 sh121 sh310 ∧ FrN (fun a_ => K121 < a_) e13 nn310 ∧ ((∀ z, z < N s → nn310 (K3 + 1) z = vF (Sb m0 s z)) ∧ (∀ z, z < N s → nn310 (K3 + 1) (8 + z) = -1000) ∧ (∀ z, z < N s → nn310 (K3 + 1 + 1) z = -1000) ∧ (∀ z, z < N s → nn310 (K3 + 1 + 1) (8 + z) = vF (Sc m0 s z)) ∧ nn310 (K3 + 1) 17 = ((N s : Nat) : Int) ∧ nn310 (K3 + 1 + 1) 17 = ((N s : Nat) : Int))) → Rw (Ev d) k_L_areGains (310, [], [some (.ref (1)), some (.ref (a)), some (.ref (b)), some (.ref (rp)), some (.ref (gg)), some (.int (iI (((s : Nat) : Int)))), some (.int (iI (((N s : Nat) : Int)))), some (.int (iI (0))), some (.int (iI (0))), some (.int (iI (1))), some (.ref (K3 + 1)), some (.ref (K3 + 1 + 1)), some (.int (iI (((x : Nat) : Int)))), x310_13, x310_14, x310_15], [], hB X m121 p121 K310 sh310 nn310, cc, ss) Qr := by
                refine loop_any (fun x hi310 ih310 => ?_)
                intro cc ss K310 sh310 nn310 x310_13 x310_14 x310_15
                intro hI
                obtain ⟨hKl310, hBl310, hSl310, hF310, ⟨gk1, gk2, gl1, gl2, gk3, gl3⟩⟩ := hI
                refine rw_blk lk_L_areGains_310 ?_
                refine rw_of (fun rr hrr => q_iload rfl (q_iload rfl hrr)) ?_
                refine rw_icmp_gt ⟨by omega, by omega⟩ ⟨by omega, by omega⟩ (t := 436) rfl (fun hc14 => ?_) (fun hc14 => ?_)
                · skip
                  refine rw_blk lk_L_areGains_436 ?_
                  refine rw_of (fun rr hrr => q_iload rfl hrr) ?_
                  refine lw_end hQ (q_ireturn (by omega)) (by omega) (by omega) (FrS_tr (by omega) (FrS_tr (by omega) (FrS_tr (by omega) (FrS_tr (by omega) (FrS_tr (by omega) (FrS_tr (by omega) (FrS_tr (by omega) (FrS_tr (by omega) FrS_rfl hSl31) hSl60) hS1) hS3) FrS_new) FrS_new) hSl121) hSl310) ?_
                  exact ⟨rfl, hC121, fun a9 h9 => ((hF310 a9 (by show ¬ (K121 < a9); omega)).trans ((kN hm12 (by omega)).trans ((kN hm10 (by omega)).trans ((hF121 a9 (by show ¬ (K3 + 1 + 1 < a9 ∨ a9 = (K3 + 1) ∨ a9 = (K3 + 1 + 1)); omega)).trans ((kU hu7 (by omega)).trans ((kU hu5 (by omega)).trans ((hF60 a9 (by show ¬ (K31 < a9); omega)).trans (hF31 a9 (by show ¬ (K < a9); omega)))))))))⟩
                · skip
                  refine rw_of (fun rr hrr => q_iload rfl hrr) ?_
                  refine rw_if_eq ⟨by omega, by omega⟩ (t := 436) rfl (fun hc15 => ?_) (fun hc15 => ?_)
                  · exact absurd hc15 (by decide)
                  · skip
                    refine rw_of (fun rr hrr => q_iconst (q_istore (Nat.le_of_ble_eq_true rfl) rfl (q_iconst (q_istore (Nat.le_of_ble_eq_true rfl) rfl (q_iconst (q_istore (Nat.le_of_ble_eq_true rfl) rfl hrr)))))) ?_
                    have hL331 : ∀ i, i ≤ N s → ∀ (cc ss : Nat) , Rw (Ev d) k_L_areGains (331, [], [some (.ref (1)), some (.ref (a)), some (.ref (b)), some (.ref (rp)), some (.ref (gg)), some (.int (iI (((s : Nat) : Int)))), some (.int (iI (((N s : Nat) : Int)))), some (.int (iI (0))), some (.int (iI (0))), some (.int (iI (1))), some (.ref (K3 + 1)), some (.ref (K3 + 1 + 1)), some (.int (iI (((x : Nat) : Int)))), some (.int (iI (vF (prd PP (nF x) i)))), some (.int (iI (vF (prd (fun zz => PP (N s + zz)) (nF x) i)))), some (.int (iI (((i : Nat) : Int))))], [], hB X m121 p121 K310 sh310 nn310, cc, ss) Qr := by
                      refine loop_any (fun i hi331 ih331 => ?_)
                      intro cc ss
                      refine rw_blk lk_L_areGains_331 ?_
                      refine rw_of (fun rr hrr => q_iload rfl (q_iload rfl hrr)) ?_
                      refine rw_icmp_ge ⟨by omega, by omega⟩ ⟨by omega, by omega⟩ (t := 385) rfl (fun hc16 => ?_) (fun hc16 => ?_)
                      · skip
                        refine rw_blk lk_L_areGains_385 ?_
                        refine rw_of (fun rr hrr => q_iload rfl hrr) ?_
                        refine rw_if_eq ⟨by omega, by omega⟩ (t := 404) rfl (fun hc17 => ?_) (fun hc17 => ?_)
                        · skip
                          refine rw_blk lk_L_areGains_404 ?_
                          refine rw_of (fun rr hrr => q_iload rfl hrr) ?_
                          refine rw_if_eq ⟨by omega, by omega⟩ (t := 423) rfl (fun hc18 => ?_) (fun hc18 => ?_)
                          · skip
                            refine rw_blk lk_L_areGains_423 ?_
                            refine rw_of (fun rr hrr => q_iconst (q_goto (t := 428) rfl hrr)) ?_
                            refine rw_blk lk_L_areGains_428 ?_
                            refine rw_of (fun rr hrr => q_istore (Nat.le_of_ble_eq_true rfl) rfl (q_iinc rfl rfl (q_goto (t := 310) rfl hrr))) ?_
                            have hA19 : (∀ z, z < N s → nn310 (K3 + 1) z = vF (Sb m0 s z)) ∧ (∀ z, z < N s → nn310 (K3 + 1) (8 + z) = -1000) ∧ (∀ z, z < N s → nn310 (K3 + 1 + 1) z = -1000) ∧ (∀ z, z < N s → nn310 (K3 + 1 + 1) (8 + z) = vF (Sc m0 s z)) ∧ nn310 (K3 + 1) 17 = ((N s : Nat) : Int) ∧ nn310 (K3 + 1 + 1) 17 = ((N s : Nat) : Int) := by
                              have ek : nn310 (K3 + 1) = nn310 (K3 + 1) := rfl
                              have el : nn310 (K3 + 1 + 1) = nn310 (K3 + 1 + 1) := rfl
                              exact ⟨fun z hz => (congrFun ek _).trans (gk1 z hz), fun z hz => (congrFun ek _).trans (gk2 z hz), fun z hz => (congrFun el _).trans (gl1 z hz), fun z hz => (congrFun el _).trans (gl2 z hz), (congrFun ek _).trans gk3, (congrFun el _).trans gl3⟩
                            exact rw_cast (ih310 (by omega) _ _ K310 sh310 nn310 (some (.int (iI (vF (prd PP (nF x) i))))) (some (.int (iI (vF (prd (fun zz => PP (N s + zz)) (nF x) i))))) (some (.int (iI (((i : Nat) : Int))))) ⟨(by omega), (by omega), ((FrS_tr (by omega) FrS_rfl hSl310)), (fun a9 h9 => (hF310 a9 (by show ¬ (K121 < a9); omega))), hA19⟩) (lcons rfl (lcons rfl (lcons rfl (lcons rfl (lcons rfl (lcons rfl (lcons rfl (lcons rfl (lcons rfl (lcons rfl (lcons rfl (lcons rfl (lcons (lvI (by omega)) (lcons rfl (lcons rfl (lcons rfl rfl)))))))))))))))) rfl
                          · exact absurd hc18 (by decide)
                        · exact absurd hc17 (by decide)
                      · skip
                        refine rw_of (fun rr hrr => q_iload rfl (q_iload rfl (q_aload_n rfl (q_iload rfl (q_lald (j := i) (Ro_call hKl310 hSl310 (Ro_call hKl121 hSl121 (Ro_new (Ro_new (Ro_call hK3 hS3 (Ro_call hK1 hS1 (Ro_call hKl60 hSl60 (Ro_call hKl31 hSl31 hpr)))))))) rfl (by omega) (((congrFun (hF310 rp (by show ¬ (K121 < rp); omega)) _).trans ((congrFun (kN hm12 (by omega)) _).trans ((congrFun (kN hm10 (by omega)) _).trans ((congrFun (hF121 rp (by show ¬ (K3 + 1 + 1 < rp ∨ rp = (K3 + 1) ∨ rp = (K3 + 1 + 1)); omega)) _).trans ((congrFun (kU hu7 (by omega)) _).trans ((congrFun (kU hu5 (by omega)) _).trans ((congrFun (hF60 rp (by show ¬ (K31 < rp); omega)) _).trans (congrFun (hF31 rp (by show ¬ (K < rp); omega)) _)))))))).trans (hpp i (by omega))) (q_isub hrr)))))) ?_
                        obtain ⟨_, _, _, hV20, rfl, rfl, rfl⟩ := c_L_rest (S := (K310, gB X sh310 nn310)) (fz := false) (m := m121) (p := p121) (d := d) (by omega) ((((x : Nat) : Int) - vF (PP i))) ((nF (x) - (PP i))) ⟨by have := vF_ge (PP i); have := vF_lt (PP i); omega, by have := vF_ge (PP i); have := vF_lt (PP i); omega⟩ (by simp only [toF_add, toF_mul, toF_sub, toF_neg, toF_vF, toF_nat, toF_0, toF_1, toF_M, F_add0, F_0sub])
                        refine rw_of (fun rr hrr => q_invS hV20 rfl rfl (okar_cons rfl okar_nil) (Nat.le_of_ble_eq_true rfl) (q_imul (q_sipush rfl (q_irem (rg_times _ _) ⟨by omega, by omega⟩ (by omega) (remF (Int.mul_nonneg (vF_ge _) (vF_ge _)) (show toF ((vF (prd PP (nF x) i) * vF ((nF (x) - (PP i))))) = ((prd PP (nF x) i) * ((nF (x) - (PP i)))) by simp only [toF_add, toF_mul, toF_sub, toF_neg, toF_vF, toF_nat, toF_0, toF_1, toF_M, F_add0, F_0sub])) (q_istore (Nat.le_of_ble_eq_true rfl) rfl (q_iload rfl (q_iload rfl (q_aload_n rfl (q_iload rfl (q_iload rfl (q_iadd (q_lald (j := N s + i) (Ro_call hKl310 hSl310 (Ro_call hKl121 hSl121 (Ro_new (Ro_new (Ro_call hK3 hS3 (Ro_call hK1 hS1 (Ro_call hKl60 hSl60 (Ro_call hKl31 hSl31 hpr)))))))) (by omega) (by omega) (((congrFun (hF310 rp (by show ¬ (K121 < rp); omega)) _).trans ((congrFun (kN hm12 (by omega)) _).trans ((congrFun (kN hm10 (by omega)) _).trans ((congrFun (hF121 rp (by show ¬ (K3 + 1 + 1 < rp ∨ rp = (K3 + 1) ∨ rp = (K3 + 1 + 1)); omega)) _).trans ((congrFun (kU hu7 (by omega)) _).trans ((congrFun (kU hu5 (by omega)) _).trans ((congrFun (hF60 rp (by show ¬ (K31 < rp); omega)) _).trans (congrFun (hF31 rp (by show ¬ (K < rp); omega)) _)))))))).trans (hpp (N s + i) (by omega))) (q_isub hrr))))))))))))) ?_
                        obtain ⟨_, _, _, hV21, rfl, rfl, rfl⟩ := c_L_rest (S := (K310, gB X sh310 nn310)) (fz := false) (m := m121) (p := p121) (d := d) (by omega) ((((x : Nat) : Int) - vF (PP (N s + i)))) ((nF (x) - (PP (N s + i)))) ⟨by have := vF_ge (PP (N s + i)); have := vF_lt (PP (N s + i)); omega, by have := vF_ge (PP (N s + i)); have := vF_lt (PP (N s + i)); omega⟩ (by simp only [toF_add, toF_mul, toF_sub, toF_neg, toF_vF, toF_nat, toF_0, toF_1, toF_M, F_add0, F_0sub])
                        refine rw_of (fun rr hrr => q_invS hV21 rfl rfl (okar_cons rfl okar_nil) (Nat.le_of_ble_eq_true rfl) (q_imul (q_sipush rfl (q_irem (rg_times _ _) ⟨by omega, by omega⟩ (by omega) (remF (Int.mul_nonneg (vF_ge _) (vF_ge _)) (show toF ((vF (prd (fun zz => PP (N s + zz)) (nF x) i) * vF ((nF (x) - (PP (N s + i)))))) = ((prd (fun zz => PP (N s + zz)) (nF x) i) * ((nF (x) - (PP (N s + i))))) by simp only [toF_add, toF_mul, toF_sub, toF_neg, toF_vF, toF_nat, toF_0, toF_1, toF_M, F_add0, F_0sub])) (q_istore (Nat.le_of_ble_eq_true rfl) rfl (q_iinc rfl rfl (q_goto (t := 331) rfl hrr))))))) ?_
                        exact rw_cast (ih331 (by omega) _ _) (lcons rfl (lcons rfl (lcons rfl (lcons rfl (lcons rfl (lcons rfl (lcons rfl (lcons rfl (lcons rfl (lcons rfl (lcons rfl (lcons rfl (lcons rfl (lcons (lvI (by exact congrArg vF (by first | rfl | grind))) (lcons (lvI (by exact congrArg vF (by first | rfl | grind))) (lcons (lvI (by omega)) rfl)))))))))))))))) rfl
                    exact rw_cast (hL331 0 (by omega) _ _) (lcons rfl (lcons rfl (lcons rfl (lcons rfl (lcons rfl (lcons rfl (lcons rfl (lcons rfl (lcons rfl (lcons rfl (lcons rfl (lcons rfl (lcons rfl (lcons (lvI (by rfl)) (lcons (lvI (by rfl)) (lcons (lvI (by omega)) rfl)))))))))))))))) rfl
              have hA22 : (∀ z, z < N s → e13 (K3 + 1) z = vF (Sb m0 s z)) ∧ (∀ z, z < N s → e13 (K3 + 1) (8 + z) = -1000) ∧ (∀ z, z < N s → e13 (K3 + 1 + 1) z = -1000) ∧ (∀ z, z < N s → e13 (K3 + 1 + 1) (8 + z) = vF (Sc m0 s z)) ∧ e13 (K3 + 1) 17 = ((N s : Nat) : Int) ∧ e13 (K3 + 1 + 1) 17 = ((N s : Nat) : Int) := by
                refine ⟨fun z hz => ?_, fun z hz => ?_, fun z hz => ?_, fun z hz => ?_, (congrFun (kN hm12 (by omega)) _).trans (kA hm10), kA hm12⟩
                · exact (congrFun (kN hm12 (by omega)) _).trans ((kB hm10 (by omega)).trans (hk1 z (by omega)))
                · exact (congrFun (kN hm12 (by omega)) _).trans ((kB hm10 (by omega)).trans (hk2 z (by omega)))
                · exact (kB hm12 (by omega)).trans ((congrFun (kN hm10 (by omega)) _).trans (hl1 z (by omega)))
                · exact (kB hm12 (by omega)).trans ((congrFun (kN hm10 (by omega)) _).trans (hl2 z (by omega)))
              exact rw_cast (hL310 0 (by omega) _ _ K121 sh121 e13 none none none ⟨(by omega), (by omega), (FrS_rfl), (fun _ _ => rfl), hA22⟩) (lcons rfl (lcons rfl (lcons rfl (lcons rfl (lcons rfl (lcons rfl (lcons rfl (lcons rfl (lcons rfl (lcons rfl (lcons rfl (lcons rfl (lcons (lvI (by omega)) (lcons rfl (lcons rfl (lcons rfl rfl)))))))))))))))) rfl
            · skip
              refine rw_of (fun rr hrr => q_iload rfl hrr) ?_
              refine rw_if_eq ⟨by omega, by omega⟩ (t := 293) rfl (fun hc23 => ?_) (fun hc23 => ?_)
              · exact absurd hc23 (by decide)
              · skip
                refine rw_of (fun rr hrr => q_aload rfl (q_iload rfl (q_aload_n rfl (q_iload rfl (q_lald (j := i) (Ro_call hKl121 hSl121 (Ro_new (Ro_new (Ro_call hK3 hS3 (Ro_call hK1 hS1 (Ro_call hKl60 hSl60 (Ro_call hKl31 hSl31 hb))))))) rfl (by omega) (((congrFun (hF121 b (by show ¬ (K3 + 1 + 1 < b ∨ b = (K3 + 1) ∨ b = (K3 + 1 + 1)); omega)) _).trans ((congrFun (kU hu7 (by omega)) _).trans ((congrFun (kU hu5 (by omega)) _).trans ((congrFun (hF60 b (by show ¬ (K31 < b); omega)) _).trans (congrFun (hF31 b (by show ¬ (K < b); omega)) _))))).trans (hbv i (by omega))) (q_last (j := i) (Ro_call hKl121 hSl121 (Ro_new (Ro_made (by omega)))) rfl (by omega) hrr)))))) ?_
                generalize hm24 : wI nn121 (K3 + 1) i (vF (Sb m0 s i)) = e25
                refine rw_of (fun rr hrr => q_aload rfl (q_bipush rfl (q_iload rfl (q_iadd (q_aload_n rfl (q_bipush rfl (q_iload rfl (q_iload rfl (q_iconst (q_iconst (q_iconst hrr))))))))))) ?_
                obtain ⟨_, mm26, pp26, K26, _, _, cc26, ss26, hV26, hK26, hKB26, hS26, rfl, hC26, rfl, rfl⟩ := e_gainN (X := X) (K := K121) (sh := sh121) (nn := e25) (d := d) (by omega) hC121 hsk (g := i) (by omega) hcn
                have hKB26 : K26 ≤ K121 + 1 := hKB26
                refine rw_of (fun rr hrr => q_invS hV26 rfl rfl (okar_cons rfl (okar_cons rfl (okar_cons rfl (okar_cons rfl (okar_cons rfl (okar_cons rfl (okar_cons rfl okar_nil))))))) (Nat.le_of_ble_eq_true rfl) (q_last (j := 8 + i) (Ro_call hK26 hS26 (Ro_call hKl121 hSl121 (Ro_new (Ro_made (by omega))))) (by omega) (by omega) hrr)) ?_
                generalize hm27 : wI e25 (K3 + 1) (8 + i) ((-1000)) = e28
                refine rw_of (fun rr hrr => q_aload rfl (q_iload rfl (q_aload_n rfl (q_bipush rfl (q_iload rfl (q_iload rfl (q_iconst (q_iconst (q_iconst hrr))))))))) ?_
                obtain ⟨_, mm29, pp29, K29, _, _, cc29, ss29, hV29, hK29, hKB29, hS29, rfl, hC29, rfl, rfl⟩ := e_obsN (X := X) (K := K26) (sh := sh121) (nn := e28) (d := d) (by omega) hC26 hsk (g := i) (by omega) hcn2
                have hKB29 : K29 ≤ K26 + 1 := hKB29
                refine rw_of (fun rr hrr => q_invS hV29 rfl rfl (okar_cons rfl (okar_cons rfl (okar_cons rfl (okar_cons rfl (okar_cons rfl (okar_cons rfl (okar_cons rfl okar_nil))))))) (Nat.le_of_ble_eq_true rfl) (q_last (j := i) (Ro_call hK29 hS29 (Ro_call hK26 hS26 (Ro_call hKl121 hSl121 (Ro_made (by omega))))) rfl (by omega) hrr)) ?_
                generalize hm30 : wI e28 (K3 + 1 + 1) i ((-1000)) = e32
                refine rw_of (fun rr hrr => q_aload rfl (q_bipush rfl (q_iload rfl (q_iadd (q_aload_n rfl (q_bipush rfl (q_iload rfl (q_iadd (q_lald (j := 8 + i) (Ro_call hK29 hS29 (Ro_call hK26 hS26 (Ro_call hKl121 hSl121 (Ro_new (Ro_new (Ro_call hK3 hS3 (Ro_call hK1 hS1 (Ro_call hKl60 hSl60 (Ro_call hKl31 hSl31 hb))))))))) (by omega) (by omega) (((congrFun (kN hm30 (by omega)) _).trans ((congrFun (kN hm27 (by omega)) _).trans ((congrFun (kN hm24 (by omega)) _).trans ((congrFun (hF121 b (by show ¬ (K3 + 1 + 1 < b ∨ b = (K3 + 1) ∨ b = (K3 + 1 + 1)); omega)) _).trans ((congrFun (kU hu7 (by omega)) _).trans ((congrFun (kU hu5 (by omega)) _).trans ((congrFun (hF60 b (by show ¬ (K31 < b); omega)) _).trans (congrFun (hF31 b (by show ¬ (K < b); omega)) _)))))))).trans (hcv i (by omega))) (q_last (j := 8 + i) (Ro_call hK29 hS29 (Ro_call hK26 hS26 (Ro_call hKl121 hSl121 (Ro_made (by omega))))) (by omega) (by omega) hrr)))))))))) ?_
                generalize hm33 : wI e32 (K3 + 1 + 1) (8 + i) (vF (Sc m0 s i)) = e34
                refine rw_of (fun rr hrr => q_aload rfl (q_bipush rfl (q_iload rfl (q_iadd (q_lald (j := 8 + i) (Ro_call hK29 hS29 (Ro_call hK26 hS26 (Ro_call hKl121 hSl121 (Ro_new (Ro_made (by omega)))))) (by omega) (by omega) (((congrFun (kN hm33 (by omega)) _).trans (congrFun (kN hm30 (by omega)) _)).trans (kA hm27)) (q_aload_n rfl (q_bipush rfl (q_iload rfl (q_iload rfl (q_iconst (q_iconst (q_iconst hrr)))))))))))) ?_
                obtain ⟨_, mm35, pp35, K35, _, _, cc35, ss35, hV35, hK35, hKB35, hS35, rfl, hC35, rfl, rfl⟩ := e_gainAN (X := X) (K := K29) (sh := sh121) (nn := e34) (d := d) (by omega) hC29 hsk (g := i) (by omega) hcn
                have hKB35 : K35 ≤ K29 + 1 := hKB35
                refine rw_of (fun rr hrr => q_invS hV35 rfl rfl (okar_cons rfl (okar_cons rfl (okar_cons rfl (okar_cons rfl (okar_cons rfl (okar_cons rfl (okar_cons rfl okar_nil))))))) (Nat.le_of_ble_eq_true rfl) hrr) ?_
                refine rw_icmp_ne ⟨by omega, by omega⟩ ⟨by omega, by omega⟩ (t := 284) rfl (fun hc36 => ?_) (fun hc36 => ?_)
                · exact absurd hc36 (by decide)
                · skip
                  refine rw_of (fun rr hrr => q_iload rfl hrr) ?_
                  refine rw_if_eq ⟨by omega, by omega⟩ (t := 239) rfl (fun hc37 => ?_) (fun hc37 => ?_)
                  · skip
                    refine rw_blk lk_L_areGains_239 ?_
                    refine rw_of (fun rr hrr => q_aload rfl (q_bipush rfl (q_iload rfl (q_iadd (q_lald (j := 8 + i) (Ro_call hK35 hS35 (Ro_call hK29 hS29 (Ro_call hK26 hS26 (Ro_call hKl121 hSl121 (Ro_new (Ro_made (by omega))))))) (by omega) (by omega) (((congrFun (kN hm33 (by omega)) _).trans (congrFun (kN hm30 (by omega)) _)).trans (kA hm27)) (q_sipush rfl hrr)))))) ?_
                    refine rw_icmp_ne ⟨by omega, by omega⟩ ⟨by omega, by omega⟩ (t := 284) rfl (fun hc38 => ?_) (fun hc38 => ?_)
                    · exact absurd hc38 (by decide)
                    · skip
                      refine rw_blk lk_L_areGains_253 ?_
                      refine rw_of (fun rr hrr => q_iload rfl hrr) ?_
                      refine rw_if_eq ⟨by omega, by omega⟩ (t := 269) rfl (fun hc39 => ?_) (fun hc39 => ?_)
                      · skip
                        refine rw_blk lk_L_areGains_269 ?_
                        refine rw_of (fun rr hrr => q_aload rfl (q_iload rfl (q_lald (j := i) (Ro_call hK35 hS35 (Ro_call hK29 hS29 (Ro_call hK26 hS26 (Ro_call hKl121 hSl121 (Ro_made (by omega)))))) rfl (by omega) ((kB hm33 (by omega)).trans (kA hm30)) (q_sipush rfl hrr)))) ?_
                        refine rw_icmp_ne ⟨by omega, by omega⟩ ⟨by omega, by omega⟩ (t := 284) rfl (fun hc40 => ?_) (fun hc40 => ?_)
                        · exact absurd hc40 (by decide)
                        · skip
                          refine rw_blk lk_L_areGains_280 ?_
                          refine rw_of (fun rr hrr => q_iconst (q_goto (t := 285) rfl hrr)) ?_
                          refine rw_blk lk_L_areGains_285 ?_
                          refine rw_of (fun rr hrr => q_istore (Nat.le_of_ble_eq_true rfl) rfl (q_iinc rfl rfl (q_goto (t := 121) rfl hrr))) ?_
                          have hA41 : (∀ z, z < (i + 1) → e34 (K3 + 1) z = vF (Sb m0 s z)) ∧ (∀ z, z < (i + 1) → e34 (K3 + 1) (8 + z) = -1000) ∧ (∀ z, z < (i + 1) → e34 (K3 + 1 + 1) z = -1000) ∧ (∀ z, z < (i + 1) → e34 (K3 + 1 + 1) (8 + z) = vF (Sc m0 s z)) := by
                            refine ⟨fun z hz => ?_, fun z hz => ?_, fun z hz => ?_, fun z hz => ?_⟩
                            · rw [kN hm33 (by omega), kN hm30 (by omega), kB hm27 (by omega)]
                              by_cases q : z = i
                              · rw [q]
                                exact kA hm24
                              · exact (kB hm24 q).trans (hk1 z (by omega))
                            · rw [kN hm33 (by omega), kN hm30 (by omega)]
                              by_cases q : z = i
                              · rw [q]
                                exact kA hm27
                              · rw [kB hm27 (by omega), kB hm24 (by omega)]
                                exact hk2 z (by omega)
                            · rw [kB hm33 (by omega)]
                              by_cases q : z = i
                              · rw [q]
                                exact kA hm30
                              · rw [kB hm30 (by omega), kN hm27 (by omega), kN hm24 (by omega)]
                                exact hl1 z (by omega)
                            · by_cases q : z = i
                              · rw [q]
                                exact kA hm33
                              · rw [kB hm33 (by omega), kB hm30 (by omega), kN hm27 (by omega), kN hm24 (by omega)]
                                exact hl2 z (by omega)
                          exact rw_cast (ih121 (by omega) _ _ K35 sh121 e34 mm35 pp35 ⟨(by omega), (by omega), ((FrS_tr (by omega) (FrS_tr (by omega) (FrS_tr (by omega) (FrS_tr (by omega) FrS_rfl hSl121) hS26) hS29) hS35)), (fun a9 h9 => ((kN hm33 (by omega)).trans ((kN hm30 (by omega)).trans ((kN hm27 (by omega)).trans ((kN hm24 (by omega)).trans (hF121 a9 (by show ¬ (K3 + 1 + 1 < a9 ∨ a9 = (K3 + 1) ∨ a9 = (K3 + 1 + 1)); omega))))))), hC35, hA41⟩) (lcons rfl (lcons rfl (lcons rfl (lcons rfl (lcons rfl (lcons rfl (lcons rfl (lcons rfl (lcons rfl (lcons rfl (lcons rfl (lcons rfl (lcons (lvI (by omega)) (lcons rfl (lcons rfl (lcons rfl rfl)))))))))))))))) rfl
                      · exact absurd hc39 (by decide)
                  · exact absurd hc37 (by decide)
          have hA42 : (∀ z, z < 0 → e8 (K3 + 1) z = vF (Sb m0 s z)) ∧ (∀ z, z < 0 → e8 (K3 + 1) (8 + z) = -1000) ∧ (∀ z, z < 0 → e8 (K3 + 1 + 1) z = -1000) ∧ (∀ z, z < 0 → e8 (K3 + 1 + 1) (8 + z) = vF (Sc m0 s z)) := by
            exact ⟨fun z hz => absurd hz (Nat.not_lt_zero z), fun z hz => absurd hz (Nat.not_lt_zero z), fun z hz => absurd hz (Nat.not_lt_zero z), fun z hz => absurd hz (Nat.not_lt_zero z)⟩
          exact rw_cast (hL121 0 (by omega) _ _ (K3 + 1 + 1) (shU (shU sh60 (K3 + 1) 18) (K3 + 1 + 1) 18) e8 mm3 pp3 ⟨(by omega), (by omega), (FrS_rfl), (fun _ _ => rfl), hC3, hA42⟩) (lcons rfl (lcons rfl (lcons rfl (lcons rfl (lcons rfl (lcons rfl (lcons rfl (lcons rfl (lcons rfl (lcons rfl (lcons rfl (lcons rfl (lcons (lvI (by omega)) (lcons rfl (lcons rfl (lcons rfl rfl)))))))))))))))) rfl
    refine rw_icmp_lt ⟨by omega, by omega⟩ ⟨by omega, by omega⟩ (t := 59) rfl (fun hc43 => ?_) (fun hc43 => ?_)
    · skip
      refine rw_blk lk_L_areGains_59 ?_
      refine rw_of (fun rr hrr => q_iconst hrr) ?_
      exact rw_casts (hL60 _ _ K31 sh31 nn31 ⟨(by omega), (by omega), (FrS_rfl), (fun _ _ => rfl)⟩) rfl rfl
    · skip
      refine rw_of (fun rr hrr => q_aload_n rfl (q_aload_n rfl (q_iconst hrr))) ?_
      obtain ⟨_, mm44, pp44, K44, sh44, e44, cc44, ss44, hV44, hK44, hKB44, hS44, rfl, rfl, rfl, hF44⟩ := c_L_rankOf1 (X := X) (m := m) (p := p) (K := K31) (sh := sh31) (nn := nn31) (d := d) (by omega) (by omega) a b (N s) (SA m0 s) (Sb m0 s) (Sc m0 s) ((Ro_call hKl31 hSl31 ha)) ((Ro_call hKl31 hSl31 hb)) hn (Mv_k hA (hF31 a (by show ¬ (K < a); omega))) (fun z hz => (congrFun (hF31 b (by show ¬ (K < b); omega)) _).trans (hbv z hz)) (fun z hz => (congrFun (hF31 b (by show ¬ (K < b); omega)) _).trans (hcv z hz)) ((congrFun (hF31 b (by show ¬ (K < b); omega)) _).trans hbn)
      have hKB44 : K44 ≤ K31 + 10 := hKB44
      refine rw_of (fun rr hrr => q_invS hV44 rfl rfl (okar_cons rfl (okar_cons rfl (okar_cons rfl okar_nil))) (Nat.le_of_ble_eq_true rfl) (q_iload rfl hrr)) ?_
      refine rw_icmp_ne ⟨by omega, by omega⟩ ⟨by omega, by omega⟩ (t := 59) rfl (fun hc45 => ?_) (fun hc45 => ?_)
      · skip
        refine rw_blk lk_L_areGains_59 ?_
        refine rw_of (fun rr hrr => q_iconst hrr) ?_
        exact rw_casts (hL60 _ _ K44 sh44 e44 ⟨(by omega), (by omega), ((FrS_tr (by omega) FrS_rfl hS44)), (fun a9 h9 => (hF44 a9 (by show ¬ (K31 < a9); omega)))⟩) rfl rfl
      · exact absurd ⟨by omega, by omega⟩ hcn2
  refine rw_icmp_lt ⟨by omega, by omega⟩ ⟨by omega, by omega⟩ (t := 30) rfl (fun hc46 => ?_) (fun hc46 => ?_)
  · skip
    refine rw_blk lk_L_areGains_30 ?_
    refine rw_of (fun rr hrr => q_iconst hrr) ?_
    exact rw_casts (hL31 _ _ K sh nn ⟨(by omega), (by omega), (FrS_rfl), (fun _ _ => rfl)⟩) rfl rfl
  · skip
    refine rw_of (fun rr hrr => q_aload_n rfl (q_aload_n rfl (q_iconst hrr))) ?_
    obtain ⟨_, mm47, pp47, K47, sh47, e47, cc47, ss47, hV47, hK47, hKB47, hS47, rfl, rfl, rfl, hF47⟩ := c_L_rankOf0 (X := X) (m := m) (p := p) (K := K) (sh := sh) (nn := nn) (d := d) (by omega) (by omega) a b (N s) (SA m0 s) (Sb m0 s) (Sc m0 s) (ha) (hb) hn (Mv_k hA rfl) (fun z hz => (congrFun rfl _).trans (hbv z hz)) (fun z hz => (congrFun rfl _).trans (hcv z hz)) ((congrFun rfl _).trans hbn)
    have hKB47 : K47 ≤ K + 10 := hKB47
    refine rw_of (fun rr hrr => q_invS hV47 rfl rfl (okar_cons rfl (okar_cons rfl (okar_cons rfl okar_nil))) (Nat.le_of_ble_eq_true rfl) (q_iload rfl hrr)) ?_
    refine rw_icmp_ne ⟨by omega, by omega⟩ ⟨by omega, by omega⟩ (t := 30) rfl (fun hc48 => ?_) (fun hc48 => ?_)
    · skip
      refine rw_blk lk_L_areGains_30 ?_
      refine rw_of (fun rr hrr => q_iconst hrr) ?_
      exact rw_casts (hL31 _ _ K47 sh47 e47 ⟨(by omega), (by omega), ((FrS_tr (by omega) FrS_rfl hS47)), (fun a9 h9 => (hF47 a9 (by show ¬ (K < a9); omega)))⟩) rfl rfl
    · exact absurd ⟨by omega, by omega⟩ hcn
