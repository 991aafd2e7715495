/-! What a system with its poles placed has. -/
section
variable {d : Nat} {S : Env} {m0 m : M1} {k cp ci s : Nat} {N : Nat → Nat} {p : M2}
theorem w_gain (hd : 8 ≤ d) (h : CS m0 k N cp ci m p) (hsk : s < k) {g : Nat} {y : Nat → F} (hg : g < N s) (hc : N s ≤ cp) (hr : rk (N s) (kr (N s) (SA m0 s) (Sb m0 s)) = N s) (hy : Du (N s) (SA m0 s) (Sb m0 s) y) : Qn d k_X9_gain S [.ref 1, .int (iI ((s : Nat) : Int)), .int (iI ((g : Nat) : Int))] m0 k N cp ci m p (vF (av (N s) (SA m0 s) (m0 4) y (N s) g)) := by
  obtain ⟨v, m', p', hE, x, rfl, hx, hP, hF⟩ := c_X9_gain (S := S) (fz := false) (d := d) (by omega) s k (N s) g cp h.PI h.ck h.k12 hsk (h.cn hsk) (h.N1 hsk) (h.N8 hsk) h.pc h.p16 hg hc (by rw [h.A, h.b]; exact hr)
  rw [h.A, h.P] at hE
  rw [h.A, h.b] at hx
  rw [av_x (fun i hi => Du_eq hr hx hy i hi) (N s) g hg] at hE
  exact ⟨_, m', p', hE, rfl, CS_fr h hP hF⟩
theorem w_obs (hd : 8 ≤ d) (h : CS m0 k N cp ci m p) (hsk : s < k) {g : Nat} {y : Nat → F} (hg : g < N s) (hc : 2 * N s ≤ cp) (hr : rk (N s) (kr (N s) (trp (SA m0 s)) (Sc m0 s)) = N s) (hy : Du (N s) (trp (SA m0 s)) (Sc m0 s) y) : Qn d k_X9_observer S [.ref 1, .int (iI ((s : Nat) : Int)), .int (iI ((g : Nat) : Int))] m0 k N cp ci m p (vF (av (N s) (trp (SA m0 s)) (fun i => m0 4 (N s + i)) y (N s) g)) := by
  obtain ⟨v, m', p', hE, x, rfl, hx, hP, hF⟩ := c_X9_observer (S := S) (fz := false) (d := d) (by omega) s k (N s) g cp h.PI h.ck h.k12 hsk (h.cn hsk) (h.N1 hsk) (h.N8 hsk) h.pc h.p16 hg hc (by rw [h.At, h.c]; exact hr)
  rw [h.At, h.P] at hE
  rw [h.At, h.c] at hx
  rw [av_x (fun i hi => Du_eq hr hx hy i hi) (N s) g hg] at hE
  exact ⟨_, m', p', hE, rfl, CS_fr h hP hF⟩
end
theorem c_L_arePlaced0 {d : Nat} {X : MC} {m0 m : M1} {p : M2} {K : Nat} {sh : Nat → Nat} {nn : N2} (hd : 10 ≤ d) (hK : 260 ≤ K) (t s : Nat) (y : Nat → F) (k cp ci : Nat) (N : Nat → Nat) (hC : CS m0 k N cp ci m p) (htk : t < k) (hsk : s < k) (hc : N s ≤ cp) (hr : rk (N s) (kr (N s) (SA m0 s) (Sb m0 s)) = N s) (hy : Du (N s) (SA m0 s) (Sb m0 s) y) (hNt : N t = N s) (hdt : Sd m0 t = Sd m0 s) (hbt : ∀ i, i < N s → Sb m0 t i = Sb m0 s i) (hct : ∀ i, i < N s → Sc m0 t i = Sc m0 s i) (hAt : ∀ i, i < N s → ∀ j, j < N s → SA m0 t i j = SA m0 s i j - Sb m0 s i * av (N s) (SA m0 s) (m0 4) y (N s) j) : Lc d k_L_arePlaced X [.ref (1), .int (iI (((t : Nat) : Int))), .int (iI (((s : Nat) : Int))), .int (iI (0))] m p K sh nn (fun v m' p' K' sh' n' => v = some (.int (iI 1)) ∧ CS m0 k N cp ci m' p' ∧ FrN (fun a_ => K < a_) nn n') := by
  obtain ⟨d, rfl⟩ : ∃ e, d = e + 1 := ⟨d - 1, by omega⟩
  have hn1 := hC.N1 hsk
  have hn := hC.N8 hsk
  have ht1 := hC.N1 htk
  have ht := hC.N8 htk
  refine lc_go (lv := [some (.ref (1)), some (.int (iI (((t : Nat) : Int)))), some (.int (iI (((s : Nat) : Int)))), some (.int (iI (0))), none, none, none, none, none, none, none, none, none, none]) (B := 4) (Nat.le_of_ble_eq_true rfl) (okar_cons rfl (okar_cons rfl (okar_cons rfl (okar_cons rfl okar_nil)))) rfl rfl (fun Qr hQ => ?_)
  refine rw_blk lk_L_arePlaced_0 ?_
  refine rw_of (fun rr hrr => q_bipush rfl (q_lnew (l := 64) (by omega) rfl (by omega) hrr)) ?_
  generalize hu1 : nU nn (K + 1) = e2
  refine rw_of (fun rr hrr => q_astore (Nat.le_of_ble_eq_true rfl) rfl (q_bipush rfl (q_lnew (l := 18) (by omega) rfl (by omega) hrr))) ?_
  generalize hu3 : nU e2 (K + 1 + 1) = e4
  refine rw_of (fun rr hrr => q_astore (Nat.le_of_ble_eq_true rfl) rfl (q_bipush rfl (q_lnew (l := 64) (by omega) rfl (by omega) hrr))) ?_
  generalize hu5 : nU e4 (K + 1 + 1 + 1) = e6
  refine rw_of (fun rr hrr => q_astore (Nat.le_of_ble_eq_true rfl) rfl (q_bipush rfl (q_lnew (l := 18) (by omega) rfl (by omega) hrr))) ?_
  generalize hu7 : nU e6 (K + 1 + 1 + 1 + 1) = e8
  refine rw_of (fun rr hrr => q_astore (Nat.le_of_ble_eq_true rfl) rfl (q_aload_n rfl (q_iload_n rfl (q_aload rfl (q_aload rfl hrr))))) ?_
  obtain ⟨_, mm9, pp9, K9, sh9, e9, cc9, ss9, hV9, hK9, hKB9, hS9, rfl, hC9, hF9, hA9, hb9, hc9, hd9, hn9⟩ := c_L_reads (X := X) (m := m) (p := p) (K := K + 1 + 1 + 1 + 1) (sh := shU (shU (shU (shU sh (K + 1) 64) (K + 1 + 1) 18) (K + 1 + 1 + 1) 64) (K + 1 + 1 + 1 + 1) 18) (nn := e8) (d := d) (by omega) (by omega) (K + 1) (K + 1 + 1) s k cp ci N hC hsk ((Ro_new (Ro_new (Ro_new (Ro_made (by omega)))))) ((Ro_new (Ro_new (Ro_made (by omega))))) (by omega)
  have hKB9 : K9 ≤ K + 1 + 1 + 1 + 1 + 0 := hKB9
  refine rw_of (fun rr hrr => q_invS hV9 rfl rfl (okar_cons rfl (okar_cons rfl (okar_cons rfl (okar_cons rfl okar_nil)))) (Nat.le_of_ble_eq_true rfl) (q_aload_n rfl (q_iload_n rfl (q_aload rfl (q_aload rfl hrr))))) ?_
  obtain ⟨_, mm10, pp10, K10, sh10, e10, cc10, ss10, hV10, hK10, hKB10, hS10, rfl, hC10, hF10, hA10, hb10, hc10, hd10, hn10⟩ := c_L_reads (X := X) (m := mm9) (p := pp9) (K := K9) (sh := sh9) (nn := e9) (d := d) (by omega) (by omega) (K + 1 + 1 + 1) (K + 1 + 1 + 1 + 1) t k cp ci N hC9 htk ((Ro_call hK9 hS9 (Ro_new (Ro_made (by omega))))) ((Ro_call hK9 hS9 (Ro_made (by omega)))) (by omega)
  have hKB10 : K10 ≤ K9 + 0 := hKB10
  refine rw_of (fun rr hrr => q_invS hV10 rfl rfl (okar_cons rfl (okar_cons rfl (okar_cons rfl (okar_cons rfl okar_nil)))) (Nat.le_of_ble_eq_true rfl) (q_aload rfl (q_bipush rfl (q_lald (j := 17) (Ro_call hK10 hS10 (Ro_call hK9 hS9 (Ro_new (Ro_new (Ro_made (by omega)))))) rfl (by omega) ((congrFun (hF10 (K + 1 + 1) (by show ¬ (K9 < (K + 1 + 1) ∨ (K + 1 + 1) = K + 1 + 1 + 1 ∨ (K + 1 + 1) = K + 1 + 1 + 1 + 1); omega)) _).trans hn9) (q_istore (Nat.le_of_ble_eq_true rfl) rfl (q_aload rfl (q_bipush rfl (q_lald (j := 17) (Ro_call hK10 hS10 (Ro_call hK9 hS9 (Ro_made (by omega)))) rfl (by omega) hn10 (q_iload_n rfl hrr))))))))) ?_
  refine rw_if_eq ⟨by omega, by omega⟩ (t := 65) rfl (fun hc11 => ?_) (fun hc11 => ?_)
  · skip
    refine rw_blk lk_L_arePlaced_65 ?_
    refine rw_of (fun rr hrr => q_iload rfl hrr) ?_
    refine rw_blk lk_L_arePlaced_67 ?_
    refine rw_icmp_ne ⟨by omega, by omega⟩ ⟨by omega, by omega⟩ (t := 87) rfl (fun hc12 => ?_) (fun hc12 => ?_)
    · exfalso; omega
    · skip
      refine rw_of (fun rr hrr => q_aload rfl (q_bipush rfl (q_lald (j := 16) (Ro_call hK10 hS10 (Ro_call hK9 hS9 (Ro_made (by omega)))) rfl (by omega) hd10 (q_aload rfl (q_bipush rfl (q_lald (j := 16) (Ro_call hK10 hS10 (Ro_call hK9 hS9 (Ro_new (Ro_new (Ro_made (by omega)))))) rfl (by omega) ((congrFun (hF10 (K + 1 + 1) (by show ¬ (K9 < (K + 1 + 1) ∨ (K + 1 + 1) = K + 1 + 1 + 1 ∨ (K + 1 + 1) = K + 1 + 1 + 1 + 1); omega)) _).trans hd9) hrr)))))) ?_
      refine rw_icmp_ne (rg_vF _) (rg_vF _) (t := 87) rfl (fun hc13 => ?_) (fun hc13 => ?_)
      · refine absurd (congrArg vF ?_) hc13
        exact hdt
      · skip
        refine rw_of (fun rr hrr => q_iconst (q_goto (t := 88) rfl hrr)) ?_
        refine rw_blk lk_L_arePlaced_88 ?_
        refine rw_of (fun rr hrr => q_istore (Nat.le_of_ble_eq_true rfl) rfl (q_iconst (q_istore (Nat.le_of_ble_eq_true rfl) rfl hrr))) ?_
        have hL93 : ∀ i, i ≤ N s → ∀ (cc ss : Nat) (m93 : M1) (p93 : M2) (x93_11 : Option Value) (x93_12 : Option Value) (x93_13 : Option Value), (CS m0 k N cp ci m93 p93) → Rw (Ev d) k_L_arePlaced (93, [], [some (.ref (1)), some (.int (iI (((t : Nat) : Int)))), some (.int (iI (((s : Nat) : Int)))), some (.int (iI (0))), some (.ref (K + 1)), some (.ref (K + 1 + 1)), some (.ref (K + 1 + 1 + 1)), some (.ref (K + 1 + 1 + 1 + 1)), some (.int (iI (((N s : Nat) : Int)))), some (.int (iI (1))), some (.int (iI (((i : Nat) : Int)))), x93_11, x93_12, x93_13], [], hB X m93 p93 K10 sh10 e10, cc, ss) Qr := by
          refine loop_any (fun i hi93 ih93 => ?_)
          intro cc ss m93 p93 x93_11 x93_12 x93_13
          intro hI
          have hC93 := hI
          refine rw_blk lk_L_arePlaced_93 ?_
          refine rw_of (fun rr hrr => q_iload rfl (q_iload rfl hrr)) ?_
          refine rw_icmp_ge ⟨by omega, by omega⟩ ⟨by omega, by omega⟩ (t := 405) rfl (fun hc14 => ?_) (fun hc14 => ?_)
          · skip
            refine rw_blk lk_L_arePlaced_405 ?_
            refine rw_of (fun rr hrr => q_iload rfl hrr) ?_
            refine lw_end hQ (q_ireturn (by omega)) (by omega) (by omega) (FrS_tr (by omega) (FrS_tr (by omega) (FrS_tr (by omega) (FrS_tr (by omega) (FrS_tr (by omega) (FrS_tr (by omega) FrS_rfl FrS_new) FrS_new) FrS_new) FrS_new) hS9) hS10) ?_
            exact ⟨rfl, hC93, fun a9 h9 => ((hF10 a9 (by show ¬ (K9 < a9 ∨ a9 = K + 1 + 1 + 1 ∨ a9 = K + 1 + 1 + 1 + 1); omega)).trans ((hF9 a9 (by show ¬ (K + 1 + 1 + 1 + 1 < a9 ∨ a9 = K + 1 ∨ a9 = K + 1 + 1); omega)).trans ((kU hu7 (by omega)).trans ((kU hu5 (by omega)).trans ((kU hu3 (by omega)).trans (kU hu1 (by omega)))))))⟩
          · skip
            refine rw_of (fun rr hrr => q_iload rfl hrr) ?_
            refine rw_if_eq ⟨by omega, by omega⟩ (t := 405) rfl (fun hc15 => ?_) (fun hc15 => ?_)
            · exact absurd hc15 (by decide)
            · skip
              refine rw_of (fun rr hrr => q_aload rfl (q_iload rfl (q_lald (j := i) (Ro_call hK10 hS10 (Ro_call hK9 hS9 (Ro_made (by omega)))) rfl (by omega) (hb10 i (by omega)) (q_aload rfl (q_iload rfl (q_lald (j := i) (Ro_call hK10 hS10 (Ro_call hK9 hS9 (Ro_new (Ro_new (Ro_made (by omega)))))) rfl (by omega) ((congrFun (hF10 (K + 1 + 1) (by show ¬ (K9 < (K + 1 + 1) ∨ (K + 1 + 1) = K + 1 + 1 + 1 ∨ (K + 1 + 1) = K + 1 + 1 + 1 + 1); omega)) _).trans (hb9 i (by omega))) hrr)))))) ?_
              refine rw_icmp_ne (rg_vF _) (rg_vF _) (t := 175) rfl (fun hc16 => ?_) (fun hc16 => ?_)
              · refine absurd (congrArg vF ?_) hc16
                exact (hbt i (by omega))
              · skip
                refine rw_of (fun rr hrr => q_aload rfl (q_bipush rfl (q_iload rfl (q_iadd (q_lald (j := 8 + i) (Ro_call hK10 hS10 (Ro_call hK9 hS9 (Ro_made (by omega)))) (by omega) (by omega) (hc10 i (by omega)) (q_aload rfl (q_bipush rfl (q_iload rfl (q_iadd (q_lald (j := 8 + i) (Ro_call hK10 hS10 (Ro_call hK9 hS9 (Ro_new (Ro_new (Ro_made (by omega)))))) (by omega) (by omega) ((congrFun (hF10 (K + 1 + 1) (by show ¬ (K9 < (K + 1 + 1) ∨ (K + 1 + 1) = K + 1 + 1 + 1 ∨ (K + 1 + 1) = K + 1 + 1 + 1 + 1); omega)) _).trans (hc9 i (by omega))) hrr)))))))))) ?_
                refine rw_icmp_ne (rg_vF _) (rg_vF _) (t := 175) rfl (fun hc17 => ?_) (fun hc17 => ?_)
                · refine absurd (congrArg vF ?_) hc17
                  rw [hct i (by omega)]
                · skip
                  refine rw_of (fun rr hrr => q_iload_n rfl hrr) ?_
                  refine rw_if_eq ⟨by omega, by omega⟩ (t := 171) rfl (fun hc18 => ?_) (fun hc18 => ?_)
                  · skip
                    refine rw_blk lk_L_arePlaced_171 ?_
                    refine rw_of (fun rr hrr => q_iconst (q_goto (t := 176) rfl hrr)) ?_
                    refine rw_blk lk_L_arePlaced_176 ?_
                    refine rw_of (fun rr hrr => q_istore (Nat.le_of_ble_eq_true rfl) rfl (q_iconst (q_istore (Nat.le_of_ble_eq_true rfl) rfl hrr))) ?_
                    have hL181 : ∀ j, j ≤ N s → ∀ (cc ss : Nat) (m181 : M1) (p181 : M2) (x181_12 : Option Value) (x181_13 : Option Value), (CS m0 k N cp ci m181 p181) → Rw (Ev d) k_L_arePlaced (181, [], [some (.ref (1)), some (.int (iI (((t : Nat) : Int)))), some (.int (iI (((s : Nat) : Int)))), some (.int (iI (0))), some (.ref (K + 1)), some (.ref (K + 1 + 1)), some (.ref (K + 1 + 1 + 1)), some (.ref (K + 1 + 1 + 1 + 1)), some (.int (iI (((N s : Nat) : Int)))), some (.int (iI (1))), some (.int (iI (((i : Nat) : Int)))), some (.int (iI (((j : Nat) : Int)))), x181_12, x181_13], [], hB X m181 p181 K10 sh10 e10, cc, ss) Qr := by
                      refine loop_any (fun j hi181 ih181 => ?_)
                      intro cc ss m181 p181 x181_12 x181_13
                      intro hI
                      have hC181 := hI
                      refine rw_blk lk_L_arePlaced_181 ?_
                      refine rw_of (fun rr hrr => q_iload rfl (q_iload rfl hrr)) ?_
                      refine rw_icmp_ge ⟨by omega, by omega⟩ ⟨by omega, by omega⟩ (t := 399) rfl (fun hc19 => ?_) (fun hc19 => ?_)
                      · skip
                        refine rw_blk lk_L_arePlaced_399 ?_
                        refine rw_of (fun rr hrr => q_iinc rfl rfl (q_goto (t := 93) rfl hrr)) ?_
                        exact rw_cast (ih93 (by omega) _ _ m181 p181 (some (.int (iI (((j : Nat) : Int))))) x181_12 x181_13 hC181) (lcons rfl (lcons rfl (lcons rfl (lcons rfl (lcons rfl (lcons rfl (lcons rfl (lcons rfl (lcons rfl (lcons rfl (lcons (lvI (by omega)) (lcons rfl (lcons rfl (lcons rfl rfl)))))))))))))) rfl
                      · skip
                        refine rw_of (fun rr hrr => q_iload rfl hrr) ?_
                        refine rw_if_eq ⟨by omega, by omega⟩ (t := 399) rfl (fun hc20 => ?_) (fun hc20 => ?_)
                        · exact absurd hc20 (by decide)
                        · skip
                          refine rw_of (fun rr hrr => q_aload rfl (q_iload rfl (q_lald (j := i) (Ro_call hK10 hS10 (Ro_call hK9 hS9 (Ro_new (Ro_new (Ro_made (by omega)))))) rfl (by omega) ((congrFun (hF10 (K + 1 + 1) (by show ¬ (K9 < (K + 1 + 1) ∨ (K + 1 + 1) = K + 1 + 1 + 1 ∨ (K + 1 + 1) = K + 1 + 1 + 1 + 1); omega)) _).trans (hb9 i (by omega))) (q_aload_n rfl (q_iload_n rfl (q_iload rfl hrr)))))) ?_
                          obtain ⟨_, mm21, pp21, hV21, rfl, hC21⟩ := w_gain (S := (K10, gB X sh10 e10)) (d := d) (by omega) hC181 hsk (g := j) (by omega) hc hr hy
                          refine rw_of (fun rr hrr => q_invV hV21 (show SH 1 = (17, 0) from rfl) rfl rfl (okar_cons rfl (okar_cons rfl okar_nil)) (Nat.le_of_ble_eq_true rfl) (q_imul (q_sipush rfl (q_irem (rg_times _ _) ⟨by omega, by omega⟩ (by omega) (remF (Int.mul_nonneg (vF_ge _) (vF_ge _)) (show toF ((vF (Sb m0 s i) * vF (av (N s) (SA m0 s) (m0 4) y (N s) j))) = ((Sb m0 s i) * (av (N s) (SA m0 s) (m0 4) y (N s) j)) by simp only [toF_add, toF_mul, toF_sub, toF_neg, toF_vF, toF_nat, toF_0, toF_1, toF_M, F_add0, F_0sub])) (q_istore (Nat.le_of_ble_eq_true rfl) rfl (q_iload_n rfl hrr)))))) ?_
                          refine rw_if_eq ⟨by omega, by omega⟩ (t := 355) rfl (fun hc22 => ?_) (fun hc22 => ?_)
                          · skip
                            refine rw_blk lk_L_arePlaced_355 ?_
                            refine rw_of (fun rr hrr => q_aload rfl (q_bipush rfl (q_iload rfl (q_imul (q_iload rfl (q_iadd (q_lald (j := 8 * i + j) (Ro_call hK10 hS10 (Ro_call hK9 hS9 (Ro_new (Ro_made (by omega))))) (by omega) (by omega) (hA10 i (by omega) j (by omega)) (q_aload rfl (q_bipush rfl (q_iload rfl (q_imul (q_iload rfl (q_iadd (q_lald (j := 8 * i + j) (Ro_call hK10 hS10 (Ro_call hK9 hS9 (Ro_new (Ro_new (Ro_new (Ro_made (by omega))))))) (by omega) (by omega) ((congrFun (hF10 (K + 1) (by show ¬ (K9 < (K + 1) ∨ (K + 1) = K + 1 + 1 + 1 ∨ (K + 1) = K + 1 + 1 + 1 + 1); omega)) _).trans (hA9 i (by omega) j (by omega))) (q_iload rfl (q_isub hrr)))))))))))))))) ?_
                            obtain ⟨_, _, _, hV23, rfl, rfl, rfl⟩ := c_L_rest (S := (K10, gB X sh10 e10)) (fz := false) (m := mm21) (p := pp21) (d := d) (by omega) ((vF (SA m0 s i j) - vF (((Sb m0 s i) * (av (N s) (SA m0 s) (m0 4) y (N s) j))))) (((SA m0 s i j) - (((Sb m0 s i) * (av (N s) (SA m0 s) (m0 4) y (N s) j))))) ⟨by have := vF_ge (SA m0 s i j); have := vF_lt (SA m0 s i j); have := vF_ge (((Sb m0 s i) * (av (N s) (SA m0 s) (m0 4) y (N s) j))); have := vF_lt (((Sb m0 s i) * (av (N s) (SA m0 s) (m0 4) y (N s) j))); omega, by have := vF_ge (SA m0 s i j); have := vF_lt (SA m0 s i j); have := vF_ge (((Sb m0 s i) * (av (N s) (SA m0 s) (m0 4) y (N s) j))); have := vF_lt (((Sb m0 s i) * (av (N s) (SA m0 s) (m0 4) y (N s) j))); omega⟩ (by simp only [toF_add, toF_mul, toF_sub, toF_neg, toF_vF, toF_nat, toF_0, toF_1, toF_M, F_add0, F_0sub])
                            refine rw_of (fun rr hrr => q_invS hV23 rfl rfl (okar_cons rfl okar_nil) (Nat.le_of_ble_eq_true rfl) hrr) ?_
                            refine rw_icmp_ne (rg_vF _) (rg_vF _) (t := 390) rfl (fun hc24 => ?_) (fun hc24 => ?_)
                            · refine absurd (congrArg vF ?_) hc24
                              exact hAt i (by omega) j (by omega)
                            · skip
                              refine rw_of (fun rr hrr => q_iconst (q_goto (t := 391) rfl hrr)) ?_
                              refine rw_blk lk_L_arePlaced_391 ?_
                              refine rw_of (fun rr hrr => q_istore (Nat.le_of_ble_eq_true rfl) rfl hrr) ?_
                              refine rw_blk lk_L_arePlaced_393 ?_
                              refine rw_of (fun rr hrr => q_iinc rfl rfl (q_goto (t := 181) rfl hrr)) ?_
                              exact rw_cast (ih181 (by omega) _ _ mm21 pp21 (some (.int (iI (vF (((Sb m0 s i) * (av (N s) (SA m0 s) (m0 4) y (N s) j))))))) x181_13 hC21) (lcons rfl (lcons rfl (lcons rfl (lcons rfl (lcons rfl (lcons rfl (lcons rfl (lcons rfl (lcons rfl (lcons rfl (lcons rfl (lcons (lvI (by omega)) (lcons rfl (lcons rfl rfl)))))))))))))) rfl
                          · exact absurd hc22 (by decide)
                    exact rw_cast (hL181 0 (by omega) _ _ m93 p93 x93_12 x93_13 hC93) (lcons rfl (lcons rfl (lcons rfl (lcons rfl (lcons rfl (lcons rfl (lcons rfl (lcons rfl (lcons rfl (lcons rfl (lcons rfl (lcons (lvI (by omega)) (lcons rfl (lcons rfl rfl)))))))))))))) rfl
                  · exact absurd hc18 (by decide)
        exact rw_cast (hL93 0 (by omega) _ _ mm10 pp10 none none none hC10) (lcons rfl (lcons rfl (lcons rfl (lcons rfl (lcons rfl (lcons rfl (lcons rfl (lcons rfl (lcons rfl (lcons rfl (lcons (lvI (by omega)) (lcons rfl (lcons rfl (lcons rfl rfl)))))))))))))) rfl
  · exact absurd hc11 (by decide)
theorem c_L_arePlaced1 {d : Nat} {X : MC} {m0 m : M1} {p : M2} {K : Nat} {sh : Nat → Nat} {nn : N2} (hd : 10 ≤ d) (hK : 260 ≤ K) (t s : Nat) (y y2 : Nat → F) (k cp ci : Nat) (N : Nat → Nat) (hC : CS m0 k N cp ci m p) (htk : t < k) (hsk : s < k) (hc : N s ≤ cp) (hr : rk (N s) (kr (N s) (SA m0 s) (Sb m0 s)) = N s) (hy : Du (N s) (SA m0 s) (Sb m0 s) y) (hc2 : 2 * N s ≤ cp) (hr2 : rk (N s) (kr (N s) (trp (SA m0 s)) (Sc m0 s)) = N s) (hy2 : Du (N s) (trp (SA m0 s)) (Sc m0 s) y2) (hN4 : N s ≤ 4) (hNt : N t = 2 * N s) (hdt : Sd m0 t = Sd m0 s) (hbt : ∀ i, i < N s → Sb m0 t i = Sb m0 s i ∧ Sb m0 t (N s + i) = Sb m0 s i) (hct : ∀ i, i < N t → Sc m0 t i = if i < N s then Sc m0 s i else 0) (hAt : ∀ i, i < N t → ∀ j, j < N t → SA m0 t i j = obA (N s) (SA m0 s) (Sb m0 s) (Sc m0 s) (av (N s) (SA m0 s) (m0 4) y (N s)) (av (N s) (trp (SA m0 s)) (fun i => m0 4 (N s + i)) y2 (N s)) i j) : Lc d k_L_arePlaced X [.ref (1), .int (iI (((t : Nat) : Int))), .int (iI (((s : Nat) : Int))), .int (iI (1))] m p K sh nn (fun v m' p' K' sh' n' => v = some (.int (iI 1)) ∧ CS m0 k N cp ci m' p' ∧ FrN (fun a_ => K < a_) nn n') := by
  obtain ⟨d, rfl⟩ : ∃ e, d = e + 1 := ⟨d - 1, by omega⟩
  have hn1 := hC.N1 hsk
  have hn := hC.N8 hsk
  have ht1 := hC.N1 htk
  have ht := hC.N8 htk
  refine lc_go (lv := [some (.ref (1)), some (.int (iI (((t : Nat) : Int)))), some (.int (iI (((s : Nat) : Int)))), some (.int (iI (1))), none, none, none, none, none, none, none, none, none, none]) (B := 4) (Nat.le_of_ble_eq_true rfl) (okar_cons rfl (okar_cons rfl (okar_cons rfl (okar_cons rfl okar_nil)))) rfl rfl (fun Qr hQ => ?_)
  refine rw_blk lk_L_arePlaced_0 ?_
  refine rw_of (fun rr hrr => q_bipush rfl (q_lnew (l := 64) (by omega) rfl (by omega) hrr)) ?_
  generalize hu1 : nU nn (K + 1) = e2
  refine rw_of (fun rr hrr => q_astore (Nat.le_of_ble_eq_true rfl) rfl (q_bipush rfl (q_lnew (l := 18) (by omega) rfl (by omega) hrr))) ?_
  generalize hu3 : nU e2 (K + 1 + 1) = e4
  refine rw_of (fun rr hrr => q_astore (Nat.le_of_ble_eq_true rfl) rfl (q_bipush rfl (q_lnew (l := 64) (by omega) rfl (by omega) hrr))) ?_
  generalize hu5 : nU e4 (K + 1 + 1 + 1) = e6
  refine rw_of (fun rr hrr => q_astore (Nat.le_of_ble_eq_true rfl) rfl (q_bipush rfl (q_lnew (l := 18) (by omega) rfl (by omega) hrr))) ?_
  generalize hu7 : nU e6 (K + 1 + 1 + 1 + 1) = e8
  refine rw_of (fun rr hrr => q_astore (Nat.le_of_ble_eq_true rfl) rfl (q_aload_n rfl (q_iload_n rfl (q_aload rfl (q_aload rfl hrr))))) ?_
  obtain ⟨_, mm9, pp9, K9, sh9, e9, cc9, ss9, hV9, hK9, hKB9, hS9, rfl, hC9, hF9, hA9, hb9, hc9, hd9, hn9⟩ := c_L_reads (X := X) (m := m) (p := p) (K := K + 1 + 1 + 1 + 1) (sh := shU (shU (shU (shU sh (K + 1) 64) (K + 1 + 1) 18) (K + 1 + 1 + 1) 64) (K + 1 + 1 + 1 + 1) 18) (nn := e8) (d := d) (by omega) (by omega) (K + 1) (K + 1 + 1) s k cp ci N hC hsk ((Ro_new (Ro_new (Ro_new (Ro_made (by omega)))))) ((Ro_new (Ro_new (Ro_made (by omega))))) (by omega)
  have hKB9 : K9 ≤ K + 1 + 1 + 1 + 1 + 0 := hKB9
  refine rw_of (fun rr hrr => q_invS hV9 rfl rfl (okar_cons rfl (okar_cons rfl (okar_cons rfl (okar_cons rfl okar_nil)))) (Nat.le_of_ble_eq_true rfl) (q_aload_n rfl (q_iload_n rfl (q_aload rfl (q_aload rfl hrr))))) ?_
  obtain ⟨_, mm10, pp10, K10, sh10, e10, cc10, ss10, hV10, hK10, hKB10, hS10, rfl, hC10, hF10, hA10, hb10, hc10, hd10, hn10⟩ := c_L_reads (X := X) (m := mm9) (p := pp9) (K := K9) (sh := sh9) (nn := e9) (d := d) (by omega) (by omega) (K + 1 + 1 + 1) (K + 1 + 1 + 1 + 1) t k cp ci N hC9 htk ((Ro_call hK9 hS9 (Ro_new (Ro_made (by omega))))) ((Ro_call hK9 hS9 (Ro_made (by omega)))) (by omega)
  have hKB10 : K10 ≤ K9 + 0 := hKB10
  refine rw_of (fun rr hrr => q_invS hV10 rfl rfl (okar_cons rfl (okar_cons rfl (okar_cons rfl (okar_cons rfl okar_nil)))) (Nat.le_of_ble_eq_true rfl) (q_aload rfl (q_bipush rfl (q_lald (j := 17) (Ro_call hK10 hS10 (Ro_call hK9 hS9 (Ro_new (Ro_new (Ro_made (by omega)))))) rfl (by omega) ((congrFun (hF10 (K + 1 + 1) (by show ¬ (K9 < (K + 1 + 1) ∨ (K + 1 + 1) = K + 1 + 1 + 1 ∨ (K + 1 + 1) = K + 1 + 1 + 1 + 1); omega)) _).trans hn9) (q_istore (Nat.le_of_ble_eq_true rfl) rfl (q_aload rfl (q_bipush rfl (q_lald (j := 17) (Ro_call hK10 hS10 (Ro_call hK9 hS9 (Ro_made (by omega)))) rfl (by omega) hn10 (q_iload_n rfl hrr))))))))) ?_
  refine rw_if_eq ⟨by omega, by omega⟩ (t := 65) rfl (fun hc11 => ?_) (fun hc11 => ?_)
  · exact absurd hc11 (by decide)
  · skip
    refine rw_of (fun rr hrr => q_iconst (q_iload rfl (q_imul (q_goto (t := 67) rfl hrr)))) ?_
    refine rw_blk lk_L_arePlaced_67 ?_
    refine rw_icmp_ne ⟨by omega, by omega⟩ ⟨by omega, by omega⟩ (t := 87) rfl (fun hc12 => ?_) (fun hc12 => ?_)
    · exfalso; omega
    · skip
      refine rw_of (fun rr hrr => q_aload rfl (q_bipush rfl (q_lald (j := 16) (Ro_call hK10 hS10 (Ro_call hK9 hS9 (Ro_made (by omega)))) rfl (by omega) hd10 (q_aload rfl (q_bipush rfl (q_lald (j := 16) (Ro_call hK10 hS10 (Ro_call hK9 hS9 (Ro_new (Ro_new (Ro_made (by omega)))))) rfl (by omega) ((congrFun (hF10 (K + 1 + 1) (by show ¬ (K9 < (K + 1 + 1) ∨ (K + 1 + 1) = K + 1 + 1 + 1 ∨ (K + 1 + 1) = K + 1 + 1 + 1 + 1); omega)) _).trans hd9) hrr)))))) ?_
      refine rw_icmp_ne (rg_vF _) (rg_vF _) (t := 87) rfl (fun hc13 => ?_) (fun hc13 => ?_)
      · refine absurd (congrArg vF ?_) hc13
        exact hdt
      · skip
        refine rw_of (fun rr hrr => q_iconst (q_goto (t := 88) rfl hrr)) ?_
        refine rw_blk lk_L_arePlaced_88 ?_
        refine rw_of (fun rr hrr => q_istore (Nat.le_of_ble_eq_true rfl) rfl (q_iconst (q_istore (Nat.le_of_ble_eq_true rfl) rfl hrr))) ?_
        have hL93 : ∀ i, i ≤ N s → ∀ (cc ss : Nat) (m93 : M1) (p93 : M2) (x93_11 : Option Value) (x93_12 : Option Value) (x93_13 : Option Value), (CS m0 k N cp ci m93 p93) → Rw (Ev d) k_L_arePlaced (93, [], [some (.ref (1)), some (.int (iI (((t : Nat) : Int)))), some (.int (iI (((s : Nat) : Int)))), some (.int (iI (1))), some (.ref (K + 1)), some (.ref (K + 1 + 1)), some (.ref (K + 1 + 1 + 1)), some (.ref (K + 1 + 1 + 1 + 1)), some (.int (iI (((N s : Nat) : Int)))), some (.int (iI (1))), some (.int (iI (((i : Nat) : Int)))), x93_11, x93_12, x93_13], [], hB X m93 p93 K10 sh10 e10, cc, ss) Qr := by
          refine loop_any (fun i hi93 ih93 => ?_)
          intro cc ss m93 p93 x93_11 x93_12 x93_13
          intro hI
          have hC93 := hI
          refine rw_blk lk_L_arePlaced_93 ?_
          refine rw_of (fun rr hrr => q_iload rfl (q_iload rfl hrr)) ?_
          refine rw_icmp_ge ⟨by omega, by omega⟩ ⟨by omega, by omega⟩ (t := 405) rfl (fun hc14 => ?_) (fun hc14 => ?_)
          · skip
            refine rw_blk lk_L_arePlaced_405 ?_
            refine rw_of (fun rr hrr => q_iload rfl hrr) ?_
            refine lw_end hQ (q_ireturn (by omega)) (by omega) (by omega) (FrS_tr (by omega) (FrS_tr (by omega) (FrS_tr (by omega) (FrS_tr (by omega) (FrS_tr (by omega) (FrS_tr (by omega) FrS_rfl FrS_new) FrS_new) FrS_new) FrS_new) hS9) hS10) ?_
            exact ⟨rfl, hC93, fun a9 h9 => ((hF10 a9 (by show ¬ (K9 < a9 ∨ a9 = K + 1 + 1 + 1 ∨ a9 = K + 1 + 1 + 1 + 1); omega)).trans ((hF9 a9 (by show ¬ (K + 1 + 1 + 1 + 1 < a9 ∨ a9 = K + 1 ∨ a9 = K + 1 + 1); omega)).trans ((kU hu7 (by omega)).trans ((kU hu5 (by omega)).trans ((kU hu3 (by omega)).trans (kU hu1 (by omega)))))))⟩
          · skip
            refine rw_of (fun rr hrr => q_iload rfl hrr) ?_
            refine rw_if_eq ⟨by omega, by omega⟩ (t := 405) rfl (fun hc15 => ?_) (fun hc15 => ?_)
            · exact absurd hc15 (by decide)
            · skip
              refine rw_of (fun rr hrr => q_aload rfl (q_iload rfl (q_lald (j := i) (Ro_call hK10 hS10 (Ro_call hK9 hS9 (Ro_made (by omega)))) rfl (by omega) (hb10 i (by omega)) (q_aload rfl (q_iload rfl (q_lald (j := i) (Ro_call hK10 hS10 (Ro_call hK9 hS9 (Ro_new (Ro_new (Ro_made (by omega)))))) rfl (by omega) ((congrFun (hF10 (K + 1 + 1) (by show ¬ (K9 < (K + 1 + 1) ∨ (K + 1 + 1) = K + 1 + 1 + 1 ∨ (K + 1 + 1) = K + 1 + 1 + 1 + 1); omega)) _).trans (hb9 i (by omega))) hrr)))))) ?_
              refine rw_icmp_ne (rg_vF _) (rg_vF _) (t := 175) rfl (fun hc16 => ?_) (fun hc16 => ?_)
              · refine absurd (congrArg vF ?_) hc16
                exact (hbt i (by omega)).1
              · skip
                refine rw_of (fun rr hrr => q_aload rfl (q_bipush rfl (q_iload rfl (q_iadd (q_lald (j := 8 + i) (Ro_call hK10 hS10 (Ro_call hK9 hS9 (Ro_made (by omega)))) (by omega) (by omega) (hc10 i (by omega)) (q_aload rfl (q_bipush rfl (q_iload rfl (q_iadd (q_lald (j := 8 + i) (Ro_call hK10 hS10 (Ro_call hK9 hS9 (Ro_new (Ro_new (Ro_made (by omega)))))) (by omega) (by omega) ((congrFun (hF10 (K + 1 + 1) (by show ¬ (K9 < (K + 1 + 1) ∨ (K + 1 + 1) = K + 1 + 1 + 1 ∨ (K + 1 + 1) = K + 1 + 1 + 1 + 1); omega)) _).trans (hc9 i (by omega))) hrr)))))))))) ?_
                refine rw_icmp_ne (rg_vF _) (rg_vF _) (t := 175) rfl (fun hc17 => ?_) (fun hc17 => ?_)
                · refine absurd (congrArg vF ?_) hc17
                  rw [hct i (by omega)]
                  exact if_pos (by omega)
                · skip
                  refine rw_of (fun rr hrr => q_iload_n rfl hrr) ?_
                  refine rw_if_eq ⟨by omega, by omega⟩ (t := 171) rfl (fun hc18 => ?_) (fun hc18 => ?_)
                  · exact absurd hc18 (by decide)
                  · skip
                    refine rw_of (fun rr hrr => q_aload rfl (q_iload rfl (q_iload rfl (q_iadd (q_lald (j := N s + i) (Ro_call hK10 hS10 (Ro_call hK9 hS9 (Ro_made (by omega)))) (by omega) (by omega) (hb10 (N s + i) (by omega)) (q_aload rfl (q_iload rfl (q_lald (j := i) (Ro_call hK10 hS10 (Ro_call hK9 hS9 (Ro_new (Ro_new (Ro_made (by omega)))))) rfl (by omega) ((congrFun (hF10 (K + 1 + 1) (by show ¬ (K9 < (K + 1 + 1) ∨ (K + 1 + 1) = K + 1 + 1 + 1 ∨ (K + 1 + 1) = K + 1 + 1 + 1 + 1); omega)) _).trans (hb9 i (by omega))) hrr)))))))) ?_
                    refine rw_icmp_ne (rg_vF _) (rg_vF _) (t := 175) rfl (fun hc19 => ?_) (fun hc19 => ?_)
                    · refine absurd (congrArg vF ?_) hc19
                      exact (hbt i (by omega)).2
                    · skip
                      refine rw_of (fun rr hrr => q_aload rfl (q_bipush rfl (q_iload rfl (q_iadd (q_iload rfl (q_iadd (q_lald (j := 8 + (N s + i)) (Ro_call hK10 hS10 (Ro_call hK9 hS9 (Ro_made (by omega)))) (by omega) (by omega) (hc10 ((N s + i)) (by omega)) hrr))))))) ?_
                      refine rw_if_ne (rg_vF _) (t := 175) rfl (fun hc20 => ?_) (fun hc20 => ?_)
                      · refine absurd ((congrArg vF ?_).trans vF_0) hc20
                        rw [hct (N s + i) (by omega)]
                        exact if_neg (by omega)
                      · skip
                        refine rw_blk lk_L_arePlaced_171 ?_
                        refine rw_of (fun rr hrr => q_iconst (q_goto (t := 176) rfl hrr)) ?_
                        refine rw_blk lk_L_arePlaced_176 ?_
                        refine rw_of (fun rr hrr => q_istore (Nat.le_of_ble_eq_true rfl) rfl (q_iconst (q_istore (Nat.le_of_ble_eq_true rfl) rfl hrr))) ?_
                        have hL181 : ∀ j, j ≤ N s → ∀ (cc ss : Nat) (m181 : M1) (p181 : M2) (x181_12 : Option Value) (x181_13 : Option Value), (CS m0 k N cp ci m181 p181) → Rw (Ev d) k_L_arePlaced (181, [], [some (.ref (1)), some (.int (iI (((t : Nat) : Int)))), some (.int (iI (((s : Nat) : Int)))), some (.int (iI (1))), some (.ref (K + 1)), some (.ref (K + 1 + 1)), some (.ref (K + 1 + 1 + 1)), some (.ref (K + 1 + 1 + 1 + 1)), some (.int (iI (((N s : Nat) : Int)))), some (.int (iI (1))), some (.int (iI (((i : Nat) : Int)))), some (.int (iI (((j : Nat) : Int)))), x181_12, x181_13], [], hB X m181 p181 K10 sh10 e10, cc, ss) Qr := by
                          refine loop_any (fun j hi181 ih181 => ?_)
                          intro cc ss m181 p181 x181_12 x181_13
                          intro hI
                          have hC181 := hI
                          refine rw_blk lk_L_arePlaced_181 ?_
                          refine rw_of (fun rr hrr => q_iload rfl (q_iload rfl hrr)) ?_
                          refine rw_icmp_ge ⟨by omega, by omega⟩ ⟨by omega, by omega⟩ (t := 399) rfl (fun hc21 => ?_) (fun hc21 => ?_)
                          · skip
                            refine rw_blk lk_L_arePlaced_399 ?_
                            refine rw_of (fun rr hrr => q_iinc rfl rfl (q_goto (t := 93) rfl hrr)) ?_
                            exact rw_cast (ih93 (by omega) _ _ m181 p181 (some (.int (iI (((j : Nat) : Int))))) x181_12 x181_13 hC181) (lcons rfl (lcons rfl (lcons rfl (lcons rfl (lcons rfl (lcons rfl (lcons rfl (lcons rfl (lcons rfl (lcons rfl (lcons (lvI (by omega)) (lcons rfl (lcons rfl (lcons rfl rfl)))))))))))))) rfl
                          · skip
                            refine rw_of (fun rr hrr => q_iload rfl hrr) ?_
                            refine rw_if_eq ⟨by omega, by omega⟩ (t := 399) rfl (fun hc22 => ?_) (fun hc22 => ?_)
                            · exact absurd hc22 (by decide)
                            · skip
                              refine rw_of (fun rr hrr => q_aload rfl (q_iload rfl (q_lald (j := i) (Ro_call hK10 hS10 (Ro_call hK9 hS9 (Ro_new (Ro_new (Ro_made (by omega)))))) rfl (by omega) ((congrFun (hF10 (K + 1 + 1) (by show ¬ (K9 < (K + 1 + 1) ∨ (K + 1 + 1) = K + 1 + 1 + 1 ∨ (K + 1 + 1) = K + 1 + 1 + 1 + 1); omega)) _).trans (hb9 i (by omega))) (q_aload_n rfl (q_iload_n rfl (q_iload rfl hrr)))))) ?_
                              obtain ⟨_, mm23, pp23, hV23, rfl, hC23⟩ := w_gain (S := (K10, gB X sh10 e10)) (d := d) (by omega) hC181 hsk (g := j) (by omega) hc hr hy
                              refine rw_of (fun rr hrr => q_invV hV23 (show SH 1 = (17, 0) from rfl) rfl rfl (okar_cons rfl (okar_cons rfl okar_nil)) (Nat.le_of_ble_eq_true rfl) (q_imul (q_sipush rfl (q_irem (rg_times _ _) ⟨by omega, by omega⟩ (by omega) (remF (Int.mul_nonneg (vF_ge _) (vF_ge _)) (show toF ((vF (Sb m0 s i) * vF (av (N s) (SA m0 s) (m0 4) y (N s) j))) = ((Sb m0 s i) * (av (N s) (SA m0 s) (m0 4) y (N s) j)) by simp only [toF_add, toF_mul, toF_sub, toF_neg, toF_vF, toF_nat, toF_0, toF_1, toF_M, F_add0, F_0sub])) (q_istore (Nat.le_of_ble_eq_true rfl) rfl (q_iload_n rfl hrr)))))) ?_
                              refine rw_if_eq ⟨by omega, by omega⟩ (t := 355) rfl (fun hc24 => ?_) (fun hc24 => ?_)
                              · exact absurd hc24 (by decide)
                              · skip
                                refine rw_of (fun rr hrr => q_aload_n rfl (q_iload_n rfl (q_iload rfl hrr))) ?_
                                obtain ⟨_, mm25, pp25, hV25, rfl, hC25⟩ := w_obs (S := (K10, gB X sh10 e10)) (d := d) (by omega) hC23 hsk (g := i) (by omega) hc2 hr2 hy2
                                refine rw_of (fun rr hrr => q_invV hV25 (show SH 1 = (17, 0) from rfl) rfl rfl (okar_cons rfl (okar_cons rfl okar_nil)) (Nat.le_of_ble_eq_true rfl) (q_aload rfl (q_bipush rfl (q_iload rfl (q_iadd (q_lald (j := 8 + j) (Ro_call hK10 hS10 (Ro_call hK9 hS9 (Ro_new (Ro_new (Ro_made (by omega)))))) (by omega) (by omega) ((congrFun (hF10 (K + 1 + 1) (by show ¬ (K9 < (K + 1 + 1) ∨ (K + 1 + 1) = K + 1 + 1 + 1 ∨ (K + 1 + 1) = K + 1 + 1 + 1 + 1); omega)) _).trans (hc9 j (by omega))) (q_imul (q_sipush rfl (q_irem (rg_times _ _) ⟨by omega, by omega⟩ (by omega) (remF (Int.mul_nonneg (vF_ge _) (vF_ge _)) (show toF ((vF (av (N s) (trp (SA m0 s)) (fun i => m0 4 (N s + i)) y2 (N s) i) * vF (Sc m0 s j))) = ((av (N s) (trp (SA m0 s)) (fun i => m0 4 (N s + i)) y2 (N s) i) * (Sc m0 s j)) by simp only [toF_add, toF_mul, toF_sub, toF_neg, toF_vF, toF_nat, toF_0, toF_1, toF_M, F_add0, F_0sub])) (q_istore (Nat.le_of_ble_eq_true rfl) rfl (q_aload rfl (q_bipush rfl (q_iload rfl (q_imul (q_iload rfl (q_iadd (q_lald (j := 8 * i + j) (Ro_call hK10 hS10 (Ro_call hK9 hS9 (Ro_new (Ro_made (by omega))))) (by omega) (by omega) (hA10 i (by omega) j (by omega)) (q_aload rfl (q_bipush rfl (q_iload rfl (q_imul (q_iload rfl (q_iadd (q_lald (j := 8 * i + j) (Ro_call hK10 hS10 (Ro_call hK9 hS9 (Ro_new (Ro_new (Ro_new (Ro_made (by omega))))))) (by omega) (by omega) ((congrFun (hF10 (K + 1) (by show ¬ (K9 < (K + 1) ∨ (K + 1) = K + 1 + 1 + 1 ∨ (K + 1) = K + 1 + 1 + 1 + 1); omega)) _).trans (hA9 i (by omega) j (by omega))) hrr)))))))))))))))))))))))) ?_
                                refine rw_icmp_ne (rg_vF _) (rg_vF _) (t := 349) rfl (fun hc26 => ?_) (fun hc26 => ?_)
                                · refine absurd (congrArg vF ?_) hc26
                                  rw [hAt (i) (by omega) (j) (by omega)]
                                  unfold obA
                                  repeat first | rw [if_pos (by omega)] | rw [if_neg (by omega)]
                                  try simp only [Nat.add_sub_cancel_left]
                                  first | done | rfl | grind
                                · skip
                                  refine rw_of (fun rr hrr => q_aload rfl (q_bipush rfl (q_iload rfl (q_imul (q_iload rfl (q_iadd (q_iload rfl (q_iadd (q_lald (j := 8 * i + (N s + j)) (Ro_call hK10 hS10 (Ro_call hK9 hS9 (Ro_new (Ro_made (by omega))))) (by omega) (by omega) (hA10 i (by omega) ((N s + j)) (by omega)) (q_iload rfl (q_ineg hrr))))))))))) ?_
                                  obtain ⟨_, _, _, hV27, rfl, rfl, rfl⟩ := c_L_rest (S := (K10, gB X sh10 e10)) (fz := false) (m := mm25) (p := pp25) (d := d) (by omega) ((-vF (((Sb m0 s i) * (av (N s) (SA m0 s) (m0 4) y (N s) j))))) ((-(((Sb m0 s i) * (av (N s) (SA m0 s) (m0 4) y (N s) j))))) ⟨by have := vF_ge (((Sb m0 s i) * (av (N s) (SA m0 s) (m0 4) y (N s) j))); have := vF_lt (((Sb m0 s i) * (av (N s) (SA m0 s) (m0 4) y (N s) j))); omega, by have := vF_ge (((Sb m0 s i) * (av (N s) (SA m0 s) (m0 4) y (N s) j))); have := vF_lt (((Sb m0 s i) * (av (N s) (SA m0 s) (m0 4) y (N s) j))); omega⟩ (by simp only [toF_add, toF_mul, toF_sub, toF_neg, toF_vF, toF_nat, toF_0, toF_1, toF_M, F_add0, F_0sub])
                                  refine rw_of (fun rr hrr => q_invS hV27 rfl rfl (okar_cons rfl okar_nil) (Nat.le_of_ble_eq_true rfl) hrr) ?_
                                  refine rw_icmp_ne (rg_vF _) (rg_vF _) (t := 349) rfl (fun hc28 => ?_) (fun hc28 => ?_)
                                  · refine absurd (congrArg vF ?_) hc28
                                    rw [hAt (i) (by omega) (N s + j) (by omega)]
                                    unfold obA
                                    repeat first | rw [if_pos (by omega)] | rw [if_neg (by omega)]
                                    try simp only [Nat.add_sub_cancel_left]
                                    first | done | rfl | grind
                                  · skip
                                    refine rw_of (fun rr hrr => q_aload rfl (q_bipush rfl (q_iload rfl (q_iload rfl (q_iadd (q_imul (q_iload rfl (q_iadd (q_lald (j := 8 * (N s + i) + j) (Ro_call hK10 hS10 (Ro_call hK9 hS9 (Ro_new (Ro_made (by omega))))) (by omega) (by omega) (hA10 (N s + i) (by omega) j (by omega)) (q_iload rfl hrr)))))))))) ?_
                                    refine rw_icmp_ne (rg_vF _) (rg_vF _) (t := 349) rfl (fun hc29 => ?_) (fun hc29 => ?_)
                                    · refine absurd (congrArg vF ?_) hc29
                                      rw [hAt (N s + i) (by omega) (j) (by omega)]
                                      unfold obA
                                      repeat first | rw [if_pos (by omega)] | rw [if_neg (by omega)]
                                      try simp only [Nat.add_sub_cancel_left]
                                      first | done | rfl | grind
                                    · skip
                                      refine rw_of (fun rr hrr => q_aload rfl (q_bipush rfl (q_iload rfl (q_iload rfl (q_iadd (q_imul (q_iload rfl (q_iadd (q_iload rfl (q_iadd (q_lald (j := 8 * (N s + i) + (N s + j)) (Ro_call hK10 hS10 (Ro_call hK9 hS9 (Ro_new (Ro_made (by omega))))) (by omega) (by omega) (hA10 (N s + i) (by omega) ((N s + j)) (by omega)) (q_aload rfl (q_bipush rfl (q_iload rfl (q_imul (q_iload rfl (q_iadd (q_lald (j := 8 * i + j) (Ro_call hK10 hS10 (Ro_call hK9 hS9 (Ro_new (Ro_new (Ro_new (Ro_made (by omega))))))) (by omega) (by omega) ((congrFun (hF10 (K + 1) (by show ¬ (K9 < (K + 1) ∨ (K + 1) = K + 1 + 1 + 1 ∨ (K + 1) = K + 1 + 1 + 1 + 1); omega)) _).trans (hA9 i (by omega) j (by omega))) (q_iload rfl (q_isub (q_iload rfl (q_isub hrr)))))))))))))))))))))) ?_
                                      obtain ⟨_, _, _, hV30, rfl, rfl, rfl⟩ := c_L_rest (S := (K10, gB X sh10 e10)) (fz := false) (m := mm25) (p := pp25) (d := d) (by omega) (((vF (SA m0 s i j) - vF (((Sb m0 s i) * (av (N s) (SA m0 s) (m0 4) y (N s) j)))) - vF (((av (N s) (trp (SA m0 s)) (fun i => m0 4 (N s + i)) y2 (N s) i) * (Sc m0 s j))))) ((((SA m0 s i j) - (((Sb m0 s i) * (av (N s) (SA m0 s) (m0 4) y (N s) j)))) - (((av (N s) (trp (SA m0 s)) (fun i => m0 4 (N s + i)) y2 (N s) i) * (Sc m0 s j))))) ⟨by have := vF_ge (SA m0 s i j); have := vF_lt (SA m0 s i j); have := vF_ge (((Sb m0 s i) * (av (N s) (SA m0 s) (m0 4) y (N s) j))); have := vF_lt (((Sb m0 s i) * (av (N s) (SA m0 s) (m0 4) y (N s) j))); have := vF_ge (((av (N s) (trp (SA m0 s)) (fun i => m0 4 (N s + i)) y2 (N s) i) * (Sc m0 s j))); have := vF_lt (((av (N s) (trp (SA m0 s)) (fun i => m0 4 (N s + i)) y2 (N s) i) * (Sc m0 s j))); omega, by have := vF_ge (SA m0 s i j); have := vF_lt (SA m0 s i j); have := vF_ge (((Sb m0 s i) * (av (N s) (SA m0 s) (m0 4) y (N s) j))); have := vF_lt (((Sb m0 s i) * (av (N s) (SA m0 s) (m0 4) y (N s) j))); have := vF_ge (((av (N s) (trp (SA m0 s)) (fun i => m0 4 (N s + i)) y2 (N s) i) * (Sc m0 s j))); have := vF_lt (((av (N s) (trp (SA m0 s)) (fun i => m0 4 (N s + i)) y2 (N s) i) * (Sc m0 s j))); omega⟩ (by simp only [toF_add, toF_mul, toF_sub, toF_neg, toF_vF, toF_nat, toF_0, toF_1, toF_M, F_add0, F_0sub])
                                      refine rw_of (fun rr hrr => q_invS hV30 rfl rfl (okar_cons rfl okar_nil) (Nat.le_of_ble_eq_true rfl) hrr) ?_
                                      refine rw_icmp_ne (rg_vF _) (rg_vF _) (t := 349) rfl (fun hc31 => ?_) (fun hc31 => ?_)
                                      · refine absurd (congrArg vF ?_) hc31
                                        rw [hAt (N s + i) (by omega) (N s + j) (by omega)]
                                        unfold obA
                                        repeat first | rw [if_pos (by omega)] | rw [if_neg (by omega)]
                                        try simp only [Nat.add_sub_cancel_left]
                                        first | done | rfl | grind
                                      · skip
                                        refine rw_of (fun rr hrr => q_iconst (q_goto (t := 350) rfl hrr)) ?_
                                        refine rw_blk lk_L_arePlaced_350 ?_
                                        refine rw_of (fun rr hrr => q_istore (Nat.le_of_ble_eq_true rfl) rfl (q_goto (t := 393) rfl hrr)) ?_
                                        refine rw_blk lk_L_arePlaced_393 ?_
                                        refine rw_of (fun rr hrr => q_iinc rfl rfl (q_goto (t := 181) rfl hrr)) ?_
                                        exact rw_cast (ih181 (by omega) _ _ mm25 pp25 (some (.int (iI (vF (((Sb m0 s i) * (av (N s) (SA m0 s) (m0 4) y (N s) j))))))) (some (.int (iI (vF (((av (N s) (trp (SA m0 s)) (fun i => m0 4 (N s + i)) y2 (N s) i) * (Sc m0 s j))))))) hC25) (lcons rfl (lcons rfl (lcons rfl (lcons rfl (lcons rfl (lcons rfl (lcons rfl (lcons rfl (lcons rfl (lcons rfl (lcons rfl (lcons (lvI (by omega)) (lcons rfl (lcons rfl rfl)))))))))))))) rfl
                        exact rw_cast (hL181 0 (by omega) _ _ m93 p93 x93_12 x93_13 hC93) (lcons rfl (lcons rfl (lcons rfl (lcons rfl (lcons rfl (lcons rfl (lcons rfl (lcons rfl (lcons rfl (lcons rfl (lcons rfl (lcons (lvI (by omega)) (lcons rfl (lcons rfl rfl)))))))))))))) rfl
        exact rw_cast (hL93 0 (by omega) _ _ mm10 pp10 none none none hC10) (lcons rfl (lcons rfl (lcons rfl (lcons rfl (lcons rfl (lcons rfl (lcons rfl (lcons rfl (lcons rfl (lcons rfl (lcons (lvI (by omega)) (lcons rfl (lcons rfl (lcons rfl rfl)))))))))))))) rfl
