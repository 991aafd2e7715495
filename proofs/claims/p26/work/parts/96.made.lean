/-! What a new system has of those of which it was made. -/
theorem c_L_isSo {d : Nat} {X : MC} {m0 m : M1} {p : M2} {K : Nat} {sh : Nat → Nat} {nn : N2} (hd : 11 ≤ d) (hK : 260 ≤ K) (rp ur gg s one two : Nat) (PP : Nat → F) (k cp ci : Nat) (N : Nat → Nat) (hC : CS m0 k N cp ci m p) (hsk : s < k) (hur : Ro K sh ur 20) (hpr : Ro K sh rp 32) (hgr : Ro K sh gg 3) (hpp : ∀ i, i < 32 → nn rp i = vF (PP i)) (hpc : ∀ i, i < cp → PP i = m0 4 i) (hg1 : nn gg 1 = (cp : Int)) (hg2 : nn gg 2 = (ci : Int)) (huu : ∀ i, i < ci → nn ur i = vF (m0 6 i)) (h1 : one < 60000) (h2 : two < 60000) : Lc d k_L_isSo X [.ref 1, .ref rp, .ref ur, .ref gg, .int (iI ((s : Nat) : Int)), .int (iI ((one : Nat) : Int)), .int (iI ((two : Nat) : Int))] m p K sh nn (fun v m' p' K' sh' n' => v = some (.int (iI 1)) ∧ CS m0 k N cp ci m' p' ∧ FrN (fun a_ => K < a_) nn n') := by
  by_cases q : ∀ z, z < two % 8 → Cm m0 N s z (wq two) (wq one) ≠ 0
  · exact c_L_isSo1 hd hK rp ur gg s one two PP k cp ci N hC hsk hur hpr hgr hpp hpc hg1 hg2 huu h1 h2 q
  · have key : ∀ t, t ≤ two % 8 → (∀ z, z < t → Cm m0 N s z (wq two) (wq one) ≠ 0) ∨ ∃ l0, l0 < t ∧ (∀ z, z < l0 → Cm m0 N s z (wq two) (wq one) ≠ 0) ∧ Cm m0 N s l0 (wq two) (wq one) = 0 := by
      intro t
      induction t with
      | zero => exact fun _ => Or.inl (fun z hz => absurd hz (Nat.not_lt_zero z))
      | succ t ih =>
        intro ht
        rcases ih (by omega) with h | ⟨l0, h1, h2⟩
        · by_cases e : Cm m0 N s t (wq two) (wq one) = 0
          · exact Or.inr ⟨t, by omega, h, e⟩
          · refine Or.inl (fun z hz => ?_)
            by_cases e2 : z = t
            · rw [e2]
              exact e
            · exact h z (by omega)
        · exact Or.inr ⟨l0, by omega, h2⟩
    rcases key _ (Nat.le_refl _) with h | ⟨l0, e1, e2, e3⟩
    · exact absurd h q
    · exact c_L_isSo0 hd hK rp ur gg s one two l0 PP k cp ci N hC hsk hur hpr hgr hpp hpc hg1 hg2 huu h1 h2 e1 e2 e3
theorem c_L_isMade2 {d : Nat} {X : MC} {m0 m : M1} {p : M2} {K : Nat} {sh : Nat → Nat} {nn : N2} (hd : 10 ≤ d) (hK : 260 ≤ K) (t s o : Nat) (x : Int) (k cp ci : Nat) (N : Nat → Nat) (hC : CS m0 k N cp ci m p) (htk : t < k) (hsk : s < k) (hok : o < k) (hx : -10007 < x ∧ x < 10007) (hNt : N t = N s) (hdt : Sd m0 t = Sd m0 s * iv (1 + toF x * Sd m0 s)) (hbt : ∀ i, i < N s → Sb m0 t i = Sb m0 s i * iv (1 + toF x * Sd m0 s)) (hct : ∀ i, i < N s → Sc m0 t i = Sc m0 s i * iv (1 + toF x * Sd m0 s)) (hAt : ∀ i, i < N s → ∀ j, j < N s → SA m0 t i j = SA m0 s i j - Sb m0 s i * Sc m0 s j * toF x * iv (1 + toF x * Sd m0 s)) : Lc d k_L_isMade X [.ref (1), .int (iI (((t : Nat) : Int))), .int (iI (((s : Nat) : Int))), .int (iI (((o : Nat) : Int))), .int (iI (2)), .int (iI (x))] m p K sh nn (fun v m' p' K' sh' n' => v = some (.int (iI 1)) ∧ CS m0 k N cp ci m' p' ∧ FrN (fun a_ => K < a_) nn n') := by
  obtain ⟨d, rfl⟩ : ∃ e, d = e + 1 := ⟨d - 1, by omega⟩
  have hn1 := hC.N1 hsk
  have hn := hC.N8 hsk
  have ho1 := hC.N1 hok
  have ho := hC.N8 hok
  have ht1 := hC.N1 htk
  have ht := hC.N8 htk
  refine lc_go (lv := [some (.ref (1)), some (.int (iI (((t : Nat) : Int)))), some (.int (iI (((s : Nat) : Int)))), some (.int (iI (((o : Nat) : Int)))), some (.int (iI (2))), some (.int (iI (x))), none, none, none, none, none, none, none, none, none, none, none, none, none]) (B := 6) (Nat.le_of_ble_eq_true rfl) (okar_cons rfl (okar_cons rfl (okar_cons rfl (okar_cons rfl (okar_cons rfl (okar_cons rfl okar_nil)))))) rfl rfl (fun Qr hQ => ?_)
  refine rw_blk lk_L_isMade_0 ?_
  refine rw_of (fun rr hrr => q_bipush rfl (q_lnew (l := 64) (by omega) rfl (by omega) hrr)) ?_
  generalize hu1 : nU nn (K + 1) = e2
  refine rw_of (fun rr hrr => q_astore (Nat.le_of_ble_eq_true rfl) rfl (q_bipush rfl (q_lnew (l := 18) (by omega) rfl (by omega) hrr))) ?_
  generalize hu3 : nU e2 (K + 1 + 1) = e4
  refine rw_of (fun rr hrr => q_astore (Nat.le_of_ble_eq_true rfl) rfl (q_bipush rfl (q_lnew (l := 64) (by omega) rfl (by omega) hrr))) ?_
  generalize hu5 : nU e4 (K + 1 + 1 + 1) = e6
  refine rw_of (fun rr hrr => q_astore (Nat.le_of_ble_eq_true rfl) rfl (q_bipush rfl (q_lnew (l := 18) (by omega) rfl (by omega) hrr))) ?_
  generalize hu7 : nU e6 (K + 1 + 1 + 1 + 1) = e8
  refine rw_of (fun rr hrr => q_astore (Nat.le_of_ble_eq_true rfl) rfl (q_bipush rfl (q_lnew (l := 64) (by omega) rfl (by omega) hrr))) ?_
  generalize hu9 : nU e8 (K + 1 + 1 + 1 + 1 + 1) = e10
  refine rw_of (fun rr hrr => q_astore (Nat.le_of_ble_eq_true rfl) rfl (q_bipush rfl (q_lnew (l := 18) (by omega) rfl (by omega) hrr))) ?_
  generalize hu11 : nU e10 (K + 1 + 1 + 1 + 1 + 1 + 1) = e12
  refine rw_of (fun rr hrr => q_astore (Nat.le_of_ble_eq_true rfl) rfl (q_aload_n rfl (q_iload_n rfl (q_aload rfl (q_aload rfl hrr))))) ?_
  obtain ⟨_, mm13, pp13, K13, sh13, e13, cc13, ss13, hV13, hK13, hKB13, hS13, rfl, hC13, hF13, hA13, hb13, hc13, hd13, hn13⟩ := c_L_reads (X := X) (m := m) (p := p) (K := K + 1 + 1 + 1 + 1 + 1 + 1) (sh := shU (shU (shU (shU (shU (shU sh (K + 1) 64) (K + 1 + 1) 18) (K + 1 + 1 + 1) 64) (K + 1 + 1 + 1 + 1) 18) (K + 1 + 1 + 1 + 1 + 1) 64) (K + 1 + 1 + 1 + 1 + 1 + 1) 18) (nn := e12) (d := d) (by omega) (by omega) (K + 1) (K + 1 + 1) s k cp ci N hC hsk ((Ro_new (Ro_new (Ro_new (Ro_new (Ro_new (Ro_made (by omega)))))))) ((Ro_new (Ro_new (Ro_new (Ro_new (Ro_made (by omega))))))) (by omega)
  have hKB13 : K13 ≤ K + 1 + 1 + 1 + 1 + 1 + 1 + 0 := hKB13
  refine rw_of (fun rr hrr => q_invS hV13 rfl rfl (okar_cons rfl (okar_cons rfl (okar_cons rfl (okar_cons rfl okar_nil)))) (Nat.le_of_ble_eq_true rfl) (q_aload_n rfl (q_iload_n rfl (q_aload rfl (q_aload rfl hrr))))) ?_
  obtain ⟨_, mm14, pp14, K14, sh14, e14, cc14, ss14, hV14, hK14, hKB14, hS14, rfl, hC14, hF14, hA14, hb14, hc14, hd14, hn14⟩ := c_L_reads (X := X) (m := mm13) (p := pp13) (K := K13) (sh := sh13) (nn := e13) (d := d) (by omega) (by omega) (K + 1 + 1 + 1) (K + 1 + 1 + 1 + 1) o k cp ci N hC13 hok ((Ro_call hK13 hS13 (Ro_new (Ro_new (Ro_new (Ro_made (by omega))))))) ((Ro_call hK13 hS13 (Ro_new (Ro_new (Ro_made (by omega)))))) (by omega)
  have hKB14 : K14 ≤ K13 + 0 := hKB14
  refine rw_of (fun rr hrr => q_invS hV14 rfl rfl (okar_cons rfl (okar_cons rfl (okar_cons rfl (okar_cons rfl okar_nil)))) (Nat.le_of_ble_eq_true rfl) (q_aload_n rfl (q_iload_n rfl (q_aload rfl (q_aload rfl hrr))))) ?_
  obtain ⟨_, mm15, pp15, K15, sh15, e15, cc15, ss15, hV15, hK15, hKB15, hS15, rfl, hC15, hF15, hA15, hb15, hc15, hd15, hn15⟩ := c_L_reads (X := X) (m := mm14) (p := pp14) (K := K14) (sh := sh14) (nn := e14) (d := d) (by omega) (by omega) (K + 1 + 1 + 1 + 1 + 1) (K + 1 + 1 + 1 + 1 + 1 + 1) t k cp ci N hC14 htk ((Ro_call hK14 hS14 (Ro_call hK13 hS13 (Ro_new (Ro_made (by omega)))))) ((Ro_call hK14 hS14 (Ro_call hK13 hS13 (Ro_made (by omega))))) (by omega)
  have hKB15 : K15 ≤ K14 + 0 := hKB15
  refine rw_of (fun rr hrr => q_invS hV15 rfl rfl (okar_cons rfl (okar_cons rfl (okar_cons rfl (okar_cons rfl okar_nil)))) (Nat.le_of_ble_eq_true rfl) (q_aload rfl (q_bipush rfl (q_lald (j := 17) (Ro_call hK15 hS15 (Ro_call hK14 hS14 (Ro_call hK13 hS13 (Ro_new (Ro_new (Ro_new (Ro_new (Ro_made (by omega))))))))) rfl (by omega) (((congrFun (hF15 (K + 1 + 1) (by show ¬ (K14 < (K + 1 + 1) ∨ (K + 1 + 1) = K + 1 + 1 + 1 + 1 + 1 ∨ (K + 1 + 1) = K + 1 + 1 + 1 + 1 + 1 + 1); omega)) _).trans (congrFun (hF14 (K + 1 + 1) (by show ¬ (K13 < (K + 1 + 1) ∨ (K + 1 + 1) = K + 1 + 1 + 1 ∨ (K + 1 + 1) = K + 1 + 1 + 1 + 1); omega)) _)).trans hn13) (q_istore (Nat.le_of_ble_eq_true rfl) rfl (q_iload rfl (q_iconst hrr))))))) ?_
  refine rw_icmp_ne ⟨by omega, by omega⟩ ⟨by omega, by omega⟩ (t := 300) rfl (fun hc16 => ?_) (fun hc16 => ?_)
  · exact absurd hc16 (by decide)
  · skip
    refine rw_of (fun rr hrr => q_iconst (q_iload rfl hrr)) ?_
    obtain ⟨_, _, _, hV17, rfl, rfl, rfl⟩ := c_L_rest (S := (K15, gB X sh15 e15)) (fz := false) (m := mm15) (p := pp15) (d := d) (by omega) (x) ((toF x)) ⟨by omega, by omega⟩ (by simp only [toF_add, toF_mul, toF_sub, toF_neg, toF_vF, toF_nat, toF_0, toF_1, toF_M, F_add0, F_0sub])
    refine rw_of (fun rr hrr => q_invS hV17 rfl rfl (okar_cons rfl okar_nil) (Nat.le_of_ble_eq_true rfl) (q_aload rfl (q_bipush rfl (q_lald (j := 16) (Ro_call hK15 hS15 (Ro_call hK14 hS14 (Ro_call hK13 hS13 (Ro_new (Ro_new (Ro_new (Ro_new (Ro_made (by omega))))))))) rfl (by omega) (((congrFun (hF15 (K + 1 + 1) (by show ¬ (K14 < (K + 1 + 1) ∨ (K + 1 + 1) = K + 1 + 1 + 1 + 1 + 1 ∨ (K + 1 + 1) = K + 1 + 1 + 1 + 1 + 1 + 1); omega)) _).trans (congrFun (hF14 (K + 1 + 1) (by show ¬ (K13 < (K + 1 + 1) ∨ (K + 1 + 1) = K + 1 + 1 + 1 ∨ (K + 1 + 1) = K + 1 + 1 + 1 + 1); omega)) _)).trans hd13) (q_imul (q_iadd hrr)))))) ?_
    obtain ⟨_, _, _, hV18, rfl, rfl, rfl⟩ := c_L_inverse (S := (K15, gB X sh15 e15)) (fz := false) (m := mm15) (p := pp15) (d := d) (by omega) ((1 + (vF ((toF x)) * vF (Sd m0 s)))) ((1 + (((toF x)) * (Sd m0 s)))) ⟨by have := vF_ge ((toF x)); have := vF_lt ((toF x)); have := vF_ge (Sd m0 s); have := vF_lt (Sd m0 s); have := vF_mul_lt ((toF x)) (Sd m0 s); have := Int.mul_nonneg (vF_ge ((toF x))) (vF_ge (Sd m0 s)); omega, by have := vF_ge ((toF x)); have := vF_lt ((toF x)); have := vF_ge (Sd m0 s); have := vF_lt (Sd m0 s); have := vF_mul_lt ((toF x)) (Sd m0 s); have := Int.mul_nonneg (vF_ge ((toF x))) (vF_ge (Sd m0 s)); omega⟩ (by simp only [toF_add, toF_mul, toF_sub, toF_neg, toF_vF, toF_nat, toF_0, toF_1, toF_M, F_add0, F_0sub])
    refine rw_of (fun rr hrr => q_invS hV18 rfl rfl (okar_cons rfl okar_nil) (Nat.le_of_ble_eq_true rfl) (q_istore (Nat.le_of_ble_eq_true rfl) rfl (q_aload rfl (q_bipush rfl (q_lald (j := 17) (Ro_call hK15 hS15 (Ro_call hK14 hS14 (Ro_call hK13 hS13 (Ro_made (by omega))))) rfl (by omega) hn15 (q_iload rfl hrr)))))) ?_
    refine rw_icmp_ne ⟨by omega, by omega⟩ ⟨by omega, by omega⟩ (t := 128) rfl (fun hc19 => ?_) (fun hc19 => ?_)
    · exfalso; omega
    · skip
      refine rw_of (fun rr hrr => q_aload rfl (q_bipush rfl (q_lald (j := 16) (Ro_call hK15 hS15 (Ro_call hK14 hS14 (Ro_call hK13 hS13 (Ro_made (by omega))))) rfl (by omega) hd15 (q_aload rfl (q_bipush rfl (q_lald (j := 16) (Ro_call hK15 hS15 (Ro_call hK14 hS14 (Ro_call hK13 hS13 (Ro_new (Ro_new (Ro_new (Ro_new (Ro_made (by omega))))))))) rfl (by omega) (((congrFun (hF15 (K + 1 + 1) (by show ¬ (K14 < (K + 1 + 1) ∨ (K + 1 + 1) = K + 1 + 1 + 1 + 1 + 1 ∨ (K + 1 + 1) = K + 1 + 1 + 1 + 1 + 1 + 1); omega)) _).trans (congrFun (hF14 (K + 1 + 1) (by show ¬ (K13 < (K + 1 + 1) ∨ (K + 1 + 1) = K + 1 + 1 + 1 ∨ (K + 1 + 1) = K + 1 + 1 + 1 + 1); omega)) _)).trans hd13) (q_iload rfl (q_imul (q_sipush rfl (q_irem (rg_times _ _) ⟨by omega, by omega⟩ (by omega) (remF (Int.mul_nonneg (vF_ge _) (vF_ge _)) (show toF ((vF (Sd m0 s) * vF (iv ((1 + (((toF x)) * (Sd m0 s))))))) = ((Sd m0 s) * (iv ((1 + (((toF x)) * (Sd m0 s)))))) by simp only [toF_add, toF_mul, toF_sub, toF_neg, toF_vF, toF_nat, toF_0, toF_1, toF_M, F_add0, F_0sub])) hrr)))))))))) ?_
      refine rw_icmp_ne (rg_vF _) (rg_vF _) (t := 128) rfl (fun hc20 => ?_) (fun hc20 => ?_)
      · refine absurd (congrArg vF ?_) hc20
        rw [hdt]
      · skip
        refine rw_of (fun rr hrr => q_iconst (q_goto (t := 129) rfl hrr)) ?_
        refine rw_blk lk_L_isMade_129 ?_
        refine rw_of (fun rr hrr => q_istore (Nat.le_of_ble_eq_true rfl) rfl (q_iconst (q_istore (Nat.le_of_ble_eq_true rfl) rfl hrr))) ?_
        have hL134 : ∀ i, i ≤ N s → ∀ (cc ss : Nat) (x134_16 : Option Value), Rw (Ev d) k_L_isMade (134, [], [some (.ref (1)), some (.int (iI (((t : Nat) : Int)))), some (.int (iI (((s : Nat) : Int)))), some (.int (iI (((o : Nat) : Int)))), some (.int (iI (2))), some (.int (iI (x))), some (.ref (K + 1)), some (.ref (K + 1 + 1)), some (.ref (K + 1 + 1 + 1)), some (.ref (K + 1 + 1 + 1 + 1)), some (.ref (K + 1 + 1 + 1 + 1 + 1)), some (.ref (K + 1 + 1 + 1 + 1 + 1 + 1)), some (.int (iI (((N s : Nat) : Int)))), some (.int (iI (vF (iv ((1 + (((toF x)) * (Sd m0 s)))))))), some (.int (iI (1))), some (.int (iI (((i : Nat) : Int)))), x134_16, none, none], [], hB X mm15 pp15 K15 sh15 e15, cc, ss) Qr := by
          refine loop_any (fun i hi134 ih134 => ?_)
          intro cc ss x134_16
          refine rw_blk lk_L_isMade_134 ?_
          refine rw_of (fun rr hrr => q_iload rfl (q_iload rfl hrr)) ?_
          refine rw_icmp_ge ⟨by omega, by omega⟩ ⟨by omega, by omega⟩ (t := 297) rfl (fun hc21 => ?_) (fun hc21 => ?_)
          · skip
            refine rw_blk lk_L_isMade_297 ?_
            refine rw_of (fun rr hrr => q_iload rfl hrr) ?_
            refine lw_end hQ (q_ireturn (by omega)) (by omega) (by omega) (FrS_tr (by omega) (FrS_tr (by omega) (FrS_tr (by omega) (FrS_tr (by omega) (FrS_tr (by omega) (FrS_tr (by omega) (FrS_tr (by omega) (FrS_tr (by omega) (FrS_tr (by omega) FrS_rfl FrS_new) FrS_new) FrS_new) FrS_new) FrS_new) FrS_new) hS13) hS14) hS15) ?_
            exact ⟨rfl, hC15, fun a9 h9 => ((hF15 a9 (by show ¬ (K14 < a9 ∨ a9 = K + 1 + 1 + 1 + 1 + 1 ∨ a9 = K + 1 + 1 + 1 + 1 + 1 + 1); omega)).trans ((hF14 a9 (by show ¬ (K13 < a9 ∨ a9 = K + 1 + 1 + 1 ∨ a9 = K + 1 + 1 + 1 + 1); omega)).trans ((hF13 a9 (by show ¬ (K + 1 + 1 + 1 + 1 + 1 + 1 < a9 ∨ a9 = K + 1 ∨ a9 = K + 1 + 1); omega)).trans ((kU hu11 (by omega)).trans ((kU hu9 (by omega)).trans ((kU hu7 (by omega)).trans ((kU hu5 (by omega)).trans ((kU hu3 (by omega)).trans (kU hu1 (by omega))))))))))⟩
          · skip
            refine rw_of (fun rr hrr => q_iload rfl hrr) ?_
            refine rw_if_eq ⟨by omega, by omega⟩ (t := 196) rfl (fun hc22 => ?_) (fun hc22 => ?_)
            · exact absurd hc22 (by decide)
            · skip
              refine rw_of (fun rr hrr => q_aload rfl (q_iload rfl (q_lald (j := i) (Ro_call hK15 hS15 (Ro_call hK14 hS14 (Ro_call hK13 hS13 (Ro_made (by omega))))) rfl (by omega) (hb15 i (by omega)) (q_aload rfl (q_iload rfl (q_lald (j := i) (Ro_call hK15 hS15 (Ro_call hK14 hS14 (Ro_call hK13 hS13 (Ro_new (Ro_new (Ro_new (Ro_new (Ro_made (by omega))))))))) rfl (by omega) (((congrFun (hF15 (K + 1 + 1) (by show ¬ (K14 < (K + 1 + 1) ∨ (K + 1 + 1) = K + 1 + 1 + 1 + 1 + 1 ∨ (K + 1 + 1) = K + 1 + 1 + 1 + 1 + 1 + 1); omega)) _).trans (congrFun (hF14 (K + 1 + 1) (by show ¬ (K13 < (K + 1 + 1) ∨ (K + 1 + 1) = K + 1 + 1 + 1 ∨ (K + 1 + 1) = K + 1 + 1 + 1 + 1); omega)) _)).trans (hb13 i (by omega))) (q_iload rfl (q_imul (q_sipush rfl (q_irem (rg_times _ _) ⟨by omega, by omega⟩ (by omega) (remF (Int.mul_nonneg (vF_ge _) (vF_ge _)) (show toF ((vF (Sb m0 s i) * vF (iv ((1 + (((toF x)) * (Sd m0 s))))))) = ((Sb m0 s i) * (iv ((1 + (((toF x)) * (Sd m0 s)))))) by simp only [toF_add, toF_mul, toF_sub, toF_neg, toF_vF, toF_nat, toF_0, toF_1, toF_M, F_add0, F_0sub])) hrr)))))))))) ?_
              refine rw_icmp_ne (rg_vF _) (rg_vF _) (t := 196) rfl (fun hc23 => ?_) (fun hc23 => ?_)
              · refine absurd (congrArg vF ?_) hc23
                rw [hbt i (by omega)]
              · skip
                refine rw_of (fun rr hrr => q_aload rfl (q_bipush rfl (q_iload rfl (q_iadd (q_lald (j := 8 + i) (Ro_call hK15 hS15 (Ro_call hK14 hS14 (Ro_call hK13 hS13 (Ro_made (by omega))))) (by omega) (by omega) (hc15 i (by omega)) (q_aload rfl (q_bipush rfl (q_iload rfl (q_iadd (q_lald (j := 8 + i) (Ro_call hK15 hS15 (Ro_call hK14 hS14 (Ro_call hK13 hS13 (Ro_new (Ro_new (Ro_new (Ro_new (Ro_made (by omega))))))))) (by omega) (by omega) (((congrFun (hF15 (K + 1 + 1) (by show ¬ (K14 < (K + 1 + 1) ∨ (K + 1 + 1) = K + 1 + 1 + 1 + 1 + 1 ∨ (K + 1 + 1) = K + 1 + 1 + 1 + 1 + 1 + 1); omega)) _).trans (congrFun (hF14 (K + 1 + 1) (by show ¬ (K13 < (K + 1 + 1) ∨ (K + 1 + 1) = K + 1 + 1 + 1 ∨ (K + 1 + 1) = K + 1 + 1 + 1 + 1); omega)) _)).trans (hc13 i (by omega))) (q_iload rfl (q_imul (q_sipush rfl (q_irem (rg_times _ _) ⟨by omega, by omega⟩ (by omega) (remF (Int.mul_nonneg (vF_ge _) (vF_ge _)) (show toF ((vF (Sc m0 s i) * vF (iv ((1 + (((toF x)) * (Sd m0 s))))))) = ((Sc m0 s i) * (iv ((1 + (((toF x)) * (Sd m0 s)))))) by simp only [toF_add, toF_mul, toF_sub, toF_neg, toF_vF, toF_nat, toF_0, toF_1, toF_M, F_add0, F_0sub])) hrr)))))))))))))) ?_
                refine rw_icmp_ne (rg_vF _) (rg_vF _) (t := 196) rfl (fun hc24 => ?_) (fun hc24 => ?_)
                · refine absurd (congrArg vF ?_) hc24
                  rw [hct i (by omega)]
                · skip
                  refine rw_of (fun rr hrr => q_iconst (q_goto (t := 197) rfl hrr)) ?_
                  refine rw_blk lk_L_isMade_197 ?_
                  refine rw_of (fun rr hrr => q_istore (Nat.le_of_ble_eq_true rfl) rfl (q_iconst (q_istore (Nat.le_of_ble_eq_true rfl) rfl hrr))) ?_
                  have hL202 : ∀ j, j ≤ N s → ∀ (cc ss : Nat) , Rw (Ev d) k_L_isMade (202, [], [some (.ref (1)), some (.int (iI (((t : Nat) : Int)))), some (.int (iI (((s : Nat) : Int)))), some (.int (iI (((o : Nat) : Int)))), some (.int (iI (2))), some (.int (iI (x))), some (.ref (K + 1)), some (.ref (K + 1 + 1)), some (.ref (K + 1 + 1 + 1)), some (.ref (K + 1 + 1 + 1 + 1)), some (.ref (K + 1 + 1 + 1 + 1 + 1)), some (.ref (K + 1 + 1 + 1 + 1 + 1 + 1)), some (.int (iI (((N s : Nat) : Int)))), some (.int (iI (vF (iv ((1 + (((toF x)) * (Sd m0 s)))))))), some (.int (iI (1))), some (.int (iI (((i : Nat) : Int)))), some (.int (iI (((j : Nat) : Int)))), none, none], [], hB X mm15 pp15 K15 sh15 e15, cc, ss) Qr := by
                    refine loop_any (fun j hi202 ih202 => ?_)
                    intro cc ss
                    refine rw_blk lk_L_isMade_202 ?_
                    refine rw_of (fun rr hrr => q_iload rfl (q_iload rfl hrr)) ?_
                    refine rw_icmp_ge ⟨by omega, by omega⟩ ⟨by omega, by omega⟩ (t := 291) rfl (fun hc25 => ?_) (fun hc25 => ?_)
                    · skip
                      refine rw_blk lk_L_isMade_291 ?_
                      refine rw_of (fun rr hrr => q_iinc rfl rfl (q_goto (t := 134) rfl hrr)) ?_
                      exact rw_cast (ih134 (by omega) _ _ (some (.int (iI (((j : Nat) : Int)))))) (lcons rfl (lcons rfl (lcons rfl (lcons rfl (lcons rfl (lcons rfl (lcons rfl (lcons rfl (lcons rfl (lcons rfl (lcons rfl (lcons rfl (lcons rfl (lcons rfl (lcons rfl (lcons (lvI (by omega)) (lcons rfl (lcons rfl (lcons rfl rfl))))))))))))))))))) rfl
                    · skip
                      refine rw_of (fun rr hrr => q_iload rfl hrr) ?_
                      refine rw_if_eq ⟨by omega, by omega⟩ (t := 282) rfl (fun hc26 => ?_) (fun hc26 => ?_)
                      · exact absurd hc26 (by decide)
                      · skip
                        refine rw_of (fun rr hrr => q_aload rfl (q_bipush rfl (q_iload rfl (q_imul (q_iload rfl (q_iadd (q_lald (j := 8 * i + j) (Ro_call hK15 hS15 (Ro_call hK14 hS14 (Ro_call hK13 hS13 (Ro_new (Ro_made (by omega)))))) (by omega) (by omega) (hA15 i (by omega) j (by omega)) (q_aload rfl (q_bipush rfl (q_iload rfl (q_imul (q_iload rfl (q_iadd (q_lald (j := 8 * i + j) (Ro_call hK15 hS15 (Ro_call hK14 hS14 (Ro_call hK13 hS13 (Ro_new (Ro_new (Ro_new (Ro_new (Ro_new (Ro_made (by omega)))))))))) (by omega) (by omega) (((congrFun (hF15 (K + 1) (by show ¬ (K14 < (K + 1) ∨ (K + 1) = K + 1 + 1 + 1 + 1 + 1 ∨ (K + 1) = K + 1 + 1 + 1 + 1 + 1 + 1); omega)) _).trans (congrFun (hF14 (K + 1) (by show ¬ (K13 < (K + 1) ∨ (K + 1) = K + 1 + 1 + 1 ∨ (K + 1) = K + 1 + 1 + 1 + 1); omega)) _)).trans (hA13 i (by omega) j (by omega))) (q_aload rfl (q_iload rfl (q_lald (j := i) (Ro_call hK15 hS15 (Ro_call hK14 hS14 (Ro_call hK13 hS13 (Ro_new (Ro_new (Ro_new (Ro_new (Ro_made (by omega))))))))) rfl (by omega) (((congrFun (hF15 (K + 1 + 1) (by show ¬ (K14 < (K + 1 + 1) ∨ (K + 1 + 1) = K + 1 + 1 + 1 + 1 + 1 ∨ (K + 1 + 1) = K + 1 + 1 + 1 + 1 + 1 + 1); omega)) _).trans (congrFun (hF14 (K + 1 + 1) (by show ¬ (K13 < (K + 1 + 1) ∨ (K + 1 + 1) = K + 1 + 1 + 1 ∨ (K + 1 + 1) = K + 1 + 1 + 1 + 1); omega)) _)).trans (hb13 i (by omega))) (q_aload rfl (q_bipush rfl (q_iload rfl (q_iadd (q_lald (j := 8 + j) (Ro_call hK15 hS15 (Ro_call hK14 hS14 (Ro_call hK13 hS13 (Ro_new (Ro_new (Ro_new (Ro_new (Ro_made (by omega))))))))) (by omega) (by omega) (((congrFun (hF15 (K + 1 + 1) (by show ¬ (K14 < (K + 1 + 1) ∨ (K + 1 + 1) = K + 1 + 1 + 1 + 1 + 1 ∨ (K + 1 + 1) = K + 1 + 1 + 1 + 1 + 1 + 1); omega)) _).trans (congrFun (hF14 (K + 1 + 1) (by show ¬ (K13 < (K + 1 + 1) ∨ (K + 1 + 1) = K + 1 + 1 + 1 ∨ (K + 1 + 1) = K + 1 + 1 + 1 + 1); omega)) _)).trans (hc13 j (by omega))) (q_imul (q_sipush rfl (q_irem (rg_times _ _) ⟨by omega, by omega⟩ (by omega) (remF (Int.mul_nonneg (vF_ge _) (vF_ge _)) (show toF ((vF (Sb m0 s i) * vF (Sc m0 s j))) = ((Sb m0 s i) * (Sc m0 s j)) by simp only [toF_add, toF_mul, toF_sub, toF_neg, toF_vF, toF_nat, toF_0, toF_1, toF_M, F_add0, F_0sub])) (q_iload rfl hrr)))))))))))))))))))))))))) ?_
                        obtain ⟨_, _, _, hV27, rfl, rfl, rfl⟩ := c_L_rest (S := (K15, gB X sh15 e15)) (fz := false) (m := mm15) (p := pp15) (d := d) (by omega) (x) ((toF x)) ⟨by omega, by omega⟩ (by simp only [toF_add, toF_mul, toF_sub, toF_neg, toF_vF, toF_nat, toF_0, toF_1, toF_M, F_add0, F_0sub])
                        refine rw_of (fun rr hrr => q_invS hV27 rfl rfl (okar_cons rfl okar_nil) (Nat.le_of_ble_eq_true rfl) (q_imul (q_sipush rfl (q_irem (rg_times _ _) ⟨by omega, by omega⟩ (by omega) (remF (Int.mul_nonneg (vF_ge _) (vF_ge _)) (show toF ((vF (((Sb m0 s i) * (Sc m0 s j))) * vF ((toF x)))) = ((((Sb m0 s i) * (Sc m0 s j))) * ((toF x))) by simp only [toF_add, toF_mul, toF_sub, toF_neg, toF_vF, toF_nat, toF_0, toF_1, toF_M, F_add0, F_0sub])) (q_iload rfl (q_imul (q_sipush rfl (q_irem (rg_times _ _) ⟨by omega, by omega⟩ (by omega) (remF (Int.mul_nonneg (vF_ge _) (vF_ge _)) (show toF ((vF (((((Sb m0 s i) * (Sc m0 s j))) * ((toF x)))) * vF (iv ((1 + (((toF x)) * (Sd m0 s))))))) = ((((((Sb m0 s i) * (Sc m0 s j))) * ((toF x)))) * (iv ((1 + (((toF x)) * (Sd m0 s)))))) by simp only [toF_add, toF_mul, toF_sub, toF_neg, toF_vF, toF_nat, toF_0, toF_1, toF_M, F_add0, F_0sub])) (q_isub hrr))))))))) ?_
                        obtain ⟨_, _, _, hV28, rfl, rfl, rfl⟩ := c_L_rest (S := (K15, gB X sh15 e15)) (fz := false) (m := mm15) (p := pp15) (d := d) (by omega) ((vF (SA m0 s i j) - vF (((((((Sb m0 s i) * (Sc m0 s j))) * ((toF x)))) * (iv ((1 + (((toF x)) * (Sd m0 s))))))))) (((SA m0 s i j) - (((((((Sb m0 s i) * (Sc m0 s j))) * ((toF x)))) * (iv ((1 + (((toF x)) * (Sd m0 s))))))))) ⟨by have := vF_ge (SA m0 s i j); have := vF_lt (SA m0 s i j); have := vF_ge (((((((Sb m0 s i) * (Sc m0 s j))) * ((toF x)))) * (iv ((1 + (((toF x)) * (Sd m0 s))))))); have := vF_lt (((((((Sb m0 s i) * (Sc m0 s j))) * ((toF x)))) * (iv ((1 + (((toF x)) * (Sd m0 s))))))); omega, by have := vF_ge (SA m0 s i j); have := vF_lt (SA m0 s i j); have := vF_ge (((((((Sb m0 s i) * (Sc m0 s j))) * ((toF x)))) * (iv ((1 + (((toF x)) * (Sd m0 s))))))); have := vF_lt (((((((Sb m0 s i) * (Sc m0 s j))) * ((toF x)))) * (iv ((1 + (((toF x)) * (Sd m0 s))))))); omega⟩ (by simp only [toF_add, toF_mul, toF_sub, toF_neg, toF_vF, toF_nat, toF_0, toF_1, toF_M, F_add0, F_0sub])
                        refine rw_of (fun rr hrr => q_invS hV28 rfl rfl (okar_cons rfl okar_nil) (Nat.le_of_ble_eq_true rfl) hrr) ?_
                        refine rw_icmp_ne (rg_vF _) (rg_vF _) (t := 282) rfl (fun hc29 => ?_) (fun hc29 => ?_)
                        · refine absurd (congrArg vF ?_) hc29
                          rw [hAt i (by omega) j (by omega)]
                          try grind
                        · skip
                          refine rw_of (fun rr hrr => q_iconst (q_goto (t := 283) rfl hrr)) ?_
                          refine rw_blk lk_L_isMade_283 ?_
                          refine rw_of (fun rr hrr => q_istore (Nat.le_of_ble_eq_true rfl) rfl (q_iinc rfl rfl (q_goto (t := 202) rfl hrr))) ?_
                          exact rw_cast (ih202 (by omega) _ _) (lcons rfl (lcons rfl (lcons rfl (lcons rfl (lcons rfl (lcons rfl (lcons rfl (lcons rfl (lcons rfl (lcons rfl (lcons rfl (lcons rfl (lcons rfl (lcons rfl (lcons rfl (lcons rfl (lcons (lvI (by omega)) (lcons rfl (lcons rfl rfl))))))))))))))))))) rfl
                  exact rw_cast (hL202 0 (by omega) _ _) (lcons rfl (lcons rfl (lcons rfl (lcons rfl (lcons rfl (lcons rfl (lcons rfl (lcons rfl (lcons rfl (lcons rfl (lcons rfl (lcons rfl (lcons rfl (lcons rfl (lcons rfl (lcons rfl (lcons (lvI (by omega)) (lcons rfl (lcons rfl rfl))))))))))))))))))) rfl
        exact rw_cast (hL134 0 (by omega) _ _ none) (lcons rfl (lcons rfl (lcons rfl (lcons rfl (lcons rfl (lcons rfl (lcons rfl (lcons rfl (lcons rfl (lcons rfl (lcons rfl (lcons rfl (lcons rfl (lcons rfl (lcons rfl (lcons (lvI (by omega)) (lcons rfl (lcons rfl (lcons rfl rfl))))))))))))))))))) rfl
theorem c_L_isMade1 {d : Nat} {X : MC} {m0 m : M1} {p : M2} {K : Nat} {sh : Nat → Nat} {nn : N2} (hd : 10 ≤ d) (hK : 260 ≤ K) (t s o : Nat) (x : Int) (k cp ci : Nat) (N : Nat → Nat) (hC : CS m0 k N cp ci m p) (htk : t < k) (hsk : s < k) (hok : o < k) (hNt : N t = N s + N o) (hdt : Sd m0 t = Sd m0 o * Sd m0 s) (hbt : ∀ i, i < N t → Sb m0 t i = twob (N s) 1 (Sb m0 s) (Sd m0 s) (Sb m0 o) i) (hct : ∀ i, i < N t → Sc m0 t i = twob (N s) (Sd m0 o) (Sc m0 s) 1 (Sc m0 o) i) (hAt : ∀ i, i < N t → ∀ j, j < N t → SA m0 t i j = serA (N s) (SA m0 s) (Sb m0 o) (Sc m0 s) (SA m0 o) i j) : Lc d k_L_isMade X [.ref (1), .int (iI (((t : Nat) : Int))), .int (iI (((s : Nat) : Int))), .int (iI (((o : Nat) : Int))), .int (iI (1)), .int (iI (x))] m p K sh nn (fun v m' p' K' sh' n' => v = some (.int (iI 1)) ∧ CS m0 k N cp ci m' p' ∧ FrN (fun a_ => K < a_) nn n') := by
  obtain ⟨d, rfl⟩ : ∃ e, d = e + 1 := ⟨d - 1, by omega⟩
  have hn1 := hC.N1 hsk
  have hn := hC.N8 hsk
  have ho1 := hC.N1 hok
  have ho := hC.N8 hok
  have ht1 := hC.N1 htk
  have ht := hC.N8 htk
  refine lc_go (lv := [some (.ref (1)), some (.int (iI (((t : Nat) : Int)))), some (.int (iI (((s : Nat) : Int)))), some (.int (iI (((o : Nat) : Int)))), some (.int (iI (1))), some (.int (iI (x))), none, none, none, none, none, none, none, none, none, none, none, none, none]) (B := 6) (Nat.le_of_ble_eq_true rfl) (okar_cons rfl (okar_cons rfl (okar_cons rfl (okar_cons rfl (okar_cons rfl (okar_cons rfl okar_nil)))))) rfl rfl (fun Qr hQ => ?_)
  refine rw_blk lk_L_isMade_0 ?_
  refine rw_of (fun rr hrr => q_bipush rfl (q_lnew (l := 64) (by omega) rfl (by omega) hrr)) ?_
  generalize hu1 : nU nn (K + 1) = e2
  refine rw_of (fun rr hrr => q_astore (Nat.le_of_ble_eq_true rfl) rfl (q_bipush rfl (q_lnew (l := 18) (by omega) rfl (by omega) hrr))) ?_
  generalize hu3 : nU e2 (K + 1 + 1) = e4
  refine rw_of (fun rr hrr => q_astore (Nat.le_of_ble_eq_true rfl) rfl (q_bipush rfl (q_lnew (l := 64) (by omega) rfl (by omega) hrr))) ?_
  generalize hu5 : nU e4 (K + 1 + 1 + 1) = e6
  refine rw_of (fun rr hrr => q_astore (Nat.le_of_ble_eq_true rfl) rfl (q_bipush rfl (q_lnew (l := 18) (by omega) rfl (by omega) hrr))) ?_
  generalize hu7 : nU e6 (K + 1 + 1 + 1 + 1) = e8
  refine rw_of (fun rr hrr => q_astore (Nat.le_of_ble_eq_true rfl) rfl (q_bipush rfl (q_lnew (l := 64) (by omega) rfl (by omega) hrr))) ?_
  generalize hu9 : nU e8 (K + 1 + 1 + 1 + 1 + 1) = e10
  refine rw_of (fun rr hrr => q_astore (Nat.le_of_ble_eq_true rfl) rfl (q_bipush rfl (q_lnew (l := 18) (by omega) rfl (by omega) hrr))) ?_
  generalize hu11 : nU e10 (K + 1 + 1 + 1 + 1 + 1 + 1) = e12
  refine rw_of (fun rr hrr => q_astore (Nat.le_of_ble_eq_true rfl) rfl (q_aload_n rfl (q_iload_n rfl (q_aload rfl (q_aload rfl hrr))))) ?_
  obtain ⟨_, mm13, pp13, K13, sh13, e13, cc13, ss13, hV13, hK13, hKB13, hS13, rfl, hC13, hF13, hA13, hb13, hc13, hd13, hn13⟩ := c_L_reads (X := X) (m := m) (p := p) (K := K + 1 + 1 + 1 + 1 + 1 + 1) (sh := shU (shU (shU (shU (shU (shU sh (K + 1) 64) (K + 1 + 1) 18) (K + 1 + 1 + 1) 64) (K + 1 + 1 + 1 + 1) 18) (K + 1 + 1 + 1 + 1 + 1) 64) (K + 1 + 1 + 1 + 1 + 1 + 1) 18) (nn := e12) (d := d) (by omega) (by omega) (K + 1) (K + 1 + 1) s k cp ci N hC hsk ((Ro_new (Ro_new (Ro_new (Ro_new (Ro_new (Ro_made (by omega)))))))) ((Ro_new (Ro_new (Ro_new (Ro_new (Ro_made (by omega))))))) (by omega)
  have hKB13 : K13 ≤ K + 1 + 1 + 1 + 1 + 1 + 1 + 0 := hKB13
  refine rw_of (fun rr hrr => q_invS hV13 rfl rfl (okar_cons rfl (okar_cons rfl (okar_cons rfl (okar_cons rfl okar_nil)))) (Nat.le_of_ble_eq_true rfl) (q_aload_n rfl (q_iload_n rfl (q_aload rfl (q_aload rfl hrr))))) ?_
  obtain ⟨_, mm14, pp14, K14, sh14, e14, cc14, ss14, hV14, hK14, hKB14, hS14, rfl, hC14, hF14, hA14, hb14, hc14, hd14, hn14⟩ := c_L_reads (X := X) (m := mm13) (p := pp13) (K := K13) (sh := sh13) (nn := e13) (d := d) (by omega) (by omega) (K + 1 + 1 + 1) (K + 1 + 1 + 1 + 1) o k cp ci N hC13 hok ((Ro_call hK13 hS13 (Ro_new (Ro_new (Ro_new (Ro_made (by omega))))))) ((Ro_call hK13 hS13 (Ro_new (Ro_new (Ro_made (by omega)))))) (by omega)
  have hKB14 : K14 ≤ K13 + 0 := hKB14
  refine rw_of (fun rr hrr => q_invS hV14 rfl rfl (okar_cons rfl (okar_cons rfl (okar_cons rfl (okar_cons rfl okar_nil)))) (Nat.le_of_ble_eq_true rfl) (q_aload_n rfl (q_iload_n rfl (q_aload rfl (q_aload rfl hrr))))) ?_
  obtain ⟨_, mm15, pp15, K15, sh15, e15, cc15, ss15, hV15, hK15, hKB15, hS15, rfl, hC15, hF15, hA15, hb15, hc15, hd15, hn15⟩ := c_L_reads (X := X) (m := mm14) (p := pp14) (K := K14) (sh := sh14) (nn := e14) (d := d) (by omega) (by omega) (K + 1 + 1 + 1 + 1 + 1) (K + 1 + 1 + 1 + 1 + 1 + 1) t k cp ci N hC14 htk ((Ro_call hK14 hS14 (Ro_call hK13 hS13 (Ro_new (Ro_made (by omega)))))) ((Ro_call hK14 hS14 (Ro_call hK13 hS13 (Ro_made (by omega))))) (by omega)
  have hKB15 : K15 ≤ K14 + 0 := hKB15
  refine rw_of (fun rr hrr => q_invS hV15 rfl rfl (okar_cons rfl (okar_cons rfl (okar_cons rfl (okar_cons rfl okar_nil)))) (Nat.le_of_ble_eq_true rfl) (q_aload rfl (q_bipush rfl (q_lald (j := 17) (Ro_call hK15 hS15 (Ro_call hK14 hS14 (Ro_call hK13 hS13 (Ro_new (Ro_new (Ro_new (Ro_new (Ro_made (by omega))))))))) rfl (by omega) (((congrFun (hF15 (K + 1 + 1) (by show ¬ (K14 < (K + 1 + 1) ∨ (K + 1 + 1) = K + 1 + 1 + 1 + 1 + 1 ∨ (K + 1 + 1) = K + 1 + 1 + 1 + 1 + 1 + 1); omega)) _).trans (congrFun (hF14 (K + 1 + 1) (by show ¬ (K13 < (K + 1 + 1) ∨ (K + 1 + 1) = K + 1 + 1 + 1 ∨ (K + 1 + 1) = K + 1 + 1 + 1 + 1); omega)) _)).trans hn13) (q_istore (Nat.le_of_ble_eq_true rfl) rfl (q_iload rfl (q_iconst hrr))))))) ?_
  refine rw_icmp_ne ⟨by omega, by omega⟩ ⟨by omega, by omega⟩ (t := 300) rfl (fun hc16 => ?_) (fun hc16 => ?_)
  · skip
    refine rw_blk lk_L_isMade_300 ?_
    refine rw_of (fun rr hrr => q_iload rfl (q_iconst hrr)) ?_
    refine rw_icmp_ne ⟨by omega, by omega⟩ ⟨by omega, by omega⟩ (t := 310) rfl (fun hc17 => ?_) (fun hc17 => ?_)
    · exact absurd hc17 (by decide)
    · skip
      refine rw_of (fun rr hrr => q_iconst (q_goto (t := 311) rfl hrr)) ?_
      refine rw_blk lk_L_isMade_311 ?_
      refine rw_of (fun rr hrr => q_istore (Nat.le_of_ble_eq_true rfl) rfl (q_aload rfl (q_bipush rfl (q_lald (j := 17) (Ro_call hK15 hS15 (Ro_call hK14 hS14 (Ro_call hK13 hS13 (Ro_made (by omega))))) rfl (by omega) hn15 (q_iload rfl (q_aload rfl (q_bipush rfl (q_lald (j := 17) (Ro_call hK15 hS15 (Ro_call hK14 hS14 (Ro_call hK13 hS13 (Ro_new (Ro_new (Ro_made (by omega))))))) rfl (by omega) ((congrFun (hF15 (K + 1 + 1 + 1 + 1) (by show ¬ (K14 < (K + 1 + 1 + 1 + 1) ∨ (K + 1 + 1 + 1 + 1) = K + 1 + 1 + 1 + 1 + 1 ∨ (K + 1 + 1 + 1 + 1) = K + 1 + 1 + 1 + 1 + 1 + 1); omega)) _).trans hn14) (q_iadd hrr))))))))) ?_
      refine rw_icmp_ne ⟨by omega, by omega⟩ ⟨by omega, by omega⟩ (t := 379) rfl (fun hc18 => ?_) (fun hc18 => ?_)
      · exfalso; omega
      · skip
        refine rw_of (fun rr hrr => q_aload rfl (q_bipush rfl (q_lald (j := 16) (Ro_call hK15 hS15 (Ro_call hK14 hS14 (Ro_call hK13 hS13 (Ro_made (by omega))))) rfl (by omega) hd15 (q_iload rfl hrr)))) ?_
        refine rw_if_eq ⟨by omega, by omega⟩ (t := 357) rfl (fun hc19 => ?_) (fun hc19 => ?_)
        · exact absurd hc19 (by decide)
        · skip
          refine rw_of (fun rr hrr => q_aload rfl (q_bipush rfl (q_lald (j := 16) (Ro_call hK15 hS15 (Ro_call hK14 hS14 (Ro_call hK13 hS13 (Ro_new (Ro_new (Ro_new (Ro_new (Ro_made (by omega))))))))) rfl (by omega) (((congrFun (hF15 (K + 1 + 1) (by show ¬ (K14 < (K + 1 + 1) ∨ (K + 1 + 1) = K + 1 + 1 + 1 + 1 + 1 ∨ (K + 1 + 1) = K + 1 + 1 + 1 + 1 + 1 + 1); omega)) _).trans (congrFun (hF14 (K + 1 + 1) (by show ¬ (K13 < (K + 1 + 1) ∨ (K + 1 + 1) = K + 1 + 1 + 1 ∨ (K + 1 + 1) = K + 1 + 1 + 1 + 1); omega)) _)).trans hd13) (q_aload rfl (q_bipush rfl (q_lald (j := 16) (Ro_call hK15 hS15 (Ro_call hK14 hS14 (Ro_call hK13 hS13 (Ro_new (Ro_new (Ro_made (by omega))))))) rfl (by omega) ((congrFun (hF15 (K + 1 + 1 + 1 + 1) (by show ¬ (K14 < (K + 1 + 1 + 1 + 1) ∨ (K + 1 + 1 + 1 + 1) = K + 1 + 1 + 1 + 1 + 1 ∨ (K + 1 + 1 + 1 + 1) = K + 1 + 1 + 1 + 1 + 1 + 1); omega)) _).trans hd14) (q_imul (q_sipush rfl (q_irem (rg_times _ _) ⟨by omega, by omega⟩ (by omega) (remF (Int.mul_nonneg (vF_ge _) (vF_ge _)) (show toF ((vF (Sd m0 s) * vF (Sd m0 o))) = ((Sd m0 s) * (Sd m0 o)) by simp only [toF_add, toF_mul, toF_sub, toF_neg, toF_vF, toF_nat, toF_0, toF_1, toF_M, F_add0, F_0sub])) (q_goto (t := 372) rfl hrr)))))))))) ?_
          refine rw_blk lk_L_isMade_372 ?_
          refine rw_icmp_ne (rg_vF _) (rg_vF _) (t := 379) rfl (fun hc20 => ?_) (fun hc20 => ?_)
          · refine absurd (congrArg vF ?_) hc20
            rw [hdt]
            first | done | grind
          · skip
            refine rw_of (fun rr hrr => q_iconst (q_goto (t := 380) rfl hrr)) ?_
            refine rw_blk lk_L_isMade_380 ?_
            refine rw_of (fun rr hrr => q_istore (Nat.le_of_ble_eq_true rfl) rfl (q_iconst (q_istore (Nat.le_of_ble_eq_true rfl) rfl hrr))) ?_
            have hL385 : ∀ i, i ≤ N t → ∀ (cc ss : Nat) (x385_16 : Option Value) (x385_17 : Option Value) (x385_18 : Option Value), Rw (Ev d) k_L_isMade (385, [], [some (.ref (1)), some (.int (iI (((t : Nat) : Int)))), some (.int (iI (((s : Nat) : Int)))), some (.int (iI (((o : Nat) : Int)))), some (.int (iI (1))), some (.int (iI (x))), some (.ref (K + 1)), some (.ref (K + 1 + 1)), some (.ref (K + 1 + 1 + 1)), some (.ref (K + 1 + 1 + 1 + 1)), some (.ref (K + 1 + 1 + 1 + 1 + 1)), some (.ref (K + 1 + 1 + 1 + 1 + 1 + 1)), some (.int (iI (((N s : Nat) : Int)))), some (.int (iI (1))), some (.int (iI (1))), some (.int (iI (((i : Nat) : Int)))), x385_16, x385_17, x385_18], [], hB X mm15 pp15 K15 sh15 e15, cc, ss) Qr := by
              refine loop_any (fun i hi385 ih385 => ?_)
              intro cc ss x385_16 x385_17 x385_18
              refine rw_blk lk_L_isMade_385 ?_
              refine rw_of (fun rr hrr => q_iload rfl (q_aload rfl (q_bipush rfl (q_lald (j := 17) (Ro_call hK15 hS15 (Ro_call hK14 hS14 (Ro_call hK13 hS13 (Ro_made (by omega))))) rfl (by omega) hn15 hrr)))) ?_
              refine rw_icmp_ge ⟨by omega, by omega⟩ ⟨by omega, by omega⟩ (t := 668) rfl (fun hc21 => ?_) (fun hc21 => ?_)
              · skip
                refine rw_blk lk_L_isMade_668 ?_
                refine rw_of (fun rr hrr => q_iload rfl hrr) ?_
                refine lw_end hQ (q_ireturn (by omega)) (by omega) (by omega) (FrS_tr (by omega) (FrS_tr (by omega) (FrS_tr (by omega) (FrS_tr (by omega) (FrS_tr (by omega) (FrS_tr (by omega) (FrS_tr (by omega) (FrS_tr (by omega) (FrS_tr (by omega) FrS_rfl FrS_new) FrS_new) FrS_new) FrS_new) FrS_new) FrS_new) hS13) hS14) hS15) ?_
                exact ⟨rfl, hC15, fun a9 h9 => ((hF15 a9 (by show ¬ (K14 < a9 ∨ a9 = K + 1 + 1 + 1 + 1 + 1 ∨ a9 = K + 1 + 1 + 1 + 1 + 1 + 1); omega)).trans ((hF14 a9 (by show ¬ (K13 < a9 ∨ a9 = K + 1 + 1 + 1 ∨ a9 = K + 1 + 1 + 1 + 1); omega)).trans ((hF13 a9 (by show ¬ (K + 1 + 1 + 1 + 1 + 1 + 1 < a9 ∨ a9 = K + 1 ∨ a9 = K + 1 + 1); omega)).trans ((kU hu11 (by omega)).trans ((kU hu9 (by omega)).trans ((kU hu7 (by omega)).trans ((kU hu5 (by omega)).trans ((kU hu3 (by omega)).trans (kU hu1 (by omega))))))))))⟩
              · skip
                refine rw_of (fun rr hrr => q_iload rfl (q_iload rfl hrr)) ?_
                refine rw_icmp_ge ⟨by omega, by omega⟩ ⟨by omega, by omega⟩ (t := 406) rfl (fun hc22 => ?_) (fun hc22 => ?_)
                · skip
                  refine rw_blk lk_L_isMade_406 ?_
                  refine rw_of (fun rr hrr => q_iconst hrr) ?_
                  refine rw_blk lk_L_isMade_407 ?_
                  refine rw_of (fun rr hrr => q_istore (Nat.le_of_ble_eq_true rfl) rfl (q_iload rfl hrr)) ?_
                  refine rw_if_eq ⟨by omega, by omega⟩ (t := 523) rfl (fun hc23 => ?_) (fun hc23 => ?_)
                  · exact absurd hc23 (by decide)
                  · skip
                    refine rw_of (fun rr hrr => q_aload rfl (q_iload rfl (q_lald (j := i) (Ro_call hK15 hS15 (Ro_call hK14 hS14 (Ro_call hK13 hS13 (Ro_made (by omega))))) rfl (by omega) (hb15 i (by omega)) (q_iload rfl hrr)))) ?_
                    refine rw_if_eq ⟨by omega, by omega⟩ (t := 432) rfl (fun hc24 => ?_) (fun hc24 => ?_)
                    · skip
                      refine rw_blk lk_L_isMade_432 ?_
                      refine rw_of (fun rr hrr => q_aload rfl (q_iload rfl (q_iload rfl (q_isub (q_lald (j := i - (N s)) (Ro_call hK15 hS15 (Ro_call hK14 hS14 (Ro_call hK13 hS13 (Ro_new (Ro_new (Ro_made (by omega))))))) (by omega) (by omega) ((congrFun (hF15 (K + 1 + 1 + 1 + 1) (by show ¬ (K14 < (K + 1 + 1 + 1 + 1) ∨ (K + 1 + 1 + 1 + 1) = K + 1 + 1 + 1 + 1 + 1 ∨ (K + 1 + 1 + 1 + 1) = K + 1 + 1 + 1 + 1 + 1 + 1); omega)) _).trans (hb14 (i - (N s)) (by omega))) (q_iload rfl hrr)))))) ?_
                      refine rw_if_eq ⟨by omega, by omega⟩ (t := 453) rfl (fun hc25 => ?_) (fun hc25 => ?_)
                      · exact absurd hc25 (by decide)
                      · skip
                        refine rw_of (fun rr hrr => q_aload rfl (q_bipush rfl (q_lald (j := 16) (Ro_call hK15 hS15 (Ro_call hK14 hS14 (Ro_call hK13 hS13 (Ro_new (Ro_new (Ro_new (Ro_new (Ro_made (by omega))))))))) rfl (by omega) (((congrFun (hF15 (K + 1 + 1) (by show ¬ (K14 < (K + 1 + 1) ∨ (K + 1 + 1) = K + 1 + 1 + 1 + 1 + 1 ∨ (K + 1 + 1) = K + 1 + 1 + 1 + 1 + 1 + 1); omega)) _).trans (congrFun (hF14 (K + 1 + 1) (by show ¬ (K13 < (K + 1 + 1) ∨ (K + 1 + 1) = K + 1 + 1 + 1 ∨ (K + 1 + 1) = K + 1 + 1 + 1 + 1); omega)) _)).trans hd13) (q_goto (t := 454) rfl hrr)))) ?_
                        refine rw_blk lk_L_isMade_454 ?_
                        refine rw_of (fun rr hrr => q_imul (q_sipush rfl (q_irem (rg_times _ _) ⟨by omega, by omega⟩ (by omega) (remF (Int.mul_nonneg (vF_ge _) (vF_ge _)) (show toF ((vF (Sb m0 o (i - (N s))) * vF (Sd m0 s))) = ((Sb m0 o (i - (N s))) * (Sd m0 s)) by simp only [toF_add, toF_mul, toF_sub, toF_neg, toF_vF, toF_nat, toF_0, toF_1, toF_M, F_add0, F_0sub])) hrr))) ?_
                        refine rw_blk lk_L_isMade_459 ?_
                        refine rw_icmp_ne (rg_vF _) (rg_vF _) (t := 523) rfl (fun hc26 => ?_) (fun hc26 => ?_)
                        · refine absurd (congrArg vF ?_) hc26
                          rw [hbt i (by omega)]
                          unfold twob
                          repeat first | rw [if_pos (by omega)] | rw [if_neg (by omega)]
                          first | done | rfl | grind
                        · skip
                          refine rw_of (fun rr hrr => q_aload rfl (q_bipush rfl (q_iload rfl (q_iadd (q_lald (j := 8 + i) (Ro_call hK15 hS15 (Ro_call hK14 hS14 (Ro_call hK13 hS13 (Ro_made (by omega))))) (by omega) (by omega) (hc15 i (by omega)) (q_iload rfl hrr)))))) ?_
                          refine rw_if_eq ⟨by omega, by omega⟩ (t := 505) rfl (fun hc27 => ?_) (fun hc27 => ?_)
                          · skip
                            refine rw_blk lk_L_isMade_505 ?_
                            refine rw_of (fun rr hrr => q_aload rfl (q_bipush rfl (q_iload rfl (q_iadd (q_iload rfl (q_isub (q_lald (j := 8 + (i - N s)) (Ro_call hK15 hS15 (Ro_call hK14 hS14 (Ro_call hK13 hS13 (Ro_new (Ro_new (Ro_made (by omega))))))) (by omega) (by omega) ((congrFun (hF15 (K + 1 + 1 + 1 + 1) (by show ¬ (K14 < (K + 1 + 1 + 1 + 1) ∨ (K + 1 + 1 + 1 + 1) = K + 1 + 1 + 1 + 1 + 1 ∨ (K + 1 + 1 + 1 + 1) = K + 1 + 1 + 1 + 1 + 1 + 1); omega)) _).trans (hc14 ((i - N s)) (by omega))) hrr))))))) ?_
                            refine rw_blk lk_L_isMade_516 ?_
                            refine rw_icmp_ne (rg_vF _) (rg_vF _) (t := 523) rfl (fun hc28 => ?_) (fun hc28 => ?_)
                            · refine absurd (congrArg vF ?_) hc28
                              rw [hct i (by omega)]
                              unfold twob
                              repeat first | rw [if_pos (by omega)] | rw [if_neg (by omega)]
                              first | done | rfl | grind
                            · skip
                              refine rw_of (fun rr hrr => q_iconst (q_goto (t := 524) rfl hrr)) ?_
                              refine rw_blk lk_L_isMade_524 ?_
                              refine rw_of (fun rr hrr => q_istore (Nat.le_of_ble_eq_true rfl) rfl (q_iconst (q_istore (Nat.le_of_ble_eq_true rfl) rfl hrr))) ?_
                              have hL529 : ∀ j, j ≤ N t → ∀ (cc ss : Nat) (x529_18 : Option Value), Rw (Ev d) k_L_isMade (529, [], [some (.ref (1)), some (.int (iI (((t : Nat) : Int)))), some (.int (iI (((s : Nat) : Int)))), some (.int (iI (((o : Nat) : Int)))), some (.int (iI (1))), some (.int (iI (x))), some (.ref (K + 1)), some (.ref (K + 1 + 1)), some (.ref (K + 1 + 1 + 1)), some (.ref (K + 1 + 1 + 1 + 1)), some (.ref (K + 1 + 1 + 1 + 1 + 1)), some (.ref (K + 1 + 1 + 1 + 1 + 1 + 1)), some (.int (iI (((N s : Nat) : Int)))), some (.int (iI (1))), some (.int (iI (1))), some (.int (iI (((i : Nat) : Int)))), some (.int (iI (0))), some (.int (iI (((j : Nat) : Int)))), x529_18], [], hB X mm15 pp15 K15 sh15 e15, cc, ss) Qr := by
                                refine loop_any (fun j hi529 ih529 => ?_)
                                intro cc ss x529_18
                                refine rw_blk lk_L_isMade_529 ?_
                                refine rw_of (fun rr hrr => q_iload rfl (q_aload rfl (q_bipush rfl (q_lald (j := 17) (Ro_call hK15 hS15 (Ro_call hK14 hS14 (Ro_call hK13 hS13 (Ro_made (by omega))))) rfl (by omega) hn15 hrr)))) ?_
                                refine rw_icmp_ge ⟨by omega, by omega⟩ ⟨by omega, by omega⟩ (t := 662) rfl (fun hc29 => ?_) (fun hc29 => ?_)
                                · skip
                                  refine rw_blk lk_L_isMade_662 ?_
                                  refine rw_of (fun rr hrr => q_iinc rfl rfl (q_goto (t := 385) rfl hrr)) ?_
                                  exact rw_cast (ih385 (by omega) _ _ (some (.int (iI (0)))) (some (.int (iI (((j : Nat) : Int))))) x529_18) (lcons rfl (lcons rfl (lcons rfl (lcons rfl (lcons rfl (lcons rfl (lcons rfl (lcons rfl (lcons rfl (lcons rfl (lcons rfl (lcons rfl (lcons rfl (lcons rfl (lcons rfl (lcons (lvI (by omega)) (lcons rfl (lcons rfl (lcons rfl rfl))))))))))))))))))) rfl
                                · skip
                                  refine rw_of (fun rr hrr => q_iload rfl hrr) ?_
                                  refine rw_if_eq ⟨by omega, by omega⟩ (t := 569) rfl (fun hc30 => ?_) (fun hc30 => ?_)
                                  · skip
                                    refine rw_blk lk_L_isMade_569 ?_
                                    refine rw_of (fun rr hrr => q_iload rfl (q_iload rfl hrr)) ?_
                                    refine rw_icmp_lt ⟨by omega, by omega⟩ ⟨by omega, by omega⟩ (t := 596) rfl (fun hc31 => ?_) (fun hc31 => ?_)
                                    · skip
                                      refine rw_blk lk_L_isMade_596 ?_
                                      refine rw_of (fun rr hrr => q_iload rfl hrr) ?_
                                      refine rw_if_eq ⟨by omega, by omega⟩ (t := 625) rfl (fun hc32 => ?_) (fun hc32 => ?_)
                                      · exact absurd hc32 (by decide)
                                      · skip
                                        refine rw_of (fun rr hrr => q_aload rfl (q_iload rfl (q_iload rfl (q_isub (q_lald (j := i - (N s)) (Ro_call hK15 hS15 (Ro_call hK14 hS14 (Ro_call hK13 hS13 (Ro_new (Ro_new (Ro_made (by omega))))))) (by omega) (by omega) ((congrFun (hF15 (K + 1 + 1 + 1 + 1) (by show ¬ (K14 < (K + 1 + 1 + 1 + 1) ∨ (K + 1 + 1 + 1 + 1) = K + 1 + 1 + 1 + 1 + 1 ∨ (K + 1 + 1 + 1 + 1) = K + 1 + 1 + 1 + 1 + 1 + 1); omega)) _).trans (hb14 (i - (N s)) (by omega))) (q_aload rfl (q_bipush rfl (q_iload rfl (q_iadd (q_lald (j := 8 + j) (Ro_call hK15 hS15 (Ro_call hK14 hS14 (Ro_call hK13 hS13 (Ro_new (Ro_new (Ro_new (Ro_new (Ro_made (by omega))))))))) (by omega) (by omega) (((congrFun (hF15 (K + 1 + 1) (by show ¬ (K14 < (K + 1 + 1) ∨ (K + 1 + 1) = K + 1 + 1 + 1 + 1 + 1 ∨ (K + 1 + 1) = K + 1 + 1 + 1 + 1 + 1 + 1); omega)) _).trans (congrFun (hF14 (K + 1 + 1) (by show ¬ (K13 < (K + 1 + 1) ∨ (K + 1 + 1) = K + 1 + 1 + 1 ∨ (K + 1 + 1) = K + 1 + 1 + 1 + 1); omega)) _)).trans (hc13 j (by omega))) (q_imul (q_sipush rfl (q_irem (rg_times _ _) ⟨by omega, by omega⟩ (by omega) (remF (Int.mul_nonneg (vF_ge _) (vF_ge _)) (show toF ((vF (Sb m0 o (i - (N s))) * vF (Sc m0 s j))) = ((Sb m0 o (i - (N s))) * (Sc m0 s j)) by simp only [toF_add, toF_mul, toF_sub, toF_neg, toF_vF, toF_nat, toF_0, toF_1, toF_M, F_add0, F_0sub])) (q_goto (t := 626) rfl hrr)))))))))))))) ?_
                                        refine rw_blk lk_L_isMade_626 ?_
                                        refine rw_of (fun rr hrr => q_istore (Nat.le_of_ble_eq_true rfl) rfl (q_iload rfl hrr)) ?_
                                        refine rw_if_eq ⟨by omega, by omega⟩ (t := 653) rfl (fun hc33 => ?_) (fun hc33 => ?_)
                                        · exact absurd hc33 (by decide)
                                        · skip
                                          refine rw_of (fun rr hrr => q_aload rfl (q_bipush rfl (q_iload rfl (q_imul (q_iload rfl (q_iadd (q_lald (j := 8 * i + j) (Ro_call hK15 hS15 (Ro_call hK14 hS14 (Ro_call hK13 hS13 (Ro_new (Ro_made (by omega)))))) (by omega) (by omega) (hA15 i (by omega) j (by omega)) (q_iload rfl hrr)))))))) ?_
                                          refine rw_icmp_ne (rg_vF _) (rg_vF _) (t := 653) rfl (fun hc34 => ?_) (fun hc34 => ?_)
                                          · refine absurd (congrArg vF ?_) hc34
                                            rw [hAt i (by omega) j (by omega)]
                                            unfold serA
                                            repeat first | rw [if_pos (by omega)] | rw [if_neg (by omega)]
                                            first | done | rfl | grind
                                          · skip
                                            refine rw_of (fun rr hrr => q_iconst (q_goto (t := 654) rfl hrr)) ?_
                                            refine rw_blk lk_L_isMade_654 ?_
                                            refine rw_of (fun rr hrr => q_istore (Nat.le_of_ble_eq_true rfl) rfl (q_iinc rfl rfl (q_goto (t := 529) rfl hrr))) ?_
                                            exact rw_cast (ih529 (by omega) _ _ (some (.int (iI (vF (((Sb m0 o (i - (N s))) * (Sc m0 s j)))))))) (lcons rfl (lcons rfl (lcons rfl (lcons rfl (lcons rfl (lcons rfl (lcons rfl (lcons rfl (lcons rfl (lcons rfl (lcons rfl (lcons rfl (lcons rfl (lcons rfl (lcons rfl (lcons rfl (lcons rfl (lcons (lvI (by omega)) (lcons rfl rfl))))))))))))))))))) rfl
                                    · skip
                                      refine rw_of (fun rr hrr => q_aload rfl (q_bipush rfl (q_iload rfl (q_iload rfl (q_isub (q_imul (q_iload rfl (q_iadd (q_iload rfl (q_isub (q_lald (j := 8 * (i - N s) + (j - N s)) (Ro_call hK15 hS15 (Ro_call hK14 hS14 (Ro_call hK13 hS13 (Ro_new (Ro_new (Ro_new (Ro_made (by omega)))))))) (by omega) (by omega) ((congrFun (hF15 (K + 1 + 1 + 1) (by show ¬ (K14 < (K + 1 + 1 + 1) ∨ (K + 1 + 1 + 1) = K + 1 + 1 + 1 + 1 + 1 ∨ (K + 1 + 1 + 1) = K + 1 + 1 + 1 + 1 + 1 + 1); omega)) _).trans (hA14 (i - N s) (by omega) ((j - N s)) (by omega))) (q_goto (t := 626) rfl hrr)))))))))))) ?_
                                      refine rw_blk lk_L_isMade_626 ?_
                                      refine rw_of (fun rr hrr => q_istore (Nat.le_of_ble_eq_true rfl) rfl (q_iload rfl hrr)) ?_
                                      refine rw_if_eq ⟨by omega, by omega⟩ (t := 653) rfl (fun hc35 => ?_) (fun hc35 => ?_)
                                      · exact absurd hc35 (by decide)
                                      · skip
                                        refine rw_of (fun rr hrr => q_aload rfl (q_bipush rfl (q_iload rfl (q_imul (q_iload rfl (q_iadd (q_lald (j := 8 * i + j) (Ro_call hK15 hS15 (Ro_call hK14 hS14 (Ro_call hK13 hS13 (Ro_new (Ro_made (by omega)))))) (by omega) (by omega) (hA15 i (by omega) j (by omega)) (q_iload rfl hrr)))))))) ?_
                                        refine rw_icmp_ne (rg_vF _) (rg_vF _) (t := 653) rfl (fun hc36 => ?_) (fun hc36 => ?_)
                                        · refine absurd (congrArg vF ?_) hc36
                                          rw [hAt i (by omega) j (by omega)]
                                          unfold serA
                                          repeat first | rw [if_pos (by omega)] | rw [if_neg (by omega)]
                                          first | done | rfl | grind
                                        · skip
                                          refine rw_of (fun rr hrr => q_iconst (q_goto (t := 654) rfl hrr)) ?_
                                          refine rw_blk lk_L_isMade_654 ?_
                                          refine rw_of (fun rr hrr => q_istore (Nat.le_of_ble_eq_true rfl) rfl (q_iinc rfl rfl (q_goto (t := 529) rfl hrr))) ?_
                                          exact rw_cast (ih529 (by omega) _ _ (some (.int (iI (vF (SA m0 o (i - N s) ((j - N s)))))))) (lcons rfl (lcons rfl (lcons rfl (lcons rfl (lcons rfl (lcons rfl (lcons rfl (lcons rfl (lcons rfl (lcons rfl (lcons rfl (lcons rfl (lcons rfl (lcons rfl (lcons rfl (lcons rfl (lcons rfl (lcons (lvI (by omega)) (lcons rfl rfl))))))))))))))))))) rfl
                                  · exact absurd hc30 (by decide)
                              exact rw_cast (hL529 0 (by omega) _ _ x385_18) (lcons rfl (lcons rfl (lcons rfl (lcons rfl (lcons rfl (lcons rfl (lcons rfl (lcons rfl (lcons rfl (lcons rfl (lcons rfl (lcons rfl (lcons rfl (lcons rfl (lcons rfl (lcons rfl (lcons rfl (lcons (lvI (by omega)) (lcons rfl rfl))))))))))))))))))) rfl
                          · exact absurd hc27 (by decide)
                    · exact absurd hc24 (by decide)
                · skip
                  refine rw_of (fun rr hrr => q_iconst (q_goto (t := 407) rfl hrr)) ?_
                  refine rw_blk lk_L_isMade_407 ?_
                  refine rw_of (fun rr hrr => q_istore (Nat.le_of_ble_eq_true rfl) rfl (q_iload rfl hrr)) ?_
                  refine rw_if_eq ⟨by omega, by omega⟩ (t := 523) rfl (fun hc37 => ?_) (fun hc37 => ?_)
                  · exact absurd hc37 (by decide)
                  · skip
                    refine rw_of (fun rr hrr => q_aload rfl (q_iload rfl (q_lald (j := i) (Ro_call hK15 hS15 (Ro_call hK14 hS14 (Ro_call hK13 hS13 (Ro_made (by omega))))) rfl (by omega) (hb15 i (by omega)) (q_iload rfl hrr)))) ?_
                    refine rw_if_eq ⟨by omega, by omega⟩ (t := 432) rfl (fun hc38 => ?_) (fun hc38 => ?_)
                    · exact absurd hc38 (by decide)
                    · skip
                      refine rw_of (fun rr hrr => q_aload rfl (q_iload rfl (q_lald (j := i) (Ro_call hK15 hS15 (Ro_call hK14 hS14 (Ro_call hK13 hS13 (Ro_new (Ro_new (Ro_new (Ro_new (Ro_made (by omega))))))))) rfl (by omega) (((congrFun (hF15 (K + 1 + 1) (by show ¬ (K14 < (K + 1 + 1) ∨ (K + 1 + 1) = K + 1 + 1 + 1 + 1 + 1 ∨ (K + 1 + 1) = K + 1 + 1 + 1 + 1 + 1 + 1); omega)) _).trans (congrFun (hF14 (K + 1 + 1) (by show ¬ (K13 < (K + 1 + 1) ∨ (K + 1 + 1) = K + 1 + 1 + 1 ∨ (K + 1 + 1) = K + 1 + 1 + 1 + 1); omega)) _)).trans (hb13 i (by omega))) (q_goto (t := 459) rfl hrr)))) ?_
                      refine rw_blk lk_L_isMade_459 ?_
                      refine rw_icmp_ne (rg_vF _) (rg_vF _) (t := 523) rfl (fun hc39 => ?_) (fun hc39 => ?_)
                      · refine absurd (congrArg vF ?_) hc39
                        rw [hbt i (by omega)]
                        unfold twob
                        repeat first | rw [if_pos (by omega)] | rw [if_neg (by omega)]
                        first | done | rfl | grind
                      · skip
                        refine rw_of (fun rr hrr => q_aload rfl (q_bipush rfl (q_iload rfl (q_iadd (q_lald (j := 8 + i) (Ro_call hK15 hS15 (Ro_call hK14 hS14 (Ro_call hK13 hS13 (Ro_made (by omega))))) (by omega) (by omega) (hc15 i (by omega)) (q_iload rfl hrr)))))) ?_
                        refine rw_if_eq ⟨by omega, by omega⟩ (t := 505) rfl (fun hc40 => ?_) (fun hc40 => ?_)
                        · exact absurd hc40 (by decide)
                        · skip
                          refine rw_of (fun rr hrr => q_aload rfl (q_bipush rfl (q_iload rfl (q_iadd (q_lald (j := 8 + i) (Ro_call hK15 hS15 (Ro_call hK14 hS14 (Ro_call hK13 hS13 (Ro_new (Ro_new (Ro_new (Ro_new (Ro_made (by omega))))))))) (by omega) (by omega) (((congrFun (hF15 (K + 1 + 1) (by show ¬ (K14 < (K + 1 + 1) ∨ (K + 1 + 1) = K + 1 + 1 + 1 + 1 + 1 ∨ (K + 1 + 1) = K + 1 + 1 + 1 + 1 + 1 + 1); omega)) _).trans (congrFun (hF14 (K + 1 + 1) (by show ¬ (K13 < (K + 1 + 1) ∨ (K + 1 + 1) = K + 1 + 1 + 1 ∨ (K + 1 + 1) = K + 1 + 1 + 1 + 1); omega)) _)).trans (hc13 i (by omega))) (q_iload rfl hrr)))))) ?_
                          refine rw_if_eq ⟨by omega, by omega⟩ (t := 496) rfl (fun hc41 => ?_) (fun hc41 => ?_)
                          · exact absurd hc41 (by decide)
                          · skip
                            refine rw_of (fun rr hrr => q_aload rfl (q_bipush rfl (q_lald (j := 16) (Ro_call hK15 hS15 (Ro_call hK14 hS14 (Ro_call hK13 hS13 (Ro_new (Ro_new (Ro_made (by omega))))))) rfl (by omega) ((congrFun (hF15 (K + 1 + 1 + 1 + 1) (by show ¬ (K14 < (K + 1 + 1 + 1 + 1) ∨ (K + 1 + 1 + 1 + 1) = K + 1 + 1 + 1 + 1 + 1 ∨ (K + 1 + 1 + 1 + 1) = K + 1 + 1 + 1 + 1 + 1 + 1); omega)) _).trans hd14) (q_goto (t := 497) rfl hrr)))) ?_
                            refine rw_blk lk_L_isMade_497 ?_
                            refine rw_of (fun rr hrr => q_imul (q_sipush rfl (q_irem (rg_times _ _) ⟨by omega, by omega⟩ (by omega) (remF (Int.mul_nonneg (vF_ge _) (vF_ge _)) (show toF ((vF (Sc m0 s i) * vF (Sd m0 o))) = ((Sc m0 s i) * (Sd m0 o)) by simp only [toF_add, toF_mul, toF_sub, toF_neg, toF_vF, toF_nat, toF_0, toF_1, toF_M, F_add0, F_0sub])) (q_goto (t := 516) rfl hrr)))) ?_
                            refine rw_blk lk_L_isMade_516 ?_
                            refine rw_icmp_ne (rg_vF _) (rg_vF _) (t := 523) rfl (fun hc42 => ?_) (fun hc42 => ?_)
                            · refine absurd (congrArg vF ?_) hc42
                              rw [hct i (by omega)]
                              unfold twob
                              repeat first | rw [if_pos (by omega)] | rw [if_neg (by omega)]
                              first | done | rfl | grind
                            · skip
                              refine rw_of (fun rr hrr => q_iconst (q_goto (t := 524) rfl hrr)) ?_
                              refine rw_blk lk_L_isMade_524 ?_
                              refine rw_of (fun rr hrr => q_istore (Nat.le_of_ble_eq_true rfl) rfl (q_iconst (q_istore (Nat.le_of_ble_eq_true rfl) rfl hrr))) ?_
                              have hL529 : ∀ j, j ≤ N t → ∀ (cc ss : Nat) (x529_18 : Option Value), Rw (Ev d) k_L_isMade (529, [], [some (.ref (1)), some (.int (iI (((t : Nat) : Int)))), some (.int (iI (((s : Nat) : Int)))), some (.int (iI (((o : Nat) : Int)))), some (.int (iI (1))), some (.int (iI (x))), some (.ref (K + 1)), some (.ref (K + 1 + 1)), some (.ref (K + 1 + 1 + 1)), some (.ref (K + 1 + 1 + 1 + 1)), some (.ref (K + 1 + 1 + 1 + 1 + 1)), some (.ref (K + 1 + 1 + 1 + 1 + 1 + 1)), some (.int (iI (((N s : Nat) : Int)))), some (.int (iI (1))), some (.int (iI (1))), some (.int (iI (((i : Nat) : Int)))), some (.int (iI (1))), some (.int (iI (((j : Nat) : Int)))), x529_18], [], hB X mm15 pp15 K15 sh15 e15, cc, ss) Qr := by
                                refine loop_any (fun j hi529 ih529 => ?_)
                                intro cc ss x529_18
                                refine rw_blk lk_L_isMade_529 ?_
                                refine rw_of (fun rr hrr => q_iload rfl (q_aload rfl (q_bipush rfl (q_lald (j := 17) (Ro_call hK15 hS15 (Ro_call hK14 hS14 (Ro_call hK13 hS13 (Ro_made (by omega))))) rfl (by omega) hn15 hrr)))) ?_
                                refine rw_icmp_ge ⟨by omega, by omega⟩ ⟨by omega, by omega⟩ (t := 662) rfl (fun hc43 => ?_) (fun hc43 => ?_)
                                · skip
                                  refine rw_blk lk_L_isMade_662 ?_
                                  refine rw_of (fun rr hrr => q_iinc rfl rfl (q_goto (t := 385) rfl hrr)) ?_
                                  exact rw_cast (ih385 (by omega) _ _ (some (.int (iI (1)))) (some (.int (iI (((j : Nat) : Int))))) x529_18) (lcons rfl (lcons rfl (lcons rfl (lcons rfl (lcons rfl (lcons rfl (lcons rfl (lcons rfl (lcons rfl (lcons rfl (lcons rfl (lcons rfl (lcons rfl (lcons rfl (lcons rfl (lcons (lvI (by omega)) (lcons rfl (lcons rfl (lcons rfl rfl))))))))))))))))))) rfl
                                · skip
                                  refine rw_of (fun rr hrr => q_iload rfl hrr) ?_
                                  refine rw_if_eq ⟨by omega, by omega⟩ (t := 569) rfl (fun hc44 => ?_) (fun hc44 => ?_)
                                  · exact absurd hc44 (by decide)
                                  · skip
                                    refine rw_of (fun rr hrr => q_iload rfl (q_iload rfl hrr)) ?_
                                    refine rw_icmp_ge ⟨by omega, by omega⟩ ⟨by omega, by omega⟩ (t := 565) rfl (fun hc45 => ?_) (fun hc45 => ?_)
                                    · skip
                                      refine rw_blk lk_L_isMade_565 ?_
                                      refine rw_of (fun rr hrr => q_iconst (q_goto (t := 626) rfl hrr)) ?_
                                      refine rw_blk lk_L_isMade_626 ?_
                                      refine rw_of (fun rr hrr => q_istore (Nat.le_of_ble_eq_true rfl) rfl (q_iload rfl hrr)) ?_
                                      refine rw_if_eq ⟨by omega, by omega⟩ (t := 653) rfl (fun hc46 => ?_) (fun hc46 => ?_)
                                      · exact absurd hc46 (by decide)
                                      · skip
                                        refine rw_of (fun rr hrr => q_aload rfl (q_bipush rfl (q_iload rfl (q_imul (q_iload rfl (q_iadd (q_lald (j := 8 * i + j) (Ro_call hK15 hS15 (Ro_call hK14 hS14 (Ro_call hK13 hS13 (Ro_new (Ro_made (by omega)))))) (by omega) (by omega) (hA15 i (by omega) j (by omega)) (q_iload rfl hrr)))))))) ?_
                                        refine rw_icmp_ne (rg_vF _) ⟨by omega, by omega⟩ (t := 653) rfl (fun hc47 => ?_) (fun hc47 => ?_)
                                        · refine absurd ((congrArg vF ?_).trans vF_0) hc47
                                          rw [hAt i (by omega) j (by omega)]
                                          unfold serA
                                          repeat first | rw [if_pos (by omega)] | rw [if_neg (by omega)]
                                          first | done | rfl | grind
                                        · skip
                                          refine rw_of (fun rr hrr => q_iconst (q_goto (t := 654) rfl hrr)) ?_
                                          refine rw_blk lk_L_isMade_654 ?_
                                          refine rw_of (fun rr hrr => q_istore (Nat.le_of_ble_eq_true rfl) rfl (q_iinc rfl rfl (q_goto (t := 529) rfl hrr))) ?_
                                          exact rw_cast (ih529 (by omega) _ _ (some (.int (iI (0))))) (lcons rfl (lcons rfl (lcons rfl (lcons rfl (lcons rfl (lcons rfl (lcons rfl (lcons rfl (lcons rfl (lcons rfl (lcons rfl (lcons rfl (lcons rfl (lcons rfl (lcons rfl (lcons rfl (lcons rfl (lcons (lvI (by omega)) (lcons rfl rfl))))))))))))))))))) rfl
                                    · skip
                                      refine rw_of (fun rr hrr => q_aload rfl (q_bipush rfl (q_iload rfl (q_imul (q_iload rfl (q_iadd (q_lald (j := 8 * i + j) (Ro_call hK15 hS15 (Ro_call hK14 hS14 (Ro_call hK13 hS13 (Ro_new (Ro_new (Ro_new (Ro_new (Ro_new (Ro_made (by omega)))))))))) (by omega) (by omega) (((congrFun (hF15 (K + 1) (by show ¬ (K14 < (K + 1) ∨ (K + 1) = K + 1 + 1 + 1 + 1 + 1 ∨ (K + 1) = K + 1 + 1 + 1 + 1 + 1 + 1); omega)) _).trans (congrFun (hF14 (K + 1) (by show ¬ (K13 < (K + 1) ∨ (K + 1) = K + 1 + 1 + 1 ∨ (K + 1) = K + 1 + 1 + 1 + 1); omega)) _)).trans (hA13 i (by omega) j (by omega))) (q_goto (t := 626) rfl hrr)))))))) ?_
                                      refine rw_blk lk_L_isMade_626 ?_
                                      refine rw_of (fun rr hrr => q_istore (Nat.le_of_ble_eq_true rfl) rfl (q_iload rfl hrr)) ?_
                                      refine rw_if_eq ⟨by omega, by omega⟩ (t := 653) rfl (fun hc48 => ?_) (fun hc48 => ?_)
                                      · exact absurd hc48 (by decide)
                                      · skip
                                        refine rw_of (fun rr hrr => q_aload rfl (q_bipush rfl (q_iload rfl (q_imul (q_iload rfl (q_iadd (q_lald (j := 8 * i + j) (Ro_call hK15 hS15 (Ro_call hK14 hS14 (Ro_call hK13 hS13 (Ro_new (Ro_made (by omega)))))) (by omega) (by omega) (hA15 i (by omega) j (by omega)) (q_iload rfl hrr)))))))) ?_
                                        refine rw_icmp_ne (rg_vF _) (rg_vF _) (t := 653) rfl (fun hc49 => ?_) (fun hc49 => ?_)
                                        · refine absurd (congrArg vF ?_) hc49
                                          rw [hAt i (by omega) j (by omega)]
                                          unfold serA
                                          repeat first | rw [if_pos (by omega)] | rw [if_neg (by omega)]
                                          first | done | rfl | grind
                                        · skip
                                          refine rw_of (fun rr hrr => q_iconst (q_goto (t := 654) rfl hrr)) ?_
                                          refine rw_blk lk_L_isMade_654 ?_
                                          refine rw_of (fun rr hrr => q_istore (Nat.le_of_ble_eq_true rfl) rfl (q_iinc rfl rfl (q_goto (t := 529) rfl hrr))) ?_
                                          exact rw_cast (ih529 (by omega) _ _ (some (.int (iI (vF (SA m0 s i j)))))) (lcons rfl (lcons rfl (lcons rfl (lcons rfl (lcons rfl (lcons rfl (lcons rfl (lcons rfl (lcons rfl (lcons rfl (lcons rfl (lcons rfl (lcons rfl (lcons rfl (lcons rfl (lcons rfl (lcons rfl (lcons (lvI (by omega)) (lcons rfl rfl))))))))))))))))))) rfl
                              exact rw_cast (hL529 0 (by omega) _ _ x385_18) (lcons rfl (lcons rfl (lcons rfl (lcons rfl (lcons rfl (lcons rfl (lcons rfl (lcons rfl (lcons rfl (lcons rfl (lcons rfl (lcons rfl (lcons rfl (lcons rfl (lcons rfl (lcons rfl (lcons rfl (lcons (lvI (by omega)) (lcons rfl rfl))))))))))))))))))) rfl
            exact rw_cast (hL385 0 (by omega) _ _ none none none) (lcons rfl (lcons rfl (lcons rfl (lcons rfl (lcons rfl (lcons rfl (lcons rfl (lcons rfl (lcons rfl (lcons rfl (lcons rfl (lcons rfl (lcons rfl (lcons rfl (lcons rfl (lcons (lvI (by omega)) (lcons rfl (lcons rfl (lcons rfl rfl))))))))))))))))))) rfl
  · exact absurd hc16 (by decide)
theorem c_L_isMade0 {d : Nat} {X : MC} {m0 m : M1} {p : M2} {K : Nat} {sh : Nat → Nat} {nn : N2} (hd : 10 ≤ d) (hK : 260 ≤ K) (t s o : Nat) (x : Int) (k cp ci : Nat) (N : Nat → Nat) (hC : CS m0 k N cp ci m p) (htk : t < k) (hsk : s < k) (hok : o < k) (hNt : N t = N s + N o) (hdt : Sd m0 t = Sd m0 s + Sd m0 o) (hbt : ∀ i, i < N t → Sb m0 t i = twob (N s) 1 (Sb m0 s) 1 (Sb m0 o) i) (hct : ∀ i, i < N t → Sc m0 t i = twob (N s) 1 (Sc m0 s) 1 (Sc m0 o) i) (hAt : ∀ i, i < N t → ∀ j, j < N t → SA m0 t i j = sidA (N s) (SA m0 s) (SA m0 o) i j) : Lc d k_L_isMade X [.ref (1), .int (iI (((t : Nat) : Int))), .int (iI (((s : Nat) : Int))), .int (iI (((o : Nat) : Int))), .int (iI (0)), .int (iI (x))] m p K sh nn (fun v m' p' K' sh' n' => v = some (.int (iI 1)) ∧ CS m0 k N cp ci m' p' ∧ FrN (fun a_ => K < a_) nn n') := by
  obtain ⟨d, rfl⟩ : ∃ e, d = e + 1 := ⟨d - 1, by omega⟩
  have hn1 := hC.N1 hsk
  have hn := hC.N8 hsk
  have ho1 := hC.N1 hok
  have ho := hC.N8 hok
  have ht1 := hC.N1 htk
  have ht := hC.N8 htk
  refine lc_go (lv := [some (.ref (1)), some (.int (iI (((t : Nat) : Int)))), some (.int (iI (((s : Nat) : Int)))), some (.int (iI (((o : Nat) : Int)))), some (.int (iI (0))), some (.int (iI (x))), none, none, none, none, none, none, none, none, none, none, none, none, none]) (B := 6) (Nat.le_of_ble_eq_true rfl) (okar_cons rfl (okar_cons rfl (okar_cons rfl (okar_cons rfl (okar_cons rfl (okar_cons rfl okar_nil)))))) rfl rfl (fun Qr hQ => ?_)
  refine rw_blk lk_L_isMade_0 ?_
  refine rw_of (fun rr hrr => q_bipush rfl (q_lnew (l := 64) (by omega) rfl (by omega) hrr)) ?_
  generalize hu1 : nU nn (K + 1) = e2
  refine rw_of (fun rr hrr => q_astore (Nat.le_of_ble_eq_true rfl) rfl (q_bipush rfl (q_lnew (l := 18) (by omega) rfl (by omega) hrr))) ?_
  generalize hu3 : nU e2 (K + 1 + 1) = e4
  refine rw_of (fun rr hrr => q_astore (Nat.le_of_ble_eq_true rfl) rfl (q_bipush rfl (q_lnew (l := 64) (by omega) rfl (by omega) hrr))) ?_
  generalize hu5 : nU e4 (K + 1 + 1 + 1) = e6
  refine rw_of (fun rr hrr => q_astore (Nat.le_of_ble_eq_true rfl) rfl (q_bipush rfl (q_lnew (l := 18) (by omega) rfl (by omega) hrr))) ?_
  generalize hu7 : nU e6 (K + 1 + 1 + 1 + 1) = e8
  refine rw_of (fun rr hrr => q_astore (Nat.le_of_ble_eq_true rfl) rfl (q_bipush rfl (q_lnew (l := 64) (by omega) rfl (by omega) hrr))) ?_
  generalize hu9 : nU e8 (K + 1 + 1 + 1 + 1 + 1) = e10
  refine rw_of (fun rr hrr => q_astore (Nat.le_of_ble_eq_true rfl) rfl (q_bipush rfl (q_lnew (l := 18) (by omega) rfl (by omega) hrr))) ?_
  generalize hu11 : nU e10 (K + 1 + 1 + 1 + 1 + 1 + 1) = e12
  refine rw_of (fun rr hrr => q_astore (Nat.le_of_ble_eq_true rfl) rfl (q_aload_n rfl (q_iload_n rfl (q_aload rfl (q_aload rfl hrr))))) ?_
  obtain ⟨_, mm13, pp13, K13, sh13, e13, cc13, ss13, hV13, hK13, hKB13, hS13, rfl, hC13, hF13, hA13, hb13, hc13, hd13, hn13⟩ := c_L_reads (X := X) (m := m) (p := p) (K := K + 1 + 1 + 1 + 1 + 1 + 1) (sh := shU (shU (shU (shU (shU (shU sh (K + 1) 64) (K + 1 + 1) 18) (K + 1 + 1 + 1) 64) (K + 1 + 1 + 1 + 1) 18) (K + 1 + 1 + 1 + 1 + 1) 64) (K + 1 + 1 + 1 + 1 + 1 + 1) 18) (nn := e12) (d := d) (by omega) (by omega) (K + 1) (K + 1 + 1) s k cp ci N hC hsk ((Ro_new (Ro_new (Ro_new (Ro_new (Ro_new (Ro_made (by omega)))))))) ((Ro_new (Ro_new (Ro_new (Ro_new (Ro_made (by omega))))))) (by omega)
  have hKB13 : K13 ≤ K + 1 + 1 + 1 + 1 + 1 + 1 + 0 := hKB13
  refine rw_of (fun rr hrr => q_invS hV13 rfl rfl (okar_cons rfl (okar_cons rfl (okar_cons rfl (okar_cons rfl okar_nil)))) (Nat.le_of_ble_eq_true rfl) (q_aload_n rfl (q_iload_n rfl (q_aload rfl (q_aload rfl hrr))))) ?_
  obtain ⟨_, mm14, pp14, K14, sh14, e14, cc14, ss14, hV14, hK14, hKB14, hS14, rfl, hC14, hF14, hA14, hb14, hc14, hd14, hn14⟩ := c_L_reads (X := X) (m := mm13) (p := pp13) (K := K13) (sh := sh13) (nn := e13) (d := d) (by omega) (by omega) (K + 1 + 1 + 1) (K + 1 + 1 + 1 + 1) o k cp ci N hC13 hok ((Ro_call hK13 hS13 (Ro_new (Ro_new (Ro_new (Ro_made (by omega))))))) ((Ro_call hK13 hS13 (Ro_new (Ro_new (Ro_made (by omega)))))) (by omega)
  have hKB14 : K14 ≤ K13 + 0 := hKB14
  refine rw_of (fun rr hrr => q_invS hV14 rfl rfl (okar_cons rfl (okar_cons rfl (okar_cons rfl (okar_cons rfl okar_nil)))) (Nat.le_of_ble_eq_true rfl) (q_aload_n rfl (q_iload_n rfl (q_aload rfl (q_aload rfl hrr))))) ?_
  obtain ⟨_, mm15, pp15, K15, sh15, e15, cc15, ss15, hV15, hK15, hKB15, hS15, rfl, hC15, hF15, hA15, hb15, hc15, hd15, hn15⟩ := c_L_reads (X := X) (m := mm14) (p := pp14) (K := K14) (sh := sh14) (nn := e14) (d := d) (by omega) (by omega) (K + 1 + 1 + 1 + 1 + 1) (K + 1 + 1 + 1 + 1 + 1 + 1) t k cp ci N hC14 htk ((Ro_call hK14 hS14 (Ro_call hK13 hS13 (Ro_new (Ro_made (by omega)))))) ((Ro_call hK14 hS14 (Ro_call hK13 hS13 (Ro_made (by omega))))) (by omega)
  have hKB15 : K15 ≤ K14 + 0 := hKB15
  refine rw_of (fun rr hrr => q_invS hV15 rfl rfl (okar_cons rfl (okar_cons rfl (okar_cons rfl (okar_cons rfl okar_nil)))) (Nat.le_of_ble_eq_true rfl) (q_aload rfl (q_bipush rfl (q_lald (j := 17) (Ro_call hK15 hS15 (Ro_call hK14 hS14 (Ro_call hK13 hS13 (Ro_new (Ro_new (Ro_new (Ro_new (Ro_made (by omega))))))))) rfl (by omega) (((congrFun (hF15 (K + 1 + 1) (by show ¬ (K14 < (K + 1 + 1) ∨ (K + 1 + 1) = K + 1 + 1 + 1 + 1 + 1 ∨ (K + 1 + 1) = K + 1 + 1 + 1 + 1 + 1 + 1); omega)) _).trans (congrFun (hF14 (K + 1 + 1) (by show ¬ (K13 < (K + 1 + 1) ∨ (K + 1 + 1) = K + 1 + 1 + 1 ∨ (K + 1 + 1) = K + 1 + 1 + 1 + 1); omega)) _)).trans hn13) (q_istore (Nat.le_of_ble_eq_true rfl) rfl (q_iload rfl (q_iconst hrr))))))) ?_
  refine rw_icmp_ne ⟨by omega, by omega⟩ ⟨by omega, by omega⟩ (t := 300) rfl (fun hc16 => ?_) (fun hc16 => ?_)
  · skip
    refine rw_blk lk_L_isMade_300 ?_
    refine rw_of (fun rr hrr => q_iload rfl (q_iconst hrr)) ?_
    refine rw_icmp_ne ⟨by omega, by omega⟩ ⟨by omega, by omega⟩ (t := 310) rfl (fun hc17 => ?_) (fun hc17 => ?_)
    · skip
      refine rw_blk lk_L_isMade_310 ?_
      refine rw_of (fun rr hrr => q_iconst hrr) ?_
      refine rw_blk lk_L_isMade_311 ?_
      refine rw_of (fun rr hrr => q_istore (Nat.le_of_ble_eq_true rfl) rfl (q_aload rfl (q_bipush rfl (q_lald (j := 17) (Ro_call hK15 hS15 (Ro_call hK14 hS14 (Ro_call hK13 hS13 (Ro_made (by omega))))) rfl (by omega) hn15 (q_iload rfl (q_aload rfl (q_bipush rfl (q_lald (j := 17) (Ro_call hK15 hS15 (Ro_call hK14 hS14 (Ro_call hK13 hS13 (Ro_new (Ro_new (Ro_made (by omega))))))) rfl (by omega) ((congrFun (hF15 (K + 1 + 1 + 1 + 1) (by show ¬ (K14 < (K + 1 + 1 + 1 + 1) ∨ (K + 1 + 1 + 1 + 1) = K + 1 + 1 + 1 + 1 + 1 ∨ (K + 1 + 1 + 1 + 1) = K + 1 + 1 + 1 + 1 + 1 + 1); omega)) _).trans hn14) (q_iadd hrr))))))))) ?_
      refine rw_icmp_ne ⟨by omega, by omega⟩ ⟨by omega, by omega⟩ (t := 379) rfl (fun hc18 => ?_) (fun hc18 => ?_)
      · exfalso; omega
      · skip
        refine rw_of (fun rr hrr => q_aload rfl (q_bipush rfl (q_lald (j := 16) (Ro_call hK15 hS15 (Ro_call hK14 hS14 (Ro_call hK13 hS13 (Ro_made (by omega))))) rfl (by omega) hd15 (q_iload rfl hrr)))) ?_
        refine rw_if_eq ⟨by omega, by omega⟩ (t := 357) rfl (fun hc19 => ?_) (fun hc19 => ?_)
        · skip
          refine rw_blk lk_L_isMade_357 ?_
          refine rw_of (fun rr hrr => q_aload rfl (q_bipush rfl (q_lald (j := 16) (Ro_call hK15 hS15 (Ro_call hK14 hS14 (Ro_call hK13 hS13 (Ro_new (Ro_new (Ro_new (Ro_new (Ro_made (by omega))))))))) rfl (by omega) (((congrFun (hF15 (K + 1 + 1) (by show ¬ (K14 < (K + 1 + 1) ∨ (K + 1 + 1) = K + 1 + 1 + 1 + 1 + 1 ∨ (K + 1 + 1) = K + 1 + 1 + 1 + 1 + 1 + 1); omega)) _).trans (congrFun (hF14 (K + 1 + 1) (by show ¬ (K13 < (K + 1 + 1) ∨ (K + 1 + 1) = K + 1 + 1 + 1 ∨ (K + 1 + 1) = K + 1 + 1 + 1 + 1); omega)) _)).trans hd13) (q_aload rfl (q_bipush rfl (q_lald (j := 16) (Ro_call hK15 hS15 (Ro_call hK14 hS14 (Ro_call hK13 hS13 (Ro_new (Ro_new (Ro_made (by omega))))))) rfl (by omega) ((congrFun (hF15 (K + 1 + 1 + 1 + 1) (by show ¬ (K14 < (K + 1 + 1 + 1 + 1) ∨ (K + 1 + 1 + 1 + 1) = K + 1 + 1 + 1 + 1 + 1 ∨ (K + 1 + 1 + 1 + 1) = K + 1 + 1 + 1 + 1 + 1 + 1); omega)) _).trans hd14) (q_iadd (q_sipush rfl (q_irem (by have := vF_ge (Sd m0 s); have := vF_lt (Sd m0 s); have := vF_ge (Sd m0 o); have := vF_lt (Sd m0 o); exact ⟨by omega, by omega⟩) ⟨by omega, by omega⟩ (by omega) (remF (by have := vF_ge (Sd m0 s); have := vF_lt (Sd m0 s); have := vF_ge (Sd m0 o); have := vF_lt (Sd m0 o); omega) (show toF ((vF (Sd m0 s) + vF (Sd m0 o))) = ((Sd m0 s) + (Sd m0 o)) by simp only [toF_add, toF_mul, toF_sub, toF_neg, toF_vF, toF_nat, toF_0, toF_1, toF_M, F_add0, F_0sub])) hrr))))))))) ?_
          refine rw_blk lk_L_isMade_372 ?_
          refine rw_icmp_ne (rg_vF _) (rg_vF _) (t := 379) rfl (fun hc20 => ?_) (fun hc20 => ?_)
          · refine absurd (congrArg vF ?_) hc20
            rw [hdt]
            first | done | grind
          · skip
            refine rw_of (fun rr hrr => q_iconst (q_goto (t := 380) rfl hrr)) ?_
            refine rw_blk lk_L_isMade_380 ?_
            refine rw_of (fun rr hrr => q_istore (Nat.le_of_ble_eq_true rfl) rfl (q_iconst (q_istore (Nat.le_of_ble_eq_true rfl) rfl hrr))) ?_
            have hL385 : ∀ i, i ≤ N t → ∀ (cc ss : Nat) (x385_16 : Option Value) (x385_17 : Option Value) (x385_18 : Option Value), Rw (Ev d) k_L_isMade (385, [], [some (.ref (1)), some (.int (iI (((t : Nat) : Int)))), some (.int (iI (((s : Nat) : Int)))), some (.int (iI (((o : Nat) : Int)))), some (.int (iI (0))), some (.int (iI (x))), some (.ref (K + 1)), some (.ref (K + 1 + 1)), some (.ref (K + 1 + 1 + 1)), some (.ref (K + 1 + 1 + 1 + 1)), some (.ref (K + 1 + 1 + 1 + 1 + 1)), some (.ref (K + 1 + 1 + 1 + 1 + 1 + 1)), some (.int (iI (((N s : Nat) : Int)))), some (.int (iI (0))), some (.int (iI (1))), some (.int (iI (((i : Nat) : Int)))), x385_16, x385_17, x385_18], [], hB X mm15 pp15 K15 sh15 e15, cc, ss) Qr := by
              refine loop_any (fun i hi385 ih385 => ?_)
              intro cc ss x385_16 x385_17 x385_18
              refine rw_blk lk_L_isMade_385 ?_
              refine rw_of (fun rr hrr => q_iload rfl (q_aload rfl (q_bipush rfl (q_lald (j := 17) (Ro_call hK15 hS15 (Ro_call hK14 hS14 (Ro_call hK13 hS13 (Ro_made (by omega))))) rfl (by omega) hn15 hrr)))) ?_
              refine rw_icmp_ge ⟨by omega, by omega⟩ ⟨by omega, by omega⟩ (t := 668) rfl (fun hc21 => ?_) (fun hc21 => ?_)
              · skip
                refine rw_blk lk_L_isMade_668 ?_
                refine rw_of (fun rr hrr => q_iload rfl hrr) ?_
                refine lw_end hQ (q_ireturn (by omega)) (by omega) (by omega) (FrS_tr (by omega) (FrS_tr (by omega) (FrS_tr (by omega) (FrS_tr (by omega) (FrS_tr (by omega) (FrS_tr (by omega) (FrS_tr (by omega) (FrS_tr (by omega) (FrS_tr (by omega) FrS_rfl FrS_new) FrS_new) FrS_new) FrS_new) FrS_new) FrS_new) hS13) hS14) hS15) ?_
                exact ⟨rfl, hC15, fun a9 h9 => ((hF15 a9 (by show ¬ (K14 < a9 ∨ a9 = K + 1 + 1 + 1 + 1 + 1 ∨ a9 = K + 1 + 1 + 1 + 1 + 1 + 1); omega)).trans ((hF14 a9 (by show ¬ (K13 < a9 ∨ a9 = K + 1 + 1 + 1 ∨ a9 = K + 1 + 1 + 1 + 1); omega)).trans ((hF13 a9 (by show ¬ (K + 1 + 1 + 1 + 1 + 1 + 1 < a9 ∨ a9 = K + 1 ∨ a9 = K + 1 + 1); omega)).trans ((kU hu11 (by omega)).trans ((kU hu9 (by omega)).trans ((kU hu7 (by omega)).trans ((kU hu5 (by omega)).trans ((kU hu3 (by omega)).trans (kU hu1 (by omega))))))))))⟩
              · skip
                refine rw_of (fun rr hrr => q_iload rfl (q_iload rfl hrr)) ?_
                refine rw_icmp_ge ⟨by omega, by omega⟩ ⟨by omega, by omega⟩ (t := 406) rfl (fun hc22 => ?_) (fun hc22 => ?_)
                · skip
                  refine rw_blk lk_L_isMade_406 ?_
                  refine rw_of (fun rr hrr => q_iconst hrr) ?_
                  refine rw_blk lk_L_isMade_407 ?_
                  refine rw_of (fun rr hrr => q_istore (Nat.le_of_ble_eq_true rfl) rfl (q_iload rfl hrr)) ?_
                  refine rw_if_eq ⟨by omega, by omega⟩ (t := 523) rfl (fun hc23 => ?_) (fun hc23 => ?_)
                  · exact absurd hc23 (by decide)
                  · skip
                    refine rw_of (fun rr hrr => q_aload rfl (q_iload rfl (q_lald (j := i) (Ro_call hK15 hS15 (Ro_call hK14 hS14 (Ro_call hK13 hS13 (Ro_made (by omega))))) rfl (by omega) (hb15 i (by omega)) (q_iload rfl hrr)))) ?_
                    refine rw_if_eq ⟨by omega, by omega⟩ (t := 432) rfl (fun hc24 => ?_) (fun hc24 => ?_)
                    · skip
                      refine rw_blk lk_L_isMade_432 ?_
                      refine rw_of (fun rr hrr => q_aload rfl (q_iload rfl (q_iload rfl (q_isub (q_lald (j := i - (N s)) (Ro_call hK15 hS15 (Ro_call hK14 hS14 (Ro_call hK13 hS13 (Ro_new (Ro_new (Ro_made (by omega))))))) (by omega) (by omega) ((congrFun (hF15 (K + 1 + 1 + 1 + 1) (by show ¬ (K14 < (K + 1 + 1 + 1 + 1) ∨ (K + 1 + 1 + 1 + 1) = K + 1 + 1 + 1 + 1 + 1 ∨ (K + 1 + 1 + 1 + 1) = K + 1 + 1 + 1 + 1 + 1 + 1); omega)) _).trans (hb14 (i - (N s)) (by omega))) (q_iload rfl hrr)))))) ?_
                      refine rw_if_eq ⟨by omega, by omega⟩ (t := 453) rfl (fun hc25 => ?_) (fun hc25 => ?_)
                      · skip
                        refine rw_blk lk_L_isMade_453 ?_
                        refine rw_of (fun rr hrr => q_iconst hrr) ?_
                        refine rw_blk lk_L_isMade_454 ?_
                        refine rw_of (fun rr hrr => q_imul (q_sipush rfl (q_irem (by have := vF_ge (Sb m0 o (i - (N s))); have := vF_lt (Sb m0 o (i - (N s))); exact ⟨by omega, by omega⟩) ⟨by omega, by omega⟩ (by omega) (remF (by have := vF_ge (Sb m0 o (i - (N s))); have := vF_lt (Sb m0 o (i - (N s))); omega) (show toF ((vF (Sb m0 o (i - (N s))) * 1)) = ((Sb m0 o (i - (N s))) * 1) by simp only [toF_add, toF_mul, toF_sub, toF_neg, toF_vF, toF_nat, toF_0, toF_1, toF_M, F_add0, F_0sub])) hrr))) ?_
                        refine rw_blk lk_L_isMade_459 ?_
                        refine rw_icmp_ne (rg_vF _) (rg_vF _) (t := 523) rfl (fun hc26 => ?_) (fun hc26 => ?_)
                        · refine absurd (congrArg vF ?_) hc26
                          rw [hbt i (by omega)]
                          unfold twob
                          repeat first | rw [if_pos (by omega)] | rw [if_neg (by omega)]
                          first | done | rfl | grind
                        · skip
                          refine rw_of (fun rr hrr => q_aload rfl (q_bipush rfl (q_iload rfl (q_iadd (q_lald (j := 8 + i) (Ro_call hK15 hS15 (Ro_call hK14 hS14 (Ro_call hK13 hS13 (Ro_made (by omega))))) (by omega) (by omega) (hc15 i (by omega)) (q_iload rfl hrr)))))) ?_
                          refine rw_if_eq ⟨by omega, by omega⟩ (t := 505) rfl (fun hc27 => ?_) (fun hc27 => ?_)
                          · skip
                            refine rw_blk lk_L_isMade_505 ?_
                            refine rw_of (fun rr hrr => q_aload rfl (q_bipush rfl (q_iload rfl (q_iadd (q_iload rfl (q_isub (q_lald (j := 8 + (i - N s)) (Ro_call hK15 hS15 (Ro_call hK14 hS14 (Ro_call hK13 hS13 (Ro_new (Ro_new (Ro_made (by omega))))))) (by omega) (by omega) ((congrFun (hF15 (K + 1 + 1 + 1 + 1) (by show ¬ (K14 < (K + 1 + 1 + 1 + 1) ∨ (K + 1 + 1 + 1 + 1) = K + 1 + 1 + 1 + 1 + 1 ∨ (K + 1 + 1 + 1 + 1) = K + 1 + 1 + 1 + 1 + 1 + 1); omega)) _).trans (hc14 ((i - N s)) (by omega))) hrr))))))) ?_
                            refine rw_blk lk_L_isMade_516 ?_
                            refine rw_icmp_ne (rg_vF _) (rg_vF _) (t := 523) rfl (fun hc28 => ?_) (fun hc28 => ?_)
                            · refine absurd (congrArg vF ?_) hc28
                              rw [hct i (by omega)]
                              unfold twob
                              repeat first | rw [if_pos (by omega)] | rw [if_neg (by omega)]
                              first | done | rfl | grind
                            · skip
                              refine rw_of (fun rr hrr => q_iconst (q_goto (t := 524) rfl hrr)) ?_
                              refine rw_blk lk_L_isMade_524 ?_
                              refine rw_of (fun rr hrr => q_istore (Nat.le_of_ble_eq_true rfl) rfl (q_iconst (q_istore (Nat.le_of_ble_eq_true rfl) rfl hrr))) ?_
                              have hL529 : ∀ j, j ≤ N t → ∀ (cc ss : Nat) (x529_18 : Option Value), Rw (Ev d) k_L_isMade (529, [], [some (.ref (1)), some (.int (iI (((t : Nat) : Int)))), some (.int (iI (((s : Nat) : Int)))), some (.int (iI (((o : Nat) : Int)))), some (.int (iI (0))), some (.int (iI (x))), some (.ref (K + 1)), some (.ref (K + 1 + 1)), some (.ref (K + 1 + 1 + 1)), some (.ref (K + 1 + 1 + 1 + 1)), some (.ref (K + 1 + 1 + 1 + 1 + 1)), some (.ref (K + 1 + 1 + 1 + 1 + 1 + 1)), some (.int (iI (((N s : Nat) : Int)))), some (.int (iI (0))), some (.int (iI (1))), some (.int (iI (((i : Nat) : Int)))), some (.int (iI (0))), some (.int (iI (((j : Nat) : Int)))), x529_18], [], hB X mm15 pp15 K15 sh15 e15, cc, ss) Qr := by
                                refine loop_any (fun j hi529 ih529 => ?_)
                                intro cc ss x529_18
                                refine rw_blk lk_L_isMade_529 ?_
                                refine rw_of (fun rr hrr => q_iload rfl (q_aload rfl (q_bipush rfl (q_lald (j := 17) (Ro_call hK15 hS15 (Ro_call hK14 hS14 (Ro_call hK13 hS13 (Ro_made (by omega))))) rfl (by omega) hn15 hrr)))) ?_
                                refine rw_icmp_ge ⟨by omega, by omega⟩ ⟨by omega, by omega⟩ (t := 662) rfl (fun hc29 => ?_) (fun hc29 => ?_)
                                · skip
                                  refine rw_blk lk_L_isMade_662 ?_
                                  refine rw_of (fun rr hrr => q_iinc rfl rfl (q_goto (t := 385) rfl hrr)) ?_
                                  exact rw_cast (ih385 (by omega) _ _ (some (.int (iI (0)))) (some (.int (iI (((j : Nat) : Int))))) x529_18) (lcons rfl (lcons rfl (lcons rfl (lcons rfl (lcons rfl (lcons rfl (lcons rfl (lcons rfl (lcons rfl (lcons rfl (lcons rfl (lcons rfl (lcons rfl (lcons rfl (lcons rfl (lcons (lvI (by omega)) (lcons rfl (lcons rfl (lcons rfl rfl))))))))))))))))))) rfl
                                · skip
                                  refine rw_of (fun rr hrr => q_iload rfl hrr) ?_
                                  refine rw_if_eq ⟨by omega, by omega⟩ (t := 569) rfl (fun hc30 => ?_) (fun hc30 => ?_)
                                  · skip
                                    refine rw_blk lk_L_isMade_569 ?_
                                    refine rw_of (fun rr hrr => q_iload rfl (q_iload rfl hrr)) ?_
                                    refine rw_icmp_lt ⟨by omega, by omega⟩ ⟨by omega, by omega⟩ (t := 596) rfl (fun hc31 => ?_) (fun hc31 => ?_)
                                    · skip
                                      refine rw_blk lk_L_isMade_596 ?_
                                      refine rw_of (fun rr hrr => q_iload rfl hrr) ?_
                                      refine rw_if_eq ⟨by omega, by omega⟩ (t := 625) rfl (fun hc32 => ?_) (fun hc32 => ?_)
                                      · skip
                                        refine rw_blk lk_L_isMade_625 ?_
                                        refine rw_of (fun rr hrr => q_iconst hrr) ?_
                                        refine rw_blk lk_L_isMade_626 ?_
                                        refine rw_of (fun rr hrr => q_istore (Nat.le_of_ble_eq_true rfl) rfl (q_iload rfl hrr)) ?_
                                        refine rw_if_eq ⟨by omega, by omega⟩ (t := 653) rfl (fun hc33 => ?_) (fun hc33 => ?_)
                                        · exact absurd hc33 (by decide)
                                        · skip
                                          refine rw_of (fun rr hrr => q_aload rfl (q_bipush rfl (q_iload rfl (q_imul (q_iload rfl (q_iadd (q_lald (j := 8 * i + j) (Ro_call hK15 hS15 (Ro_call hK14 hS14 (Ro_call hK13 hS13 (Ro_new (Ro_made (by omega)))))) (by omega) (by omega) (hA15 i (by omega) j (by omega)) (q_iload rfl hrr)))))))) ?_
                                          refine rw_icmp_ne (rg_vF _) ⟨by omega, by omega⟩ (t := 653) rfl (fun hc34 => ?_) (fun hc34 => ?_)
                                          · refine absurd ((congrArg vF ?_).trans vF_0) hc34
                                            rw [hAt i (by omega) j (by omega)]
                                            unfold sidA
                                            repeat first | rw [if_pos (by omega)] | rw [if_neg (by omega)]
                                            first | done | rfl | grind
                                          · skip
                                            refine rw_of (fun rr hrr => q_iconst (q_goto (t := 654) rfl hrr)) ?_
                                            refine rw_blk lk_L_isMade_654 ?_
                                            refine rw_of (fun rr hrr => q_istore (Nat.le_of_ble_eq_true rfl) rfl (q_iinc rfl rfl (q_goto (t := 529) rfl hrr))) ?_
                                            exact rw_cast (ih529 (by omega) _ _ (some (.int (iI (0))))) (lcons rfl (lcons rfl (lcons rfl (lcons rfl (lcons rfl (lcons rfl (lcons rfl (lcons rfl (lcons rfl (lcons rfl (lcons rfl (lcons rfl (lcons rfl (lcons rfl (lcons rfl (lcons rfl (lcons rfl (lcons (lvI (by omega)) (lcons rfl rfl))))))))))))))))))) rfl
                                      · exact absurd hc32 (by decide)
                                    · skip
                                      refine rw_of (fun rr hrr => q_aload rfl (q_bipush rfl (q_iload rfl (q_iload rfl (q_isub (q_imul (q_iload rfl (q_iadd (q_iload rfl (q_isub (q_lald (j := 8 * (i - N s) + (j - N s)) (Ro_call hK15 hS15 (Ro_call hK14 hS14 (Ro_call hK13 hS13 (Ro_new (Ro_new (Ro_new (Ro_made (by omega)))))))) (by omega) (by omega) ((congrFun (hF15 (K + 1 + 1 + 1) (by show ¬ (K14 < (K + 1 + 1 + 1) ∨ (K + 1 + 1 + 1) = K + 1 + 1 + 1 + 1 + 1 ∨ (K + 1 + 1 + 1) = K + 1 + 1 + 1 + 1 + 1 + 1); omega)) _).trans (hA14 (i - N s) (by omega) ((j - N s)) (by omega))) (q_goto (t := 626) rfl hrr)))))))))))) ?_
                                      refine rw_blk lk_L_isMade_626 ?_
                                      refine rw_of (fun rr hrr => q_istore (Nat.le_of_ble_eq_true rfl) rfl (q_iload rfl hrr)) ?_
                                      refine rw_if_eq ⟨by omega, by omega⟩ (t := 653) rfl (fun hc35 => ?_) (fun hc35 => ?_)
                                      · exact absurd hc35 (by decide)
                                      · skip
                                        refine rw_of (fun rr hrr => q_aload rfl (q_bipush rfl (q_iload rfl (q_imul (q_iload rfl (q_iadd (q_lald (j := 8 * i + j) (Ro_call hK15 hS15 (Ro_call hK14 hS14 (Ro_call hK13 hS13 (Ro_new (Ro_made (by omega)))))) (by omega) (by omega) (hA15 i (by omega) j (by omega)) (q_iload rfl hrr)))))))) ?_
                                        refine rw_icmp_ne (rg_vF _) (rg_vF _) (t := 653) rfl (fun hc36 => ?_) (fun hc36 => ?_)
                                        · refine absurd (congrArg vF ?_) hc36
                                          rw [hAt i (by omega) j (by omega)]
                                          unfold sidA
                                          repeat first | rw [if_pos (by omega)] | rw [if_neg (by omega)]
                                          first | done | rfl | grind
                                        · skip
                                          refine rw_of (fun rr hrr => q_iconst (q_goto (t := 654) rfl hrr)) ?_
                                          refine rw_blk lk_L_isMade_654 ?_
                                          refine rw_of (fun rr hrr => q_istore (Nat.le_of_ble_eq_true rfl) rfl (q_iinc rfl rfl (q_goto (t := 529) rfl hrr))) ?_
                                          exact rw_cast (ih529 (by omega) _ _ (some (.int (iI (vF (SA m0 o (i - N s) ((j - N s)))))))) (lcons rfl (lcons rfl (lcons rfl (lcons rfl (lcons rfl (lcons rfl (lcons rfl (lcons rfl (lcons rfl (lcons rfl (lcons rfl (lcons rfl (lcons rfl (lcons rfl (lcons rfl (lcons rfl (lcons rfl (lcons (lvI (by omega)) (lcons rfl rfl))))))))))))))))))) rfl
                                  · exact absurd hc30 (by decide)
                              exact rw_cast (hL529 0 (by omega) _ _ x385_18) (lcons rfl (lcons rfl (lcons rfl (lcons rfl (lcons rfl (lcons rfl (lcons rfl (lcons rfl (lcons rfl (lcons rfl (lcons rfl (lcons rfl (lcons rfl (lcons rfl (lcons rfl (lcons rfl (lcons rfl (lcons (lvI (by omega)) (lcons rfl rfl))))))))))))))))))) rfl
                          · exact absurd hc27 (by decide)
                      · exact absurd hc25 (by decide)
                    · exact absurd hc24 (by decide)
                · skip
                  refine rw_of (fun rr hrr => q_iconst (q_goto (t := 407) rfl hrr)) ?_
                  refine rw_blk lk_L_isMade_407 ?_
                  refine rw_of (fun rr hrr => q_istore (Nat.le_of_ble_eq_true rfl) rfl (q_iload rfl hrr)) ?_
                  refine rw_if_eq ⟨by omega, by omega⟩ (t := 523) rfl (fun hc37 => ?_) (fun hc37 => ?_)
                  · exact absurd hc37 (by decide)
                  · skip
                    refine rw_of (fun rr hrr => q_aload rfl (q_iload rfl (q_lald (j := i) (Ro_call hK15 hS15 (Ro_call hK14 hS14 (Ro_call hK13 hS13 (Ro_made (by omega))))) rfl (by omega) (hb15 i (by omega)) (q_iload rfl hrr)))) ?_
                    refine rw_if_eq ⟨by omega, by omega⟩ (t := 432) rfl (fun hc38 => ?_) (fun hc38 => ?_)
                    · exact absurd hc38 (by decide)
                    · skip
                      refine rw_of (fun rr hrr => q_aload rfl (q_iload rfl (q_lald (j := i) (Ro_call hK15 hS15 (Ro_call hK14 hS14 (Ro_call hK13 hS13 (Ro_new (Ro_new (Ro_new (Ro_new (Ro_made (by omega))))))))) rfl (by omega) (((congrFun (hF15 (K + 1 + 1) (by show ¬ (K14 < (K + 1 + 1) ∨ (K + 1 + 1) = K + 1 + 1 + 1 + 1 + 1 ∨ (K + 1 + 1) = K + 1 + 1 + 1 + 1 + 1 + 1); omega)) _).trans (congrFun (hF14 (K + 1 + 1) (by show ¬ (K13 < (K + 1 + 1) ∨ (K + 1 + 1) = K + 1 + 1 + 1 ∨ (K + 1 + 1) = K + 1 + 1 + 1 + 1); omega)) _)).trans (hb13 i (by omega))) (q_goto (t := 459) rfl hrr)))) ?_
                      refine rw_blk lk_L_isMade_459 ?_
                      refine rw_icmp_ne (rg_vF _) (rg_vF _) (t := 523) rfl (fun hc39 => ?_) (fun hc39 => ?_)
                      · refine absurd (congrArg vF ?_) hc39
                        rw [hbt i (by omega)]
                        unfold twob
                        repeat first | rw [if_pos (by omega)] | rw [if_neg (by omega)]
                        first | done | rfl | grind
                      · skip
                        refine rw_of (fun rr hrr => q_aload rfl (q_bipush rfl (q_iload rfl (q_iadd (q_lald (j := 8 + i) (Ro_call hK15 hS15 (Ro_call hK14 hS14 (Ro_call hK13 hS13 (Ro_made (by omega))))) (by omega) (by omega) (hc15 i (by omega)) (q_iload rfl hrr)))))) ?_
                        refine rw_if_eq ⟨by omega, by omega⟩ (t := 505) rfl (fun hc40 => ?_) (fun hc40 => ?_)
                        · exact absurd hc40 (by decide)
                        · skip
                          refine rw_of (fun rr hrr => q_aload rfl (q_bipush rfl (q_iload rfl (q_iadd (q_lald (j := 8 + i) (Ro_call hK15 hS15 (Ro_call hK14 hS14 (Ro_call hK13 hS13 (Ro_new (Ro_new (Ro_new (Ro_new (Ro_made (by omega))))))))) (by omega) (by omega) (((congrFun (hF15 (K + 1 + 1) (by show ¬ (K14 < (K + 1 + 1) ∨ (K + 1 + 1) = K + 1 + 1 + 1 + 1 + 1 ∨ (K + 1 + 1) = K + 1 + 1 + 1 + 1 + 1 + 1); omega)) _).trans (congrFun (hF14 (K + 1 + 1) (by show ¬ (K13 < (K + 1 + 1) ∨ (K + 1 + 1) = K + 1 + 1 + 1 ∨ (K + 1 + 1) = K + 1 + 1 + 1 + 1); omega)) _)).trans (hc13 i (by omega))) (q_iload rfl hrr)))))) ?_
                          refine rw_if_eq ⟨by omega, by omega⟩ (t := 496) rfl (fun hc41 => ?_) (fun hc41 => ?_)
                          · skip
                            refine rw_blk lk_L_isMade_496 ?_
                            refine rw_of (fun rr hrr => q_iconst hrr) ?_
                            refine rw_blk lk_L_isMade_497 ?_
                            refine rw_of (fun rr hrr => q_imul (q_sipush rfl (q_irem (by have := vF_ge (Sc m0 s i); have := vF_lt (Sc m0 s i); exact ⟨by omega, by omega⟩) ⟨by omega, by omega⟩ (by omega) (remF (by have := vF_ge (Sc m0 s i); have := vF_lt (Sc m0 s i); omega) (show toF ((vF (Sc m0 s i) * 1)) = ((Sc m0 s i) * 1) by simp only [toF_add, toF_mul, toF_sub, toF_neg, toF_vF, toF_nat, toF_0, toF_1, toF_M, F_add0, F_0sub])) (q_goto (t := 516) rfl hrr)))) ?_
                            refine rw_blk lk_L_isMade_516 ?_
                            refine rw_icmp_ne (rg_vF _) (rg_vF _) (t := 523) rfl (fun hc42 => ?_) (fun hc42 => ?_)
                            · refine absurd (congrArg vF ?_) hc42
                              rw [hct i (by omega)]
                              unfold twob
                              repeat first | rw [if_pos (by omega)] | rw [if_neg (by omega)]
                              first | done | rfl | grind
                            · skip
                              refine rw_of (fun rr hrr => q_iconst (q_goto (t := 524) rfl hrr)) ?_
                              refine rw_blk lk_L_isMade_524 ?_
                              refine rw_of (fun rr hrr => q_istore (Nat.le_of_ble_eq_true rfl) rfl (q_iconst (q_istore (Nat.le_of_ble_eq_true rfl) rfl hrr))) ?_
                              have hL529 : ∀ j, j ≤ N t → ∀ (cc ss : Nat) (x529_18 : Option Value), Rw (Ev d) k_L_isMade (529, [], [some (.ref (1)), some (.int (iI (((t : Nat) : Int)))), some (.int (iI (((s : Nat) : Int)))), some (.int (iI (((o : Nat) : Int)))), some (.int (iI (0))), some (.int (iI (x))), some (.ref (K + 1)), some (.ref (K + 1 + 1)), some (.ref (K + 1 + 1 + 1)), some (.ref (K + 1 + 1 + 1 + 1)), some (.ref (K + 1 + 1 + 1 + 1 + 1)), some (.ref (K + 1 + 1 + 1 + 1 + 1 + 1)), some (.int (iI (((N s : Nat) : Int)))), some (.int (iI (0))), some (.int (iI (1))), some (.int (iI (((i : Nat) : Int)))), some (.int (iI (1))), some (.int (iI (((j : Nat) : Int)))), x529_18], [], hB X mm15 pp15 K15 sh15 e15, cc, ss) Qr := by
                                refine loop_any (fun j hi529 ih529 => ?_)
                                intro cc ss x529_18
                                refine rw_blk lk_L_isMade_529 ?_
                                refine rw_of (fun rr hrr => q_iload rfl (q_aload rfl (q_bipush rfl (q_lald (j := 17) (Ro_call hK15 hS15 (Ro_call hK14 hS14 (Ro_call hK13 hS13 (Ro_made (by omega))))) rfl (by omega) hn15 hrr)))) ?_
                                refine rw_icmp_ge ⟨by omega, by omega⟩ ⟨by omega, by omega⟩ (t := 662) rfl (fun hc43 => ?_) (fun hc43 => ?_)
                                · skip
                                  refine rw_blk lk_L_isMade_662 ?_
                                  refine rw_of (fun rr hrr => q_iinc rfl rfl (q_goto (t := 385) rfl hrr)) ?_
                                  exact rw_cast (ih385 (by omega) _ _ (some (.int (iI (1)))) (some (.int (iI (((j : Nat) : Int))))) x529_18) (lcons rfl (lcons rfl (lcons rfl (lcons rfl (lcons rfl (lcons rfl (lcons rfl (lcons rfl (lcons rfl (lcons rfl (lcons rfl (lcons rfl (lcons rfl (lcons rfl (lcons rfl (lcons (lvI (by omega)) (lcons rfl (lcons rfl (lcons rfl rfl))))))))))))))))))) rfl
                                · skip
                                  refine rw_of (fun rr hrr => q_iload rfl hrr) ?_
                                  refine rw_if_eq ⟨by omega, by omega⟩ (t := 569) rfl (fun hc44 => ?_) (fun hc44 => ?_)
                                  · exact absurd hc44 (by decide)
                                  · skip
                                    refine rw_of (fun rr hrr => q_iload rfl (q_iload rfl hrr)) ?_
                                    refine rw_icmp_ge ⟨by omega, by omega⟩ ⟨by omega, by omega⟩ (t := 565) rfl (fun hc45 => ?_) (fun hc45 => ?_)
                                    · skip
                                      refine rw_blk lk_L_isMade_565 ?_
                                      refine rw_of (fun rr hrr => q_iconst (q_goto (t := 626) rfl hrr)) ?_
                                      refine rw_blk lk_L_isMade_626 ?_
                                      refine rw_of (fun rr hrr => q_istore (Nat.le_of_ble_eq_true rfl) rfl (q_iload rfl hrr)) ?_
                                      refine rw_if_eq ⟨by omega, by omega⟩ (t := 653) rfl (fun hc46 => ?_) (fun hc46 => ?_)
                                      · exact absurd hc46 (by decide)
                                      · skip
                                        refine rw_of (fun rr hrr => q_aload rfl (q_bipush rfl (q_iload rfl (q_imul (q_iload rfl (q_iadd (q_lald (j := 8 * i + j) (Ro_call hK15 hS15 (Ro_call hK14 hS14 (Ro_call hK13 hS13 (Ro_new (Ro_made (by omega)))))) (by omega) (by omega) (hA15 i (by omega) j (by omega)) (q_iload rfl hrr)))))))) ?_
                                        refine rw_icmp_ne (rg_vF _) ⟨by omega, by omega⟩ (t := 653) rfl (fun hc47 => ?_) (fun hc47 => ?_)
                                        · refine absurd ((congrArg vF ?_).trans vF_0) hc47
                                          rw [hAt i (by omega) j (by omega)]
                                          unfold sidA
                                          repeat first | rw [if_pos (by omega)] | rw [if_neg (by omega)]
                                          first | done | rfl | grind
                                        · skip
                                          refine rw_of (fun rr hrr => q_iconst (q_goto (t := 654) rfl hrr)) ?_
                                          refine rw_blk lk_L_isMade_654 ?_
                                          refine rw_of (fun rr hrr => q_istore (Nat.le_of_ble_eq_true rfl) rfl (q_iinc rfl rfl (q_goto (t := 529) rfl hrr))) ?_
                                          exact rw_cast (ih529 (by omega) _ _ (some (.int (iI (0))))) (lcons rfl (lcons rfl (lcons rfl (lcons rfl (lcons rfl (lcons rfl (lcons rfl (lcons rfl (lcons rfl (lcons rfl (lcons rfl (lcons rfl (lcons rfl (lcons rfl (lcons rfl (lcons rfl (lcons rfl (lcons (lvI (by omega)) (lcons rfl rfl))))))))))))))))))) rfl
                                    · skip
                                      refine rw_of (fun rr hrr => q_aload rfl (q_bipush rfl (q_iload rfl (q_imul (q_iload rfl (q_iadd (q_lald (j := 8 * i + j) (Ro_call hK15 hS15 (Ro_call hK14 hS14 (Ro_call hK13 hS13 (Ro_new (Ro_new (Ro_new (Ro_new (Ro_new (Ro_made (by omega)))))))))) (by omega) (by omega) (((congrFun (hF15 (K + 1) (by show ¬ (K14 < (K + 1) ∨ (K + 1) = K + 1 + 1 + 1 + 1 + 1 ∨ (K + 1) = K + 1 + 1 + 1 + 1 + 1 + 1); omega)) _).trans (congrFun (hF14 (K + 1) (by show ¬ (K13 < (K + 1) ∨ (K + 1) = K + 1 + 1 + 1 ∨ (K + 1) = K + 1 + 1 + 1 + 1); omega)) _)).trans (hA13 i (by omega) j (by omega))) (q_goto (t := 626) rfl hrr)))))))) ?_
                                      refine rw_blk lk_L_isMade_626 ?_
                                      refine rw_of (fun rr hrr => q_istore (Nat.le_of_ble_eq_true rfl) rfl (q_iload rfl hrr)) ?_
                                      refine rw_if_eq ⟨by omega, by omega⟩ (t := 653) rfl (fun hc48 => ?_) (fun hc48 => ?_)
                                      · exact absurd hc48 (by decide)
                                      · skip
                                        refine rw_of (fun rr hrr => q_aload rfl (q_bipush rfl (q_iload rfl (q_imul (q_iload rfl (q_iadd (q_lald (j := 8 * i + j) (Ro_call hK15 hS15 (Ro_call hK14 hS14 (Ro_call hK13 hS13 (Ro_new (Ro_made (by omega)))))) (by omega) (by omega) (hA15 i (by omega) j (by omega)) (q_iload rfl hrr)))))))) ?_
                                        refine rw_icmp_ne (rg_vF _) (rg_vF _) (t := 653) rfl (fun hc49 => ?_) (fun hc49 => ?_)
                                        · refine absurd (congrArg vF ?_) hc49
                                          rw [hAt i (by omega) j (by omega)]
                                          unfold sidA
                                          repeat first | rw [if_pos (by omega)] | rw [if_neg (by omega)]
                                          first | done | rfl | grind
                                        · skip
                                          refine rw_of (fun rr hrr => q_iconst (q_goto (t := 654) rfl hrr)) ?_
                                          refine rw_blk lk_L_isMade_654 ?_
                                          refine rw_of (fun rr hrr => q_istore (Nat.le_of_ble_eq_true rfl) rfl (q_iinc rfl rfl (q_goto (t := 529) rfl hrr))) ?_
                                          exact rw_cast (ih529 (by omega) _ _ (some (.int (iI (vF (SA m0 s i j)))))) (lcons rfl (lcons rfl (lcons rfl (lcons rfl (lcons rfl (lcons rfl (lcons rfl (lcons rfl (lcons rfl (lcons rfl (lcons rfl (lcons rfl (lcons rfl (lcons rfl (lcons rfl (lcons rfl (lcons rfl (lcons (lvI (by omega)) (lcons rfl rfl))))))))))))))))))) rfl
                              exact rw_cast (hL529 0 (by omega) _ _ x385_18) (lcons rfl (lcons rfl (lcons rfl (lcons rfl (lcons rfl (lcons rfl (lcons rfl (lcons rfl (lcons rfl (lcons rfl (lcons rfl (lcons rfl (lcons rfl (lcons rfl (lcons rfl (lcons rfl (lcons rfl (lcons (lvI (by omega)) (lcons rfl rfl))))))))))))))))))) rfl
                          · exact absurd hc41 (by decide)
            exact rw_cast (hL385 0 (by omega) _ _ none none none) (lcons rfl (lcons rfl (lcons rfl (lcons rfl (lcons rfl (lcons rfl (lcons rfl (lcons rfl (lcons rfl (lcons rfl (lcons rfl (lcons rfl (lcons rfl (lcons rfl (lcons rfl (lcons (lvI (by omega)) (lcons rfl (lcons rfl (lcons rfl rfl))))))))))))))))))) rfl
        · exact absurd hc19 (by decide)
    · exact absurd hc17 (by decide)
  · exact absurd hc16 (by decide)
