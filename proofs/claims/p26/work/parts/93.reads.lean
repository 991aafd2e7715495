/-! THE LAW on a shop's systems -/
theorem c_L_reads {d : Nat} {X : MC} {m0 m : M1} {p : M2} {K : Nat} {sh : Nat → Nat} {nn : N2} (hd : 9 ≤ d) (hK : 260 ≤ K) (a b s : Nat) (k cp ci : Nat) (N : Nat → Nat) (hC : CS m0 k N cp ci m p) (hsk : s < k) (ha : Ro K sh a 64) (hb : Ro K sh b 18) (hab : a ≠ b) : Lc d k_L_reads X [.ref (1), .int (iI (((s : Nat) : Int))), .ref (a), .ref (b)] m p K sh nn (fun v m' p' K' sh' n' => v = none ∧ CS m0 k N cp ci m' p' ∧ FrN (fun a_ => K < a_ ∨ a_ = a ∨ a_ = b) nn n' ∧ Mv n' a (N s) (SA m0 s) ∧ (∀ i, i < N s → n' b i = vF (Sb m0 s i)) ∧ (∀ i, i < N s → n' b (8 + i) = vF (Sc m0 s i)) ∧ n' b 16 = vF (Sd m0 s) ∧ n' b 17 = ((N s : Nat) : Int)) := by
  obtain ⟨d, rfl⟩ : ∃ e, d = e + 1 := ⟨d - 1, by omega⟩
  have ha8 := ha.1; have ha9 := ha.2.1
  have hb8 := hb.1; have hb9 := hb.2.1
  have hn1 := hC.N1 hsk
  have hn := hC.N8 hsk
  refine lc_go (lv := [some (.ref (1)), some (.int (iI (((s : Nat) : Int)))), some (.ref (a)), some (.ref (b)), none, none]) (B := 0) (Nat.le_of_ble_eq_true rfl) (okar_cons rfl (okar_cons rfl (okar_cons rfl (okar_cons rfl okar_nil)))) rfl rfl (fun Qr hQ => ?_)
  refine rw_blk lk_L_reads_0 ?_
  refine rw_of (fun rr hrr => q_aload_n rfl (q_bipush rfl (q_aload_n rfl (q_iload_n rfl hrr)))) ?_
  obtain ⟨_, mm1, pp1, hV1, rfl, hC1⟩ := w_order (S := (K, gB X sh nn)) (d := d) (by omega) hC hsk
  refine rw_of (fun rr hrr => q_invV hV1 (show SH 1 = (17, 0) from rfl) rfl rfl (okar_cons rfl okar_nil) (Nat.le_of_ble_eq_true rfl) (q_last (j := 17) hb rfl (by omega) hrr)) ?_
  generalize hm2 : wI nn b 17 (((N s : Nat) : Int)) = e3
  refine rw_of (fun rr hrr => q_iconst (q_istore (Nat.le_of_ble_eq_true rfl) rfl hrr)) ?_
  have hL12 : ∀ i, i ≤ N s → ∀ (cc ss : Nat) (nn12 : N2) (m12 : M1) (p12 : M2) (x12_5 : Option Value), (FrN (fun a_ => a_ = a ∨ a_ = b) e3 nn12 ∧ CS m0 k N cp ci m12 p12 ∧ ((∀ z, z < i → ∀ c, c < N s → nn12 a (8 * z + c) = vF (SA m0 s z c)) ∧ (∀ z, z < i → nn12 b z = vF (Sb m0 s z)) ∧ (∀ z, z < i → nn12 b (8 + z) = vF (Sc m0 s z)) ∧ nn12 b 17 = ((N s : Nat) : Int))) → Rw (Ev d) k_L_reads (12, [], [some (.ref (1)), some (.int (iI (((s : Nat) : Int)))), some (.ref (a)), some (.ref (b)), some (.int (iI (((i : Nat) : Int)))), x12_5], [], hB X m12 p12 K sh nn12, cc, ss) Qr := by
    refine loop_any (fun i hi12 ih12 => ?_)
    intro cc ss nn12 m12 p12 x12_5
    intro hI
    obtain ⟨hF12, hC12, ⟨hA12, hb12, hc12, hn12⟩⟩ := hI
    refine rw_blk lk_L_reads_12 ?_
    refine rw_of (fun rr hrr => q_iload rfl (q_aload_n rfl (q_bipush rfl (q_lald (j := 17) hb rfl (by omega) hn12 hrr)))) ?_
    refine rw_icmp_ge ⟨by omega, by omega⟩ ⟨by omega, by omega⟩ (t := 95) rfl (fun hc4 => ?_) (fun hc4 => ?_)
    · skip
      refine rw_blk lk_L_reads_95 ?_
      refine rw_of (fun rr hrr => q_aload_n rfl (q_bipush rfl (q_aload_n rfl (q_iload_n rfl (q_iconst (q_bipush rfl (q_bipush rfl hrr))))))) ?_
      obtain ⟨_, mm5, pp5, hV5, rfl, hC5⟩ := w_at3 (S := (K, gB X sh nn12)) (d := d) (by omega) hC12 hsk (i := -5) (j := 77)
      refine rw_of (fun rr hrr => q_invV hV5 (show SH 1 = (17, 0) from rfl) rfl rfl (okar_cons rfl (okar_cons rfl (okar_cons rfl (okar_cons rfl okar_nil)))) (Nat.le_of_ble_eq_true rfl) (q_last (j := 16) hb rfl (by omega) hrr)) ?_
      generalize hm6 : wI nn12 b 16 (vF (Sd m0 s)) = e7
      refine lw_end hQ (q_return) (by omega) (by omega) FrS_rfl ?_
      have hz : i = N s := by omega
      subst hz
      exact ⟨rfl, hC5, fun a9 h9 => ((kN hm6 (by omega)).trans ((hF12 a9 (by show ¬ (a9 = a ∨ a9 = b); omega)).trans (kN hm2 (by omega)))), fun z hz c hc => (congrFun (kN hm6 (by omega)) _).trans (hA12 z hz c hc), fun z hz => (kB hm6 (by omega)).trans (hb12 z hz), fun z hz => (kB hm6 (by omega)).trans (hc12 z hz), kA hm6, (kB hm6 (by omega)).trans hn12⟩
    · skip
      refine rw_of (fun rr hrr => q_iconst (q_istore (Nat.le_of_ble_eq_true rfl) rfl hrr)) ?_
      have hL24 : ∀ j, j ≤ N s → ∀ (cc ss : Nat) (nn24 : N2) (m24 : M1) (p24 : M2), (FrN (fun a_ => a_ = a) nn12 nn24 ∧ CS m0 k N cp ci m24 p24 ∧ (∀ z c, c < N s → (z < i ∨ z = i ∧ c < j) → nn24 a (8 * z + c) = vF (SA m0 s z c))) → Rw (Ev d) k_L_reads (24, [], [some (.ref (1)), some (.int (iI (((s : Nat) : Int)))), some (.ref (a)), some (.ref (b)), some (.int (iI (((i : Nat) : Int)))), some (.int (iI (((j : Nat) : Int))))], [], hB X m24 p24 K sh nn24, cc, ss) Qr := by
        refine loop_any (fun j hi24 ih24 => ?_)
        intro cc ss nn24 m24 p24
        intro hI
        obtain ⟨hF24, hC24, hA24⟩ := hI
        refine rw_blk lk_L_reads_24 ?_
        refine rw_of (fun rr hrr => q_iload rfl (q_aload_n rfl (q_bipush rfl (q_lald (j := 17) hb rfl (by omega) ((congrFun (hF24 b (by show ¬ (b = a); omega)) _).trans hn12) hrr)))) ?_
        refine rw_icmp_ge ⟨by omega, by omega⟩ ⟨by omega, by omega⟩ (t := 59) rfl (fun hc8 => ?_) (fun hc8 => ?_)
        · skip
          refine rw_blk lk_L_reads_59 ?_
          refine rw_of (fun rr hrr => q_aload_n rfl (q_iload rfl (q_aload_n rfl (q_iload_n rfl (q_iconst (q_iload rfl (q_iconst hrr))))))) ?_
          obtain ⟨_, mm9, pp9, hV9, rfl, hC9⟩ := w_at1 (S := (K, gB X sh nn24)) (d := d) (by omega) hC24 hsk (i := i) (j := -1) (by omega)
          refine rw_of (fun rr hrr => q_invV hV9 (show SH 1 = (17, 0) from rfl) rfl rfl (okar_cons rfl (okar_cons rfl (okar_cons rfl (okar_cons rfl okar_nil)))) (Nat.le_of_ble_eq_true rfl) (q_last (j := i) hb rfl (by omega) hrr)) ?_
          generalize hm10 : wI nn24 b i (vF (Sb m0 s i)) = e11
          refine rw_of (fun rr hrr => q_aload_n rfl (q_bipush rfl (q_iload rfl (q_iadd (q_aload_n rfl (q_iload_n rfl (q_iconst (q_bipush rfl (q_iload rfl hrr))))))))) ?_
          obtain ⟨_, mm13, pp13, hV13, rfl, hC13⟩ := w_at2 (S := (K, gB X sh e11)) (d := d) (by omega) hC9 hsk (i := 99) (j := i) (by omega)
          refine rw_of (fun rr hrr => q_invV hV13 (show SH 1 = (17, 0) from rfl) rfl rfl (okar_cons rfl (okar_cons rfl (okar_cons rfl (okar_cons rfl okar_nil)))) (Nat.le_of_ble_eq_true rfl) (q_last (j := 8 + i) hb (by omega) (by omega) hrr)) ?_
          generalize hm14 : wI e11 b (8 + i) (vF (Sc m0 s i)) = e15
          refine rw_of (fun rr hrr => q_iinc rfl rfl (q_goto (t := 12) rfl hrr)) ?_
          have hA16 : (∀ z, z < (i + 1) → ∀ c, c < N s → e15 a (8 * z + c) = vF (SA m0 s z c)) ∧ (∀ z, z < (i + 1) → e15 b z = vF (Sb m0 s z)) ∧ (∀ z, z < (i + 1) → e15 b (8 + z) = vF (Sc m0 s z)) ∧ e15 b 17 = ((N s : Nat) : Int) := by
            refine ⟨fun z hz c hc => ?_, fun z hz => ?_, fun z hz => ?_, ?_⟩
            · exact (congrFun (kN hm14 (by omega)) _).trans ((congrFun (kN hm10 (by omega)) _).trans (hA24 z c hc (by omega)))
            · rw [kB hm14 (by omega)]
              by_cases q : z = i
              · rw [q]
                exact kA hm10
              · exact (kB hm10 (by omega)).trans ((congrFun (hF24 b (by omega)) _).trans (hb12 z (by omega)))
            · by_cases q : z = i
              · rw [q]
                exact kA hm14
              · exact (kB hm14 (by omega)).trans ((kB hm10 (by omega)).trans ((congrFun (hF24 b (by omega)) _).trans (hc12 z (by omega))))
            · exact (kB hm14 (by omega)).trans ((kB hm10 (by omega)).trans ((congrFun (hF24 b (by omega)) _).trans hn12))
          exact rw_cast (ih12 (by omega) _ _ e15 mm13 pp13 (some (.int (iI (((j : Nat) : Int))))) ⟨(fun a9 h9 => ((kN hm14 (by omega)).trans ((kN hm10 (by omega)).trans ((hF24 a9 (by show ¬ (a9 = a); omega)).trans (hF12 a9 (by show ¬ (a9 = a ∨ a9 = b); omega)))))), hC13, hA16⟩) (lcons rfl (lcons rfl (lcons rfl (lcons rfl (lcons (lvI (by omega)) (lcons rfl rfl)))))) rfl
        · skip
          refine rw_of (fun rr hrr => q_aload_n rfl (q_bipush rfl (q_iload rfl (q_imul (q_iload rfl (q_iadd (q_aload_n rfl (q_iload_n rfl (q_iconst (q_iload rfl (q_iload rfl hrr))))))))))) ?_
          obtain ⟨_, mm17, pp17, hV17, rfl, hC17⟩ := w_at0 (S := (K, gB X sh nn24)) (d := d) (by omega) hC24 hsk (i := i) (j := j) (by omega) (by omega)
          refine rw_of (fun rr hrr => q_invV hV17 (show SH 1 = (17, 0) from rfl) rfl rfl (okar_cons rfl (okar_cons rfl (okar_cons rfl (okar_cons rfl okar_nil)))) (Nat.le_of_ble_eq_true rfl) (q_last (j := 8 * i + j) ha (by omega) (by omega) hrr)) ?_
          generalize hm18 : wI nn24 a (8 * i + j) (vF (SA m0 s i j)) = e19
          refine rw_of (fun rr hrr => q_iinc rfl rfl (q_goto (t := 24) rfl hrr)) ?_
          have hA20 : ∀ z c, c < N s → (z < i ∨ z = i ∧ c < (j + 1)) → e19 a (8 * z + c) = vF (SA m0 s z c) := by
            intro z c hc hz
            by_cases q : z = i ∧ c = j
            · rw [q.1, q.2]
              exact kA hm18
            · exact (kB hm18 (by omega)).trans (hA24 z c hc (by omega))
          exact rw_cast (ih24 (by omega) _ _ e19 mm17 pp17 ⟨(fun a9 h9 => ((kN hm18 (by omega)).trans (hF24 a9 (by show ¬ (a9 = a); omega)))), hC17, hA20⟩) (lcons rfl (lcons rfl (lcons rfl (lcons rfl (lcons rfl (lcons (lvI (by omega)) rfl)))))) rfl
      have hA21 : ∀ z c, c < N s → (z < i ∨ z = i ∧ c < 0) → nn12 a (8 * z + c) = vF (SA m0 s z c) := by
        exact fun z c hc hz => hA12 z (by omega) c hc
      exact rw_cast (hL24 0 (by omega) _ _ nn12 m12 p12 ⟨(fun _ _ => rfl), hC12, hA21⟩) (lcons rfl (lcons rfl (lcons rfl (lcons rfl (lcons rfl (lcons (lvI (by omega)) rfl)))))) rfl
  have hA22 : (∀ z, z < 0 → ∀ c, c < N s → e3 a (8 * z + c) = vF (SA m0 s z c)) ∧ (∀ z, z < 0 → e3 b z = vF (Sb m0 s z)) ∧ (∀ z, z < 0 → e3 b (8 + z) = vF (Sc m0 s z)) ∧ e3 b 17 = ((N s : Nat) : Int) := by
    exact ⟨fun z hz => absurd hz (Nat.not_lt_zero z), fun z hz => absurd hz (Nat.not_lt_zero z), fun z hz => absurd hz (Nat.not_lt_zero z), kA hm2⟩
  exact rw_cast (hL12 0 (by omega) _ _ e3 mm1 pp1 none ⟨(fun _ _ => rfl), hC1, hA22⟩) (lcons rfl (lcons rfl (lcons rfl (lcons rfl (lcons (lvI (by omega)) (lcons rfl rfl)))))) rfl
