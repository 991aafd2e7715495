theorem c_X10_outputOf {d : Nat} {S : MC} {fz : Bool} {m : M1} {p : M2} (hd : 2 ≤ d) (s n : Nat) (hP : PI p) (hm : m 262 s = nF n) (hn0 : 1 ≤ n) (hn : n ≤ 8) (hs12 : s ≤ 12) : Ct d k_X10_outputOf S fz [.ref (261), .int (iI (((s : Nat) : Int)))] m p (fun v m' p' => v = some (.int (iI (vF (dot n (fun z => m 265 (8 * s + z)) (m 272))))) ∧ m = m' ∧ p = p') := by
  obtain ⟨d, rfl⟩ : ∃ e, d = e + 1 := ⟨d - 1, by omega⟩
  refine ct_go (lv := [some (.ref (261)), some (.int (iI (((s : Nat) : Int)))), none, none]) (Nat.le_of_ble_eq_true rfl) (okar_cons rfl (okar_cons rfl okar_nil)) rfl (fun Qr hQ => ?_)
  refine rw_blk lk_X10_outputOf_0 ?_
  refine rw_of (fun rr hrr => q_iconst (q_istore_n (Nat.le_of_ble_eq_true rfl) rfl (q_iconst (q_istore_n (Nat.le_of_ble_eq_true rfl) rfl hrr)))) ?_
  have hL4 : ∀ j, j ≤ n → Rw (Ev d) k_X10_outputOf (4, [], [some (.ref (261)), some (.int (iI (((s : Nat) : Int)))), some (.int (iI (sI j (fun z => m 265 (8 * s + z) * m 272 z)))), some (.int (iI (((j : Nat) : Int))))], [], hpM S fz (m, p), 0, 0) Qr := by
    refine loop_any (fun j hi4 ih4 => ?_)
    refine rw_blk lk_X10_outputOf_4 ?_
    refine rw_of (fun rr hrr => q_iload_n rfl (q_aload_n rfl (q_getR (show SH 261 = (18, 0) from rfl) rfl (pt_261_1 hP) (q_iload_n rfl (q_iald (j := s) (show SH 262 = (1, 13) from rfl) rfl (by omega) (ki rfl hm (by omega)) hrr))))) ?_
    refine rw_icmp_ge ⟨by omega, by omega⟩ ⟨by omega, by omega⟩ (t := 43) rfl (fun hc1 => ?_) (fun hc1 => ?_)
    · skip
      refine rw_blk lk_X10_outputOf_43 ?_
      refine rw_of (fun rr hrr => q_iload_n rfl (q_sipush rfl (q_irem (sI_rg (by omega)) ⟨by omega, by omega⟩ (by omega) (by exact sI_rem _ _) hrr))) ?_
      exact rw_ret hQ (q_ireturn (Or.inl rfl)) (by exact ⟨lvI (congrArg vF (by rw [show n = j by omega]; rfl)), rfl, rfl⟩)
    · skip
      refine rw_of (fun rr hrr => q_iload_n rfl (q_aload_n rfl (q_getR (show SH 261 = (18, 0) from rfl) rfl (pt_261_4 hP) (q_bipush rfl (q_iload_n rfl (q_imul (q_iload_n rfl (q_iadd (q_iald (j := 8 * s + j) (show SH 265 = (1, 104) from rfl) (by omega) (by omega) rfl (q_aload_n rfl (q_getR (show SH 261 = (18, 0) from rfl) rfl (pt_261_13 hP) (q_iload_n rfl (q_iald (j := j) (show SH 272 = (1, 8) from rfl) rfl (by omega) rfl hrr))))))))))))) ?_
      obtain ⟨_, mm2, pp3, hV4, rfl, rfl, rfl⟩ := c_X10_times (S := S) (fz := fz) (m := m) (p := p) (d := d) (by omega) (m 265 (8 * s + j)) (m 272 j)
      refine rw_of (fun rr hrr => q_invS hV4 rfl rfl (okar_cons rfl (okar_cons rfl okar_nil)) (Nat.le_of_ble_eq_true rfl) (q_iadd (q_istore_n (Nat.le_of_ble_eq_true rfl) rfl (q_iinc rfl rfl (q_goto (t := 4) rfl hrr))))) ?_
      exact rw_cast (ih4 (by omega)) (lcons rfl (lcons rfl (lcons (lvI (by rfl)) (lcons (lvI (by omega)) rfl)))) rfl
  exact rw_cast (hL4 0 (by omega)) (lcons rfl (lcons rfl (lcons (lvI (by rfl)) (lcons (lvI (by omega)) rfl)))) rfl
theorem c_X10_typed {d : Nat} {S : MC} {fz : Bool} {m : M1} {p : M2} (hd : 1 ≤ d) (i ci : Nat) (hP : PI p) (hci : m 261 8 = nF ci) (hcl : ci ≤ 20) (hi : i ≤ 40) : Ct d k_X10_typed S fz [.ref (261), .int (iI (((i : Nat) : Int)))] m p (fun v m' p' => v = some (.int (iI (vF (uu (m 268) ci i)))) ∧ m = m' ∧ p = p') := by
  obtain ⟨d, rfl⟩ : ∃ e, d = e + 1 := ⟨d - 1, by omega⟩
  refine ct_go (lv := [some (.ref (261)), some (.int (iI (((i : Nat) : Int))))]) (Nat.le_of_ble_eq_true rfl) (okar_cons rfl (okar_cons rfl okar_nil)) rfl (fun Qr hQ => ?_)
  refine rw_blk lk_X10_typed_0 ?_
  refine rw_of (fun rr hrr => q_iload_n rfl (q_aload_n rfl (q_getI (show SH 261 = (18, 0) from rfl) rfl (ki rfl hci (by omega)) hrr))) ?_
  refine rw_icmp_ge ⟨by omega, by omega⟩ ⟨by omega, by omega⟩ (t := 17) rfl (fun hc1 => ?_) (fun hc1 => ?_)
  · skip
    refine rw_blk lk_X10_typed_17 ?_
    refine rw_of (fun rr hrr => q_iconst hrr) ?_
    refine rw_blk lk_X10_typed_18 ?_
    refine rw_ret hQ (q_ireturn (Or.inl rfl)) ?_
    first
      | exact ⟨lvI (congrArg vF (if_pos (by omega)).symm), rfl, rfl⟩
      | exact ⟨lvI (vF_0.symm.trans (congrArg vF (if_neg (by omega : ¬ i < ci)).symm)), rfl, rfl⟩
    
  · skip
    refine rw_of (fun rr hrr => q_aload_n rfl (q_getR (show SH 261 = (18, 0) from rfl) rfl (pt_261_9 hP) (q_iload_n rfl (q_iald (j := i) (show SH 268 = (1, 20) from rfl) rfl (by omega) rfl (q_goto (t := 18) rfl hrr))))) ?_
    refine rw_blk lk_X10_typed_18 ?_
    refine rw_ret hQ (q_ireturn (Or.inl rfl)) ?_
    first
      | exact ⟨lvI (congrArg vF (if_pos (by omega)).symm), rfl, rfl⟩
      | exact ⟨lvI (vF_0.symm.trans (congrArg vF (if_neg (by omega : ¬ i < ci)).symm)), rfl, rfl⟩
    
theorem c_X10_weight {d : Nat} {S : MC} {fz : Bool} {m : M1} {p : M2} (hd : 2 ≤ d) (s i j : Nat) (q : F) (hP : PI p) (hs : s ≤ 12) (hi : i < 8) (hj : j < 8) : Ct d k_X10_weight S fz [.ref (261), .int (iI (((s : Nat) : Int))), .int (iI (vF (q))), .int (iI (((i : Nat) : Int))), .int (iI (((j : Nat) : Int)))] m p (fun v m' p' => v = some (.int (iI (vF (rq q (fun z => m 265 (8 * s + z)) i j)))) ∧ m = m' ∧ p = p') := by
  obtain ⟨d, rfl⟩ : ∃ e, d = e + 1 := ⟨d - 1, by omega⟩
  refine ct_go (lv := [some (.ref (261)), some (.int (iI (((s : Nat) : Int)))), some (.int (iI (vF (q)))), some (.int (iI (((i : Nat) : Int)))), some (.int (iI (((j : Nat) : Int))))]) (Nat.le_of_ble_eq_true rfl) (okar_cons rfl (okar_cons rfl (okar_cons rfl (okar_cons rfl (okar_cons rfl okar_nil))))) rfl (fun Qr hQ => ?_)
  refine rw_blk lk_X10_weight_0 ?_
  refine rw_of (fun rr hrr => q_iload_n rfl (q_aload_n rfl (q_getR (show SH 261 = (18, 0) from rfl) rfl (pt_261_4 hP) (q_bipush rfl (q_iload_n rfl (q_imul (q_iload_n rfl (q_iadd (q_iald (j := 8 * s + i) (show SH 265 = (1, 104) from rfl) (by omega) (by omega) rfl (q_aload_n rfl (q_getR (show SH 261 = (18, 0) from rfl) rfl (pt_261_4 hP) (q_bipush rfl (q_iload_n rfl (q_imul (q_iload rfl (q_iadd (q_iald (j := 8 * s + j) (show SH 265 = (1, 104) from rfl) (by omega) (by omega) rfl hrr))))))))))))))))) ?_
  obtain ⟨_, mm1, pp2, hV3, rfl, rfl, rfl⟩ := c_X10_times (S := S) (fz := fz) (m := m) (p := p) (d := d) (by omega) (m 265 (8 * s + i)) (m 265 (8 * s + j))
  refine rw_of (fun rr hrr => q_invS hV3 rfl rfl (okar_cons rfl (okar_cons rfl okar_nil)) (Nat.le_of_ble_eq_true rfl) hrr) ?_
  obtain ⟨_, mm4, pp5, hV6, rfl, rfl, rfl⟩ := c_X10_times (S := S) (fz := fz) (m := m) (p := p) (d := d) (by omega) (q) ((m 265 (8 * s + i)) * (m 265 (8 * s + j)))
  refine rw_of (fun rr hrr => q_invS hV6 rfl rfl (okar_cons rfl (okar_cons rfl okar_nil)) (Nat.le_of_ble_eq_true rfl) hrr) ?_
  exact rw_ret hQ (q_ireturn (Or.inl rfl)) (by exact ⟨rfl, rfl, rfl⟩)
theorem c_X10_numberOf {d : Nat} {S : MC} {fz : Bool} {m : M1} {p : M2} (hd : 3 ≤ d) (s n l : Nat) (hP : PI p) (hm : m 262 s = nF n) (hn0 : 1 ≤ n) (hn : n ≤ 8) (hs12 : s ≤ 12) (hl : l ≤ 40) : Ct d k_X10_numberOf S fz [.ref (261), .int (iI (((s : Nat) : Int))), .int (iI (((l : Nat) : Int)))] m p (fun v m' p' => v = some (.int (iI (vF ((hs n (fun z w => m 263 (64 * s + 8 * z + w)) (fun z => m 264 (8 * s + z)) (fun z => m 265 (8 * s + z)) (m 266 s)) l)))) ∧ p = p' ∧ Fr (fun a_ => a_ = 272 ∨ a_ = 273) m m') := by
  obtain ⟨d, rfl⟩ : ∃ e, d = e + 1 := ⟨d - 1, by omega⟩
  refine ct_go (lv := [some (.ref (261)), some (.int (iI (((s : Nat) : Int)))), some (.int (iI (((l : Nat) : Int)))), none]) (Nat.le_of_ble_eq_true rfl) (okar_cons rfl (okar_cons rfl (okar_cons rfl okar_nil))) rfl (fun Qr hQ => ?_)
  refine rw_blk lk_X10_numberOf_0 ?_
  refine rw_of (fun rr hrr => q_iload_n rfl hrr) ?_
  refine rw_if_ne ⟨by omega, by omega⟩ (t := 11) rfl (fun hc1 => ?_) (fun hc1 => ?_)
  · skip
    refine rw_blk lk_X10_numberOf_11 ?_
    refine rw_of (fun rr hrr => q_iconst (q_istore_n (Nat.le_of_ble_eq_true rfl) rfl hrr)) ?_
    have hL13 : ∀ i, i ≤ n → ∀ (m1 : M1), (Fr (fun a_ => a_ = 272) m m1 ∧ ∀ j, m1 272 j = if j < i then m 264 (8 * s + j) else m 272 j) → Rw (Ev d) k_X10_numberOf (13, [], [some (.ref (261)), some (.int (iI (((s : Nat) : Int)))), some (.int (iI (((l : Nat) : Int)))), some (.int (iI (((i : Nat) : Int))))], [], hpM S fz (m1, p), 0, 0) Qr := by
      refine loop_any (fun i hi13 ih13 => ?_)
      intro m1
      intro hI13
      obtain ⟨hF13, hv13⟩ := hI13
      refine rw_blk lk_X10_numberOf_13 ?_
      refine rw_of (fun rr hrr => q_iload_n rfl (q_aload_n rfl (q_getR (show SH 261 = (18, 0) from rfl) rfl (pt_261_1 hP) (q_iload_n rfl (q_iald (j := s) (show SH 262 = (1, 13) from rfl) rfl (by omega) (ki (hF13 262 (by show ¬ (262 = 272); omega)) hm (by omega)) hrr))))) ?_
      refine rw_icmp_ge ⟨by omega, by omega⟩ ⟨by omega, by omega⟩ (t := 46) rfl (fun hc2 => ?_) (fun hc2 => ?_)
      · skip
        refine rw_blk lk_X10_numberOf_46 ?_
        refine rw_of (fun rr hrr => q_iconst (q_istore_n (Nat.le_of_ble_eq_true rfl) rfl hrr)) ?_
        have hL48 : ∀ k, k ≤ l - 1 → ∀ (m2 : M1), (Fr (fun a_ => a_ = 272 ∨ a_ = 273) m m2 ∧ ∀ z, z < n → m2 272 z = kr n (fun z w => m 263 (64 * s + 8 * z + w)) (fun z => m 264 (8 * s + z)) k z) → Rw (Ev d) k_X10_numberOf (48, [], [some (.ref (261)), some (.int (iI (((s : Nat) : Int)))), some (.int (iI (((l : Nat) : Int)))), some (.int (iI (((k + 1 : Nat) : Int))))], [], hpM S fz (m2, p), 0, 0) Qr := by
          refine loop_any (fun k hi48 ih48 => ?_)
          intro m2
          intro hI48
          obtain ⟨hF, hV⟩ := hI48
          refine rw_blk lk_X10_numberOf_48 ?_
          refine rw_of (fun rr hrr => q_iload_n rfl (q_iload_n rfl hrr)) ?_
          refine rw_icmp_ge ⟨by omega, by omega⟩ ⟨by omega, by omega⟩ (t := 65) rfl (fun hc3 => ?_) (fun hc3 => ?_)
          · skip
            refine rw_blk lk_X10_numberOf_65 ?_
            refine rw_of (fun rr hrr => q_aload_n rfl (q_iload_n rfl hrr)) ?_
            obtain ⟨_, mm4, pp5, hV6, rfl, rfl, rfl⟩ := c_X10_outputOf (S := S) (fz := fz) (m := m2) (p := p) (d := d) (by omega) (s) (n) hP ((congrFun (hF 262 (by show ¬ (262 = 272 ∨ 262 = 273); omega)) s).trans hm) (by omega) (by omega) (by omega)
            refine rw_of (fun rr hrr => q_invV hV6 (show SH 261 = (18, 0) from rfl) rfl rfl (okar_cons rfl okar_nil) (Nat.le_of_ble_eq_true rfl) hrr) ?_
            refine rw_ret hQ (q_ireturn (Or.inl rfl)) ?_
            
            first
              | exact ⟨lvI (congrArg vF ((if_pos (by omega)).symm)), rfl, Fr_rfl⟩
              | (refine ⟨lvI (congrArg vF ?_), rfl, hF⟩
                 unfold hs
                 rw [if_neg (by omega), hF 265 (by omega), show l - 1 = k by omega]
                 exact dot_congr (fun _ _ => rfl) (fun c hc => hV c hc))
            
          · skip
            refine rw_of (fun rr hrr => q_aload_n rfl (q_iload_n rfl (q_iconst hrr))) ?_
            obtain ⟨_, mm7, pp8, hV9, rfl, rfl, hF9, hv9⟩ := c_X10_goes0 (S := S) (fz := fz) (m := m2) (p := p) (d := d) (by omega) (s) (n) hP ((congrFun (hF 262 (by show ¬ (262 = 272 ∨ 262 = 273); omega)) s).trans hm) (by omega) (by omega) (by omega)
            refine rw_of (fun rr hrr => q_invV hV9 (show SH 261 = (18, 0) from rfl) rfl rfl (okar_cons rfl (okar_cons rfl okar_nil)) (Nat.le_of_ble_eq_true rfl) (q_iinc rfl rfl (q_goto (t := 48) rfl hrr))) ?_
            have hA10 : Fr (fun a_ => a_ = 272 ∨ a_ = 273) m mm7 ∧ ∀ z, z < n → mm7 272 z = kr n (fun z w => m 263 (64 * s + 8 * z + w)) (fun z => m 264 (8 * s + z)) (k + 1) z := by
              refine ⟨Fr_trans hF hF9, fun z hz => ?_⟩
              rw [hv9 z hz, hF 263 (by omega)]
              exact dot_congr (fun _ _ => rfl) (fun c hc => hV c hc)
            exact rw_cast (ih48 (by omega) mm7 hA10) (lcons rfl (lcons rfl (lcons rfl (lcons (lvI (by omega)) rfl)))) rfl
        have hA11 : Fr (fun a_ => a_ = 272 ∨ a_ = 273) m m1 ∧ ∀ z, z < n → m1 272 z = kr n (fun z w => m 263 (64 * s + 8 * z + w)) (fun z => m 264 (8 * s + z)) 0 z := by
          have e9 : n = i := (by omega)
          subst e9
          refine ⟨Fr_mono hF13 (fun a ha => by omega), fun z hz => ?_⟩
          rw [hv13 z, if_pos hz]
          rfl
        exact rw_cast (hL48 0 (by omega) m1 hA11) (lcons rfl (lcons rfl (lcons rfl (lcons (lvI (by omega)) rfl)))) rfl
      · skip
        refine rw_of (fun rr hrr => q_aload_n rfl (q_getR (show SH 261 = (18, 0) from rfl) rfl (pt_261_13 hP) (q_iload_n rfl (q_aload_n rfl (q_getR (show SH 261 = (18, 0) from rfl) rfl (pt_261_3 hP) (q_bipush rfl (q_iload_n rfl (q_imul (q_iload_n rfl (q_iadd (q_iald (j := 8 * s + i) (show SH 264 = (1, 104) from rfl) (by omega) (by omega) rfl (q_iast (j := i) (xx := m1 264 (8 * s + i)) (show SH 272 = (1, 8) from rfl) rfl (by omega) rfl hrr)))))))))))) ?_
        generalize hm13 : w1 m1 272 i (m1 264 (8 * s + i)) = mm12
        refine rw_of (fun rr hrr => q_iinc rfl rfl (q_goto (t := 13) rfl hrr)) ?_
        exact rw_cast (ih13 (by omega) mm12 (by exact ⟨fr_w hm13 hF13 rfl, fill_w hm13 hv13 (by rw [hF13 264 (by omega)])⟩)) (lcons rfl (lcons rfl (lcons rfl (lcons (lvI (by omega)) rfl)))) rfl
    exact rw_cast (hL13 0 (by omega) m (by exact ⟨Fr_rfl, fun j => (if_neg (Nat.not_lt_zero j)).symm⟩)) (lcons rfl (lcons rfl (lcons rfl (lcons (lvI (by omega)) rfl)))) rfl
  · skip
    refine rw_of (fun rr hrr => q_aload_n rfl (q_getR (show SH 261 = (18, 0) from rfl) rfl (pt_261_5 hP) (q_iload_n rfl (q_iald (j := s) (show SH 266 = (1, 13) from rfl) rfl (by omega) rfl hrr)))) ?_
    refine rw_ret hQ (q_ireturn (Or.inl rfl)) ?_
    
    first
      | exact ⟨lvI (congrArg vF ((if_pos (by omega)).symm)), rfl, Fr_rfl⟩
      | (refine ⟨lvI (congrArg vF ?_), rfl, hF⟩
         unfold hs
         rw [if_neg (by omega), hF 265 (by omega), show l - 1 = k by omega]
         exact dot_congr (fun _ _ => rfl) (fun c hc => hV c hc))
    
