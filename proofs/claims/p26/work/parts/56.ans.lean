theorem c_X0_findNumbers {d : Nat} {S : Env} {fz : Bool} {m : M1} {p : M2} (hd : 4 ≤ d) (n t l : Nat) (hP : PI p) (ht : IsPl t) (hn0 : 1 ≤ n) (hn : n ≤ 8) (hm : m t 0 = nF n) (hl : l ≤ 40) : Ct d k_X0_findNumbers S fz [.ref (59), .ref (t), .int (iI (((l : Nat) : Int)))] m p (fun v m' p' => v = none ∧ p = p' ∧ Fr (fun a_ => 60 ≤ a_ ∧ a_ ≤ 62) m m' ∧ ∀ k, k ≤ l → m' 60 k = (hs n (fun z => m (t + 2 + z)) (m (t + 10)) (m (t + 11)) (m t 4)) k) := by
  obtain ⟨d, rfl⟩ : ∃ e, d = e + 1 := ⟨d - 1, by omega⟩
  refine ct_go (lv := [some (.ref (59)), some (.ref (t)), some (.int (iI (((l : Nat) : Int)))), none, none]) (Nat.le_of_ble_eq_true rfl) (okar_cons rfl (okar_cons rfl (okar_cons rfl okar_nil))) rfl (fun Qr hQ => ?_)
  have ht' := IsPl_b ht
  refine rw_blk lk_X0_findNumbers_0 ?_
  refine rw_of (fun rr hrr => q_aload_n rfl (q_getI (PI_pl hP ht).1 rfl (ki rfl hm (by omega)) (q_istore_n (Nat.le_of_ble_eq_true rfl) rfl (q_aload_n rfl (q_getR (show SH 59 = (10, 0) from rfl) rfl (pt_59_0 hP) (q_iconst (q_aload_n rfl (q_getI (PI_pl hP ht).1 rfl rfl (q_iast (j := 0) (xx := m t 4) (show SH 60 = (1, 41) from rfl) rfl (by omega) rfl hrr))))))))) ?_
  generalize hm2 : w1 m 60 0 (m t 4) = mm1
  refine rw_of (fun rr hrr => q_iload_n rfl (q_aload_n rfl (q_getR (PI_pl hP ht).1 rfl (PI_pl hP ht).2.2.1 (q_aload_n rfl (q_getR (show SH 59 = (10, 0) from rfl) rfl (pt_59_1 hP) hrr))))) ?_
  obtain ⟨_, mm3, pp4, hV5, rfl, rfl, hF5, hv5⟩ := c_X6_copy (S := S) (fz := fz) (m := mm1) (p := p) (d := d) (by omega) (n) (t + 10) (61) (by omega) ((PI_pl hP ht).2.2.2.2.1) ((show SH 61 = (1, 8) from rfl)) (by omega) (by omega) (by omega)
  refine rw_of (fun rr hrr => q_invS hV5 rfl rfl (okar_cons rfl (okar_cons rfl (okar_cons rfl okar_nil))) (Nat.le_of_ble_eq_true rfl) (q_iconst (q_istore (Nat.le_of_ble_eq_true rfl) rfl hrr))) ?_
  have hL30 : ∀ i, i ≤ l → ∀ (m1 : M1), (Fr (fun a_ => 60 ≤ a_ ∧ a_ ≤ 62) m m1 ∧ (∀ k, k ≤ i → m1 60 k = (hs n (fun z => m (t + 2 + z)) (m (t + 10)) (m (t + 11)) (m t 4)) k) ∧ ∀ r, r < n → m1 61 r = (kr n (fun z => m (t + 2 + z)) (m (t + 10))) i r) → Rw (Ev d) k_X0_findNumbers (30, [], [some (.ref (59)), some (.ref (t)), some (.int (iI (((l : Nat) : Int)))), some (.int (iI (((n : Nat) : Int)))), some (.int (iI (((i + 1 : Nat) : Int))))], [], hpM S fz (m1, p), 0, 0) Qr := by
    refine loop_any (fun i hi30 ih30 => ?_)
    intro m1
    intro hI30
    obtain ⟨hF, hH, hS⟩ := hI30
    refine rw_blk lk_X0_findNumbers_30 ?_
    refine rw_of (fun rr hrr => q_iload rfl (q_iload_n rfl hrr)) ?_
    refine rw_icmp_gt ⟨by omega, by omega⟩ ⟨by omega, by omega⟩ (t := 89) rfl (fun hc6 => ?_) (fun hc6 => ?_)
    · skip
      refine rw_blk lk_X0_findNumbers_89 ?_
      refine rw_ret hQ (q_return) ?_
      have e9 : l = i := (by omega)
      subst e9
      exact ⟨rfl, rfl, hF, hH⟩
      
    · skip
      refine rw_of (fun rr hrr => q_aload_n rfl (q_getR (show SH 59 = (10, 0) from rfl) rfl (pt_59_0 hP) (q_iload rfl (q_iload_n rfl (q_aload_n rfl (q_getR (PI_pl hP ht).1 rfl (PI_pl hP ht).2.2.2.1 (q_aload_n rfl (q_getR (show SH 59 = (10, 0) from rfl) rfl (pt_59_1 hP) hrr)))))))) ?_
      obtain ⟨_, mm7, pp8, hV9, rfl, rfl, rfl⟩ := c_X6_product (S := S) (fz := fz) (m := m1) (p := p) (d := d) (by omega) (n) (t + 11) (61) (by omega) ((PI_pl hP ht).2.2.2.2.2.1) ((show SH 61 = (1, 8) from rfl)) (by omega) (by omega)
      refine rw_of (fun rr hrr => q_invS hV9 rfl rfl (okar_cons rfl (okar_cons rfl (okar_cons rfl okar_nil))) (Nat.le_of_ble_eq_true rfl) (q_iast (j := i + 1) (xx := dot n (m1 (t + 11)) (m1 61)) (show SH 60 = (1, 41) from rfl) (by omega) (by omega) rfl hrr)) ?_
      generalize hm11 : w1 m1 60 (i + 1) (dot n (m1 (t + 11)) (m1 61)) = mm10
      refine rw_of (fun rr hrr => q_iload_n rfl (q_aload_n rfl (q_getR (PI_pl hP ht).1 rfl (PI_pl hP ht).2.1 (q_aload_n rfl (q_getR (show SH 59 = (10, 0) from rfl) rfl (pt_59_1 hP) (q_aload_n rfl (q_getR (show SH 59 = (10, 0) from rfl) rfl (pt_59_2 hP) hrr))))))) ?_
      obtain ⟨_, mm12, pp13, hV14, rfl, rfl, hF14, hv14⟩ := c_X6_squareByColumn (S := S) (fz := fz) (m := mm10) (p := p) (d := d) (by omega) (n) (t + 1) (61) (62) (fun i => t + 2 + i) (by omega) (PI_pl hP ht).2.2.2.2.2.2 ((show SH 61 = (1, 8) from rfl)) ((show SH 62 = (1, 8) from rfl)) (by omega) (by omega) (by omega) (fun k hk => by omega)
      refine rw_of (fun rr hrr => q_invS hV14 rfl rfl (okar_cons rfl (okar_cons rfl (okar_cons rfl (okar_cons rfl okar_nil)))) (Nat.le_of_ble_eq_true rfl) (q_iload_n rfl (q_aload_n rfl (q_getR (show SH 59 = (10, 0) from rfl) rfl (pt_59_2 hP) (q_aload_n rfl (q_getR (show SH 59 = (10, 0) from rfl) rfl (pt_59_1 hP) hrr)))))) ?_
      obtain ⟨_, mm15, pp16, hV17, rfl, rfl, hF17, hv17⟩ := c_X6_copy (S := S) (fz := fz) (m := mm12) (p := p) (d := d) (by omega) (n) (62) (61) (by omega) ((show SH 62 = (1, 8) from rfl)) ((show SH 61 = (1, 8) from rfl)) (by omega) (by omega) (by omega)
      refine rw_of (fun rr hrr => q_invS hV17 rfl rfl (okar_cons rfl (okar_cons rfl (okar_cons rfl okar_nil))) (Nat.le_of_ble_eq_true rfl) (q_iinc rfl rfl (q_goto (t := 30) rfl hrr))) ?_
      have hA18 : Fr (fun a_ => 60 ≤ a_ ∧ a_ ≤ 62) m mm15 ∧ (∀ k, k ≤ (i + 1) → mm15 60 k = (hs n (fun z => m (t + 2 + z)) (m (t + 10)) (m (t + 11)) (m t 4)) k) ∧ ∀ r, r < n → mm15 61 r = (kr n (fun z => m (t + 2 + z)) (m (t + 10))) (i + 1) r := by
        have hA : ∀ r, r < n → mm10 (t + 2 + r) = m (t + 2 + r) := fun r hr => by rw [← hm11, w1_a (by omega), hF _ (by omega)]
        refine ⟨Fr_trans hF (Fr_trans (fr_w hm11 Fr_rfl (by omega)) (Fr_trans (Fr_mono hF14 (fun a ha => by omega)) (Fr_mono hF17 (fun a ha => by omega)))), fun k hk => ?_, fun r hr => ?_⟩
        · rw [hF17 60 (by omega), hF14 60 (by omega), ← hm11]
          by_cases q : k = i + 1
          · rw [q, w1_at, hF (t + 11) (by omega)]
            exact dot_congr (fun _ _ => rfl) (fun c hc => hS c hc)
          · rw [w1_ne (fun z => q z.2)]
            exact hH k (by omega)
        · rw [hv17, if_pos hr, hv14, if_pos hr, hA r hr, ← hm11, w1_a (by omega)]
          exact dot_congr (fun _ _ => rfl) (fun c hc => hS c hc)
      exact rw_cast (ih30 (by omega) mm15 hA18) (lcons rfl (lcons rfl (lcons rfl (lcons rfl (lcons (lvI (by omega)) rfl))))) rfl
  have hA19 : Fr (fun a_ => 60 ≤ a_ ∧ a_ ≤ 62) m mm3 ∧ (∀ k, k ≤ 0 → mm3 60 k = (hs n (fun z => m (t + 2 + z)) (m (t + 10)) (m (t + 11)) (m t 4)) k) ∧ ∀ r, r < n → mm3 61 r = (kr n (fun z => m (t + 2 + z)) (m (t + 10))) 0 r := by
    refine ⟨Fr_trans (fr_w hm2 Fr_rfl (by omega)) (Fr_mono hF5 (fun a ha => by omega)), fun k hk => ?_, fun r hr => ?_⟩
    · have e : k = 0 := (by omega)
      rw [e, hF5 60 (by omega), ← hm2, w1_at]
      rfl
    · rw [hv5, if_pos hr, ← hm2, w1_a (by omega)]
      rfl
  exact rw_cast (hL30 0 (by omega) mm3 hA19) (lcons rfl (lcons rfl (lcons rfl (lcons rfl (lcons (lvI (by omega)) rfl))))) rfl
theorem c_X0_inputAt {d : Nat} {S : Env} {fz : Bool} {m : M1} {p : M2} (hd : 1 ≤ d) (i ci : Nat) (hP : PI p) (hci : m 5 1 = nF ci) (hcl : ci ≤ 20) (hi : i ≤ 40) : Ct d k_X0_inputAt S fz [.ref (5), .int (iI (((i : Nat) : Int)))] m p (fun v m' p' => v = some (.int (iI (vF (uu (m 6) ci i)))) ∧ m = m' ∧ p = p') := by
  obtain ⟨d, rfl⟩ : ∃ e, d = e + 1 := ⟨d - 1, by omega⟩
  refine ct_go (lv := [some (.ref (5)), some (.int (iI (((i : Nat) : Int))))]) (Nat.le_of_ble_eq_true rfl) (okar_cons rfl (okar_cons rfl okar_nil)) rfl (fun Qr hQ => ?_)
  refine rw_blk lk_X0_inputAt_0 ?_
  refine rw_of (fun rr hrr => q_iload_n rfl (q_aload_n rfl (q_getI (show SH 5 = (16, 0) from rfl) rfl (ki rfl hci (by omega)) hrr))) ?_
  refine rw_icmp_ge ⟨by omega, by omega⟩ ⟨by omega, by omega⟩ (t := 17) rfl (fun hc1 => ?_) (fun hc1 => ?_)
  · skip
    refine rw_blk lk_X0_inputAt_17 ?_
    refine rw_of (fun rr hrr => q_iconst hrr) ?_
    refine rw_blk lk_X0_inputAt_18 ?_
    refine rw_ret hQ (q_ireturn (Or.inl rfl)) ?_
    first
      | exact ⟨lvI (congrArg vF (if_pos (by omega)).symm), rfl, rfl⟩
      | exact ⟨lvI (vF_0.symm.trans (congrArg vF (if_neg (by omega : ¬ i < ci)).symm)), rfl, rfl⟩
    
  · skip
    refine rw_of (fun rr hrr => q_aload_n rfl (q_getR (show SH 5 = (16, 0) from rfl) rfl (pt_5_0 hP) (q_iload_n rfl (q_iald (j := i) (show SH 6 = (1, 20) from rfl) rfl (by omega) rfl (q_goto (t := 18) rfl hrr))))) ?_
    refine rw_blk lk_X0_inputAt_18 ?_
    refine rw_ret hQ (q_ireturn (Or.inl rfl)) ?_
    first
      | exact ⟨lvI (congrArg vF (if_pos (by omega)).symm), rfl, rfl⟩
      | exact ⟨lvI (vF_0.symm.trans (congrArg vF (if_neg (by omega : ¬ i < ci)).symm)), rfl, rfl⟩
    
theorem c_X0_byState {d : Nat} {S : Env} {fz : Bool} {m : M1} {p : M2} (hd : 4 ≤ d) (n t l ci : Nat) (hP : PI p) (ht : IsPl t) (hn0 : 1 ≤ n) (hn : n ≤ 8) (hm : m t 0 = nF n) (hci : m 5 1 = nF ci) (hcl : ci ≤ 20) (hl : l ≤ 40) : Ct d k_X0_byState S fz [.ref (59), .ref (t), .ref (5), .int (iI (((l : Nat) : Int)))] m p (fun v m' p' => v = some (.int (iI (vF (dot n (m (t + 11)) ((xs n (fun z => m (t + 2 + z)) (m (t + 10)) (uu (m 6) ci)) l) + m t 4 * (uu (m 6) ci) l)))) ∧ p = p' ∧ Fr (fun a_ => 60 ≤ a_ ∧ a_ ≤ 62) m m') := by
  obtain ⟨d, rfl⟩ : ∃ e, d = e + 1 := ⟨d - 1, by omega⟩
  refine ct_go (lv := [some (.ref (59)), some (.ref (t)), some (.ref (5)), some (.int (iI (((l : Nat) : Int)))), none, none, none, none]) (Nat.le_of_ble_eq_true rfl) (okar_cons rfl (okar_cons rfl (okar_cons rfl (okar_cons rfl okar_nil)))) rfl (fun Qr hQ => ?_)
  have ht' := IsPl_b ht
  refine rw_blk lk_X0_byState_0 ?_
  refine rw_of (fun rr hrr => q_aload_n rfl (q_getI (PI_pl hP ht).1 rfl (ki rfl hm (by omega)) (q_istore (Nat.le_of_ble_eq_true rfl) rfl (q_iload rfl (q_aload_n rfl (q_getR (show SH 59 = (10, 0) from rfl) rfl (pt_59_1 hP) (q_iconst hrr))))))) ?_
  obtain ⟨_, mm1, pp2, hV3, rfl, rfl, hF3, hv3⟩ := c_X6_fill (S := S) (fz := fz) (m := m) (p := p) (d := d) (by omega) (n) (61) ((0 : F)) (by omega) ((show SH 61 = (1, 8) from rfl)) (by omega)
  refine rw_of (fun rr hrr => q_invS hV3 rfl rfl (okar_cons rfl (okar_cons rfl (okar_cons rfl okar_nil))) (Nat.le_of_ble_eq_true rfl) (q_iconst (q_istore (Nat.le_of_ble_eq_true rfl) rfl hrr))) ?_
  have hL19 : ∀ i, i ≤ l → ∀ (m1 : M1) (x19_6 : Option Value) (x19_7 : Option Value), (Fr (fun a_ => 60 ≤ a_ ∧ a_ ≤ 62) m m1 ∧ ∀ r, r < n → m1 61 r = (xs n (fun z => m (t + 2 + z)) (m (t + 10)) (uu (m 6) ci)) i r) → Rw (Ev d) k_X0_byState (19, [], [some (.ref (59)), some (.ref (t)), some (.ref (5)), some (.int (iI (((l : Nat) : Int)))), some (.int (iI (((n : Nat) : Int)))), some (.int (iI (((i : Nat) : Int)))), x19_6, x19_7], [], hpM S fz (m1, p), 0, 0) Qr := by
    refine loop_any (fun i hi19 ih19 => ?_)
    intro m1 x19_6 x19_7
    intro hI19
    obtain ⟨hF, hS⟩ := hI19
    refine rw_blk lk_X0_byState_19 ?_
    refine rw_of (fun rr hrr => q_iload rfl (q_iload_n rfl hrr)) ?_
    refine rw_icmp_ge ⟨by omega, by omega⟩ ⟨by omega, by omega⟩ (t := 101) rfl (fun hc4 => ?_) (fun hc4 => ?_)
    · skip
      refine rw_blk lk_X0_byState_101 ?_
      refine rw_of (fun rr hrr => q_aload_n rfl (q_getI (PI_pl hP ht).1 rfl rfl (q_aload_n rfl (q_iload_n rfl hrr)))) ?_
      obtain ⟨_, mm5, pp6, hV7, rfl, rfl, rfl⟩ := c_X0_inputAt (S := S) (fz := fz) (m := m1) (p := p) (d := d) (by omega) (l) (ci) hP ((congrFun (hF 5 (by show ¬ (60 ≤ 5 ∧ 5 ≤ 62); omega)) 1).trans hci) (by omega) (by omega)
      refine rw_of (fun rr hrr => q_invS hV7 rfl rfl (okar_cons rfl (okar_cons rfl okar_nil)) (Nat.le_of_ble_eq_true rfl) hrr) ?_
      obtain ⟨_, mm8, pp9, hV10, rfl, rfl, rfl⟩ := c_X2_times (S := S) (fz := fz) (m := m1) (p := p) (d := d) (by omega) (m1 t 4) (uu (m1 6) ci l)
      refine rw_of (fun rr hrr => q_invS hV10 rfl rfl (okar_cons rfl (okar_cons rfl okar_nil)) (Nat.le_of_ble_eq_true rfl) (q_istore (Nat.le_of_ble_eq_true rfl) rfl (q_iload rfl (q_aload_n rfl (q_getR (PI_pl hP ht).1 rfl (PI_pl hP ht).2.2.2.1 (q_aload_n rfl (q_getR (show SH 59 = (10, 0) from rfl) rfl (pt_59_1 hP) hrr))))))) ?_
      obtain ⟨_, mm11, pp12, hV13, rfl, rfl, rfl⟩ := c_X6_product (S := S) (fz := fz) (m := m1) (p := p) (d := d) (by omega) (n) (t + 11) (61) (by omega) ((PI_pl hP ht).2.2.2.2.2.1) ((show SH 61 = (1, 8) from rfl)) (by omega) (by omega)
      refine rw_of (fun rr hrr => q_invS hV13 rfl rfl (okar_cons rfl (okar_cons rfl (okar_cons rfl okar_nil))) (Nat.le_of_ble_eq_true rfl) (q_iload rfl hrr)) ?_
      obtain ⟨_, mm14, pp15, hV16, rfl, rfl, rfl⟩ := c_X2_plus (S := S) (fz := fz) (m := m1) (p := p) (d := d) (by omega) (dot n (m1 (t + 11)) (m1 61)) ((m1 t 4) * (uu (m1 6) ci l))
      refine rw_of (fun rr hrr => q_invS hV16 rfl rfl (okar_cons rfl (okar_cons rfl okar_nil)) (Nat.le_of_ble_eq_true rfl) hrr) ?_
      refine rw_ret hQ (q_ireturn (Or.inl rfl)) ?_
      have e9 : l = i := (by omega)
      subst e9
      refine ⟨lvI (congrArg vF ?_), rfl, hF⟩
      rw [hF (t + 11) (by omega), hF t (by omega), hF 6 (by omega), dot_congr (fun _ _ => rfl) (fun c hc => hS c hc)]
      
    · skip
      refine rw_of (fun rr hrr => q_aload_n rfl (q_iload rfl hrr)) ?_
      obtain ⟨_, mm17, pp18, hV19, rfl, rfl, rfl⟩ := c_X0_inputAt (S := S) (fz := fz) (m := m1) (p := p) (d := d) (by omega) (i) (ci) hP ((congrFun (hF 5 (by show ¬ (60 ≤ 5 ∧ 5 ≤ 62); omega)) 1).trans hci) (by omega) (by omega)
      refine rw_of (fun rr hrr => q_invS hV19 rfl rfl (okar_cons rfl (okar_cons rfl okar_nil)) (Nat.le_of_ble_eq_true rfl) (q_istore (Nat.le_of_ble_eq_true rfl) rfl (q_iload rfl (q_aload_n rfl (q_getR (PI_pl hP ht).1 rfl (PI_pl hP ht).2.1 (q_aload_n rfl (q_getR (show SH 59 = (10, 0) from rfl) rfl (pt_59_1 hP) (q_aload_n rfl (q_getR (show SH 59 = (10, 0) from rfl) rfl (pt_59_2 hP) hrr))))))))) ?_
      obtain ⟨_, mm20, pp21, hV22, rfl, rfl, hF22, hv22⟩ := c_X6_squareByColumn (S := S) (fz := fz) (m := m1) (p := p) (d := d) (by omega) (n) (t + 1) (61) (62) (fun i => t + 2 + i) (by omega) (PI_pl hP ht).2.2.2.2.2.2 ((show SH 61 = (1, 8) from rfl)) ((show SH 62 = (1, 8) from rfl)) (by omega) (by omega) (by omega) (fun k hk => by omega)
      refine rw_of (fun rr hrr => q_invS hV22 rfl rfl (okar_cons rfl (okar_cons rfl (okar_cons rfl (okar_cons rfl okar_nil)))) (Nat.le_of_ble_eq_true rfl) (q_iconst (q_istore (Nat.le_of_ble_eq_true rfl) rfl hrr))) ?_
      have hL53 : ∀ k, k ≤ n → ∀ (m2 : M1), (Fr (fun a_ => a_ = 61) mm20 m2 ∧ ∀ j, m2 61 j = if j < k then mm20 62 j + mm20 (t + 10) j * uu (m1 6) ci i else mm20 61 j) → Rw (Ev d) k_X0_byState (53, [], [some (.ref (59)), some (.ref (t)), some (.ref (5)), some (.int (iI (((l : Nat) : Int)))), some (.int (iI (((n : Nat) : Int)))), some (.int (iI (((i : Nat) : Int)))), some (.int (iI (vF (uu (m1 6) ci i)))), some (.int (iI (((k : Nat) : Int))))], [], hpM S fz (m2, p), 0, 0) Qr := by
        refine loop_any (fun k hi53 ih53 => ?_)
        intro m2
        intro hI53
        obtain ⟨hF53, hv53⟩ := hI53
        refine rw_blk lk_X0_byState_53 ?_
        refine rw_of (fun rr hrr => q_iload rfl (q_iload rfl hrr)) ?_
        refine rw_icmp_ge ⟨by omega, by omega⟩ ⟨by omega, by omega⟩ (t := 95) rfl (fun hc23 => ?_) (fun hc23 => ?_)
        · skip
          refine rw_blk lk_X0_byState_95 ?_
          refine rw_of (fun rr hrr => q_iinc rfl rfl (q_goto (t := 19) rfl hrr)) ?_
          have hA24 : Fr (fun a_ => 60 ≤ a_ ∧ a_ ≤ 62) m m2 ∧ ∀ r, r < n → m2 61 r = (xs n (fun z => m (t + 2 + z)) (m (t + 10)) (uu (m 6) ci)) (i + 1) r := by
            refine ⟨Fr_trans hF (Fr_trans (Fr_mono hF22 (fun a ha => by omega)) (Fr_mono hF53 (fun a ha => by omega))), fun r hr => ?_⟩
            rw [hv53 r, if_pos (by omega), hv22, if_pos hr, hF22 (t + 10) (by omega), hF _ (by omega), hF (t + 10) (by omega), hF 6 (by omega)]
            show _ = dot n (m (t + 2 + r)) (xs n _ _ _ i) + _
            rw [dot_congr (fun _ _ => rfl) (fun c hc => hS c hc)]
          exact rw_cast (ih19 (by omega) m2 (some (.int (iI (vF (uu (m1 6) ci i))))) (some (.int (iI (((k : Nat) : Int))))) hA24) (lcons rfl (lcons rfl (lcons rfl (lcons rfl (lcons rfl (lcons (lvI (by omega)) (lcons rfl (lcons rfl rfl)))))))) rfl
        · skip
          refine rw_of (fun rr hrr => q_aload_n rfl (q_getR (show SH 59 = (10, 0) from rfl) rfl (pt_59_1 hP) (q_iload rfl (q_aload_n rfl (q_getR (show SH 59 = (10, 0) from rfl) rfl (pt_59_2 hP) (q_iload rfl (q_iald (j := k) (show SH 62 = (1, 8) from rfl) rfl (by omega) rfl (q_aload_n rfl (q_getR (PI_pl hP ht).1 rfl (PI_pl hP ht).2.2.1 (q_iload rfl (q_iald (j := k) (PI_pl hP ht).2.2.2.2.1 rfl (by omega) rfl (q_iload rfl hrr)))))))))))) ?_
          obtain ⟨_, mm25, pp26, hV27, rfl, rfl, rfl⟩ := c_X2_times (S := S) (fz := fz) (m := m2) (p := p) (d := d) (by omega) (m2 (t + 10) k) (uu (m1 6) ci i)
          refine rw_of (fun rr hrr => q_invS hV27 rfl rfl (okar_cons rfl (okar_cons rfl okar_nil)) (Nat.le_of_ble_eq_true rfl) hrr) ?_
          obtain ⟨_, mm28, pp29, hV30, rfl, rfl, rfl⟩ := c_X2_plus (S := S) (fz := fz) (m := m2) (p := p) (d := d) (by omega) (m2 62 k) ((m2 (t + 10) k) * (uu (m1 6) ci i))
          refine rw_of (fun rr hrr => q_invS hV30 rfl rfl (okar_cons rfl (okar_cons rfl okar_nil)) (Nat.le_of_ble_eq_true rfl) (q_iast (j := k) (xx := (m2 62 k) + ((m2 (t + 10) k) * (uu (m1 6) ci i))) (show SH 61 = (1, 8) from rfl) rfl (by omega) rfl hrr)) ?_
          generalize hm32 : w1 m2 61 k ((m2 62 k) + ((m2 (t + 10) k) * (uu (m1 6) ci i))) = mm31
          refine rw_of (fun rr hrr => q_iinc rfl rfl (q_goto (t := 53) rfl hrr)) ?_
          exact rw_cast (ih53 (by omega) mm31 (by exact ⟨fr_w hm32 hF53 rfl, fill_w hm32 hv53 (by rw [hF53 62 (by omega), hF53 (t + 10) (by omega)])⟩)) (lcons rfl (lcons rfl (lcons rfl (lcons rfl (lcons rfl (lcons rfl (lcons rfl (lcons (lvI (by omega)) rfl)))))))) rfl
      exact rw_cast (hL53 0 (by omega) mm20 (by exact ⟨Fr_rfl, fun j => (if_neg (Nat.not_lt_zero j)).symm⟩)) (lcons rfl (lcons rfl (lcons rfl (lcons rfl (lcons rfl (lcons rfl (lcons rfl (lcons (lvI (by omega)) rfl)))))))) rfl
  have hA33 : Fr (fun a_ => 60 ≤ a_ ∧ a_ ≤ 62) m mm1 ∧ ∀ r, r < n → mm1 61 r = (xs n (fun z => m (t + 2 + z)) (m (t + 10)) (uu (m 6) ci)) 0 r := by
    refine ⟨Fr_mono hF3 (fun a ha => by omega), fun r hr => ?_⟩
    rw [hv3, if_pos hr]
    rfl
  exact rw_cast (hL19 0 (by omega) mm1 none none hA33) (lcons rfl (lcons rfl (lcons rfl (lcons rfl (lcons rfl (lcons (lvI (by omega)) (lcons rfl (lcons rfl rfl)))))))) rfl
theorem c_X0_byNumbers {d : Nat} {S : Env} {fz : Bool} {m : M1} {p : M2} (hd : 5 ≤ d) (n t l ci : Nat) (hP : PI p) (ht : IsPl t) (hn0 : 1 ≤ n) (hn : n ≤ 8) (hm : m t 0 = nF n) (hci : m 5 1 = nF ci) (hcl : ci ≤ 20) (hl : l ≤ 40) : Ct d k_X0_byNumbers S fz [.ref (59), .ref (t), .ref (5), .int (iI (((l : Nat) : Int)))] m p (fun v m' p' => v = some (.int (iI (vF (sm (l + 1) (fun i => (hs n (fun z => m (t + 2 + z)) (m (t + 10)) (m (t + 11)) (m t 4)) (l - i) * (uu (m 6) ci) i))))) ∧ p = p' ∧ Fr (fun a_ => 60 ≤ a_ ∧ a_ ≤ 62) m m') := by
  obtain ⟨d, rfl⟩ : ∃ e, d = e + 1 := ⟨d - 1, by omega⟩
  refine ct_go (lv := [some (.ref (59)), some (.ref (t)), some (.ref (5)), some (.int (iI (((l : Nat) : Int)))), none, none]) (Nat.le_of_ble_eq_true rfl) (okar_cons rfl (okar_cons rfl (okar_cons rfl (okar_cons rfl okar_nil)))) rfl (fun Qr hQ => ?_)
  have ht' := IsPl_b ht
  refine rw_blk lk_X0_byNumbers_0 ?_
  refine rw_of (fun rr hrr => q_aload_n rfl (q_aload_n rfl (q_iload_n rfl hrr))) ?_
  obtain ⟨_, mm1, pp2, hV3, rfl, rfl, hF3, hv3⟩ := c_X0_findNumbers (S := S) (fz := fz) (m := m) (p := p) (d := d) (by omega) (n) (t) (l) hP ht (by omega) (by omega) hm (by omega)
  refine rw_of (fun rr hrr => q_invV hV3 (show SH 59 = (10, 0) from rfl) rfl rfl (okar_cons rfl (okar_cons rfl okar_nil)) (Nat.le_of_ble_eq_true rfl) (q_iconst (q_istore (Nat.le_of_ble_eq_true rfl) rfl (q_iconst (q_istore (Nat.le_of_ble_eq_true rfl) rfl hrr))))) ?_
  have hL12 : ∀ i, i ≤ l + 1 → Rw (Ev d) k_X0_byNumbers (12, [], [some (.ref (59)), some (.ref (t)), some (.ref (5)), some (.int (iI (((l : Nat) : Int)))), some (.int (iI (vF (sm i (fun i => (hs n (fun z => m (t + 2 + z)) (m (t + 10)) (m (t + 11)) (m t 4)) (l - i) * (uu (m 6) ci) i))))), some (.int (iI (((i : Nat) : Int))))], [], hpM S fz (mm1, p), 0, 0) Qr := by
    refine loop_any (fun i hi12 ih12 => ?_)
    refine rw_blk lk_X0_byNumbers_12 ?_
    refine rw_of (fun rr hrr => q_iload rfl (q_iload_n rfl hrr)) ?_
    refine rw_icmp_gt ⟨by omega, by omega⟩ ⟨by omega, by omega⟩ (t := 49) rfl (fun hc4 => ?_) (fun hc4 => ?_)
    · skip
      refine rw_blk lk_X0_byNumbers_49 ?_
      refine rw_of (fun rr hrr => q_iload rfl hrr) ?_
      refine rw_ret hQ (q_ireturn (Or.inl rfl)) ?_
      have e9 : i = l + 1 := (by omega)
      subst e9
      exact ⟨rfl, rfl, hF3⟩
      
    · skip
      refine rw_of (fun rr hrr => q_iload rfl (q_aload_n rfl (q_getR (show SH 59 = (10, 0) from rfl) rfl (pt_59_0 hP) (q_iload_n rfl (q_iload rfl (q_isub (q_iald (j := l - i) (show SH 60 = (1, 41) from rfl) (by omega) (by omega) rfl (q_aload_n rfl (q_iload rfl hrr))))))))) ?_
      obtain ⟨_, mm5, pp6, hV7, rfl, rfl, rfl⟩ := c_X0_inputAt (S := S) (fz := fz) (m := mm1) (p := p) (d := d) (by omega) (i) (ci) hP ((congrFun (hF3 5 (by show ¬ (60 ≤ 5 ∧ 5 ≤ 62); omega)) 1).trans hci) (by omega) (by omega)
      refine rw_of (fun rr hrr => q_invS hV7 rfl rfl (okar_cons rfl (okar_cons rfl okar_nil)) (Nat.le_of_ble_eq_true rfl) hrr) ?_
      obtain ⟨_, mm8, pp9, hV10, rfl, rfl, rfl⟩ := c_X2_times (S := S) (fz := fz) (m := mm1) (p := p) (d := d) (by omega) (mm1 60 (l - i)) (uu (mm1 6) ci i)
      refine rw_of (fun rr hrr => q_invS hV10 rfl rfl (okar_cons rfl (okar_cons rfl okar_nil)) (Nat.le_of_ble_eq_true rfl) hrr) ?_
      obtain ⟨_, mm11, pp12, hV13, rfl, rfl, rfl⟩ := c_X2_plus (S := S) (fz := fz) (m := mm1) (p := p) (d := d) (by omega) (sm i (fun i => (hs n (fun z => m (t + 2 + z)) (m (t + 10)) (m (t + 11)) (m t 4)) (l - i) * (uu (m 6) ci) i)) ((mm1 60 (l - i)) * (uu (mm1 6) ci i))
      refine rw_of (fun rr hrr => q_invS hV13 rfl rfl (okar_cons rfl (okar_cons rfl okar_nil)) (Nat.le_of_ble_eq_true rfl) (q_istore (Nat.le_of_ble_eq_true rfl) rfl (q_iinc rfl rfl (q_goto (t := 12) rfl hrr)))) ?_
      exact rw_cast (ih12 (by omega)) (lcons rfl (lcons rfl (lcons rfl (lcons rfl (lcons (lvI (by exact congrArg vF (by rw [sm_s, hv3 (l - i) (by omega), hF3 6 (by omega)]))) (lcons (lvI (by omega)) rfl)))))) rfl
  exact rw_cast (hL12 0 (by omega)) (lcons rfl (lcons rfl (lcons rfl (lcons rfl (lcons (lvI (by rfl)) (lcons (lvI (by omega)) rfl)))))) rfl
theorem c_X0_rankOfNumbers {d : Nat} {S : Env} {fz : Bool} {m : M1} {p : M2} (hd : 5 ≤ d) (n t : Nat) (hP : PI p) (ht : IsPl t) (hn0 : 1 ≤ n) (hn : n ≤ 8) (hm : m t 0 = nF n) : Ct d k_X0_rankOfNumbers S fz [.ref (59), .ref (t)] m p (fun v m' p' => ∃ RR, v = some (.int (iI ((rk n (fun i j => (hs n (fun z => m (t + 2 + z)) (m (t + 10)) (m (t + 11)) (m t 4)) (i + j + 1)) : Nat) : Int))) ∧ PI p' ∧ EQ p' 63 RR ∧ Fr (fun a_ => 60 ≤ a_ ∧ a_ < 73) m m') := by
  obtain ⟨d, rfl⟩ : ∃ e, d = e + 1 := ⟨d - 1, by omega⟩
  refine ct_go (lv := [some (.ref (59)), some (.ref (t)), none, none, none]) (Nat.le_of_ble_eq_true rfl) (okar_cons rfl (okar_cons rfl okar_nil)) rfl (fun Qr hQ => ?_)
  have ht' := IsPl_b ht
  obtain ⟨R, hE⟩ := hP.2.2.2.2.2.2.2.2.1
  have hRb : ∀ i, i < 8 → 65 ≤ R i ∧ R i < 73 := hE.2.2.2.1
  refine rw_blk lk_X0_rankOfNumbers_0 ?_
  refine rw_of (fun rr hrr => q_aload_n rfl (q_getI (PI_pl hP ht).1 rfl (ki rfl hm (by omega)) (q_istore_n (Nat.le_of_ble_eq_true rfl) rfl (q_aload_n rfl (q_aload_n rfl (q_iconst (q_iload_n rfl (q_imul (q_iconst (q_isub hrr)))))))))) ?_
  obtain ⟨_, mm1, pp2, hV3, rfl, rfl, hF3, hv3⟩ := c_X0_findNumbers (S := S) (fz := fz) (m := m) (p := p) (d := d) (by omega) (n) (t) ((2 * n) - 1) hP ht (by omega) (by omega) hm (by omega)
  refine rw_of (fun rr hrr => q_invV (rest := []) hV3 (show SH 59 = (10, 0) from rfl) (by rw [show (((2 * ((n : Nat) : Int)) - 1) : Int) = (((2 * n) - 1 : Nat) : Int) by omega]; rfl) rfl (okar_cons rfl (okar_cons rfl okar_nil)) (Nat.le_of_ble_eq_true rfl) (q_iconst (q_istore_n (Nat.le_of_ble_eq_true rfl) rfl hrr))) ?_
  have hL17 : ∀ i, i ≤ n → ∀ (m1 : M1) (x17_4 : Option Value), (Fr (fun a_ => 60 ≤ a_ ∧ a_ < 73) m m1 ∧ (∀ k, k ≤ 2 * n - 1 → m1 60 k = (hs n (fun z => m (t + 2 + z)) (m (t + 10)) (m (t + 11)) (m t 4)) k) ∧ ∀ k, k < i → ∀ c, c < n → m1 (R k) c = (hs n (fun z => m (t + 2 + z)) (m (t + 10)) (m (t + 11)) (m t 4)) (k + c + 1)) → Rw (Ev d) k_X0_rankOfNumbers (17, [], [some (.ref (59)), some (.ref (t)), some (.int (iI (((n : Nat) : Int)))), some (.int (iI (((i : Nat) : Int)))), x17_4], [], hpM S fz (m1, p), 0, 0) Qr := by
    refine loop_any (fun i hi17 ih17 => ?_)
    intro m1 x17_4
    intro hI17
    obtain ⟨hF, hH, hK⟩ := hI17
    refine rw_blk lk_X0_rankOfNumbers_17 ?_
    refine rw_of (fun rr hrr => q_iload_n rfl (q_iload_n rfl hrr)) ?_
    refine rw_icmp_ge ⟨by omega, by omega⟩ ⟨by omega, by omega⟩ (t := 75) rfl (fun hc4 => ?_) (fun hc4 => ?_)
    · skip
      refine rw_blk lk_X0_rankOfNumbers_75 ?_
      refine rw_of (fun rr hrr => q_aload_n rfl (q_getR (show SH 59 = (10, 0) from rfl) rfl (pt_59_3 hP) (q_iload_n rfl hrr))) ?_
      obtain ⟨_, mm5, pp6, hV7, RR7, rfl, hE7, hk7, hF7, hs7⟩ := c_X1_solve (S := S) (fz := fz) (m := m1) (p := p) (d := d) (by omega) (63) (n) (R) hE (by omega)
      have hP7 := PI_eq hP hE7 hk7 (by omega)
      refine rw_of (fun rr hrr => q_invV hV7 (show SH 63 = (11, 0) from rfl) rfl rfl (okar_cons rfl okar_nil) (Nat.le_of_ble_eq_true rfl) hrr) ?_
      refine rw_ret hQ (q_ireturn (Or.inl rfl)) ?_
      have e9 : n = i := (by omega)
      subst e9
      have er : rk n (fun k => m1 (R k)) = rk n (fun i j => (hs n (fun z => m (t + 2 + z)) (m (t + 10)) (m (t + 11)) (m t 4)) (i + j + 1)) := rk_congr (fun k hk c hc => hK k hk c hc)
      exact ⟨RR7, by rw [er], PI_eq hP hE7 hk7 (Or.inr rfl), hE7, Fr_trans hF (Fr_mono hF7 (fun a ha => by omega))⟩
      
    · skip
      refine rw_of (fun rr hrr => q_iconst (q_istore (Nat.le_of_ble_eq_true rfl) rfl hrr)) ?_
      have hL25 : ∀ k, k ≤ n → ∀ (m2 : M1), (Fr (fun a_ => a_ = 62) m1 m2 ∧ ∀ j, m2 62 j = if j < k then m1 60 (i + j + 1) else m1 62 j) → Rw (Ev d) k_X0_rankOfNumbers (25, [], [some (.ref (59)), some (.ref (t)), some (.int (iI (((n : Nat) : Int)))), some (.int (iI (((i : Nat) : Int)))), some (.int (iI (((k : Nat) : Int))))], [], hpM S fz (m2, p), 0, 0) Qr := by
        refine loop_any (fun k hi25 ih25 => ?_)
        intro m2
        intro hI25
        obtain ⟨hF25, hv25⟩ := hI25
        refine rw_blk lk_X0_rankOfNumbers_25 ?_
        refine rw_of (fun rr hrr => q_iload rfl (q_iload_n rfl hrr)) ?_
        refine rw_icmp_ge ⟨by omega, by omega⟩ ⟨by omega, by omega⟩ (t := 55) rfl (fun hc8 => ?_) (fun hc8 => ?_)
        · skip
          refine rw_blk lk_X0_rankOfNumbers_55 ?_
          refine rw_of (fun rr hrr => q_aload_n rfl (q_getR (show SH 59 = (10, 0) from rfl) rfl (pt_59_3 hP) (q_iload_n rfl (q_iload_n rfl (q_aload_n rfl (q_getR (show SH 59 = (10, 0) from rfl) rfl (pt_59_2 hP) (q_iconst hrr))))))) ?_
          obtain ⟨_, mm9, pp10, hV11, rfl, rfl, hF11, hx11, hv11⟩ := c_X1_put (S := S) (fz := fz) (m := m2) (p := p) (d := d) (by omega) (63) (n) (i) (62) ((0 : F)) (R) hE (by omega) (by omega) ((show SH 62 = (1, 8) from rfl)) (by omega) (by have := hRb i (by omega); omega)
          refine rw_of (fun rr hrr => q_invV hV11 (show SH 63 = (11, 0) from rfl) rfl rfl (okar_cons rfl (okar_cons rfl (okar_cons rfl (okar_cons rfl okar_nil)))) (Nat.le_of_ble_eq_true rfl) (q_iinc rfl rfl (q_goto (t := 17) rfl hrr))) ?_
          have hA12 : Fr (fun a_ => 60 ≤ a_ ∧ a_ < 73) m mm9 ∧ (∀ k, k ≤ 2 * n - 1 → mm9 60 k = (hs n (fun z => m (t + 2 + z)) (m (t + 10)) (m (t + 11)) (m t 4)) k) ∧ ∀ k, k < (i + 1) → ∀ c, c < n → mm9 (R k) c = (hs n (fun z => m (t + 2 + z)) (m (t + 10)) (m (t + 11)) (m t 4)) (k + c + 1) := by
            have hR := hRb i (by omega)
            refine ⟨Fr_trans hF (Fr_trans (Fr_mono hF25 (fun a ha => by omega)) (Fr_mono hF11 (fun a ha => by omega))), fun k hk => ?_, fun k hk c hc => ?_⟩
            · rw [hF11 60 (by omega), hF25 60 (by omega)]
              exact hH k hk
            · by_cases q : k = i
              · rw [q, hv11 c hc, hv25 c, if_pos (by omega)]
                exact hH _ (by omega)
              · have hk8 := hRb k (by omega)
                rw [hF11 (R k) (fun z => q (hE.2.2.2.2 k i (by omega) (by omega) z)), hF25 _ (by omega)]
                exact hK k (by omega) c hc
          exact rw_cast (ih17 (by omega) mm9 (some (.int (iI (((k : Nat) : Int))))) hA12) (lcons rfl (lcons rfl (lcons rfl (lcons (lvI (by omega)) (lcons rfl rfl))))) rfl
        · skip
          refine rw_of (fun rr hrr => q_aload_n rfl (q_getR (show SH 59 = (10, 0) from rfl) rfl (pt_59_2 hP) (q_iload rfl (q_aload_n rfl (q_getR (show SH 59 = (10, 0) from rfl) rfl (pt_59_0 hP) (q_iload_n rfl (q_iload rfl (q_iadd (q_iconst (q_iadd (q_iald (j := i + k + 1) (show SH 60 = (1, 41) from rfl) (by omega) (by omega) rfl (q_iast (j := k) (xx := m2 60 (i + k + 1)) (show SH 62 = (1, 8) from rfl) rfl (by omega) rfl hrr)))))))))))) ?_
          generalize hm14 : w1 m2 62 k (m2 60 (i + k + 1)) = mm13
          refine rw_of (fun rr hrr => q_iinc rfl rfl (q_goto (t := 25) rfl hrr)) ?_
          exact rw_cast (ih25 (by omega) mm13 (by exact ⟨fr_w hm14 hF25 rfl, fill_w hm14 hv25 (by rw [hF25 60 (by omega)])⟩)) (lcons rfl (lcons rfl (lcons rfl (lcons rfl (lcons (lvI (by omega)) rfl))))) rfl
      exact rw_cast (hL25 0 (by omega) m1 (by exact ⟨Fr_rfl, fun j => (if_neg (Nat.not_lt_zero j)).symm⟩)) (lcons rfl (lcons rfl (lcons rfl (lcons rfl (lcons (lvI (by omega)) rfl))))) rfl
  exact rw_cast (hL17 0 (by omega) mm1 none (by exact ⟨Fr_mono hF3 (fun a ha => by omega), hv3, fun k hk => absurd hk (Nat.not_lt_zero k)⟩)) (lcons rfl (lcons rfl (lcons rfl (lcons (lvI (by omega)) (lcons rfl rfl))))) rfl
