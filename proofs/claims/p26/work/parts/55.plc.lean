theorem c_X3_rankOfColumns {d : Nat} {S : Env} {fz : Bool} {m : M1} {p : M2} (hd : 4 ≤ d) (n t : Nat) (hP : PI p) (ht : IsPl t) (hn0 : 1 ≤ n) (hn : n ≤ 8) (hm : m t 0 = nF n) : Ct d k_X3_rankOfColumns S fz [.ref (19), .ref (t)] m p (fun v m' p' => ∃ RR, v = some (.int (iI ((rk n (kr n (fun z => m (t + 2 + z)) (m (t + 10))) : Nat) : Int))) ∧ PI p' ∧ EQ p' 20 RR ∧ Pk 21 p p' ∧ Fr (fun a_ => 22 ≤ a_ ∧ a_ < 32) m m' ∧ (rk n (kr n (fun z => m (t + 2 + z)) (m (t + 10))) = n → ∀ x, (∀ i, i < n → dot n ((kr n (fun z => m (t + 2 + z)) (m (t + 10))) i) x = if i + 1 = n then 1 else 0) ↔ ∀ i, i < n → x i = m' (RR i) n)) := by
  obtain ⟨d, rfl⟩ : ∃ e, d = e + 1 := ⟨d - 1, by omega⟩
  refine ct_go (lv := [some (.ref (19)), some (.ref (t)), none, none]) (Nat.le_of_ble_eq_true rfl) (okar_cons rfl (okar_cons rfl okar_nil)) rfl (fun Qr hQ => ?_)
  have ht' := IsPl_b ht
  obtain ⟨R, hE⟩ := hP.2.2.2.2.2.2.2.1
  have hRb : ∀ i, i < 8 → 22 ≤ R i ∧ R i < 30 := hE.2.2.2.1
  refine rw_blk lk_X3_rankOfColumns_0 ?_
  refine rw_of (fun rr hrr => q_aload_n rfl (q_getI (PI_pl hP ht).1 rfl (ki rfl hm (by omega)) (q_istore_n (Nat.le_of_ble_eq_true rfl) rfl (q_iload_n rfl (q_aload_n rfl (q_getR (PI_pl hP ht).1 rfl (PI_pl hP ht).2.2.1 (q_aload_n rfl (q_getR (show SH 19 = (12, 0) from rfl) rfl (pt_19_1 hP) hrr)))))))) ?_
  obtain ⟨_, mm1, pp2, hV3, rfl, rfl, hF3, hv3⟩ := c_X6_copy (S := S) (fz := fz) (m := m) (p := p) (d := d) (by omega) (n) (t + 10) (30) (by omega) ((PI_pl hP ht).2.2.2.2.1) ((show SH 30 = (1, 8) from rfl)) (by omega) (by omega) (by omega)
  refine rw_of (fun rr hrr => q_invS hV3 rfl rfl (okar_cons rfl (okar_cons rfl (okar_cons rfl okar_nil))) (Nat.le_of_ble_eq_true rfl) (q_iconst (q_istore_n (Nat.le_of_ble_eq_true rfl) rfl hrr))) ?_
  have hL19 : ∀ i, i ≤ n → ∀ (m1 : M1), (Fr (fun a_ => 22 ≤ a_ ∧ a_ < 32) m m1 ∧ (∀ r, r < n → m1 30 r = (kr n (fun z => m (t + 2 + z)) (m (t + 10))) i r) ∧ (∀ k, k < i → (∀ c, c < n → m1 (R k) c = (kr n (fun z => m (t + 2 + z)) (m (t + 10))) k c) ∧ m1 (R k) n = if k + 1 = n then 1 else 0)) → Rw (Ev d) k_X3_rankOfColumns (19, [], [some (.ref (19)), some (.ref (t)), some (.int (iI (((n : Nat) : Int)))), some (.int (iI (((i : Nat) : Int))))], [], hpM S fz (m1, p), 0, 0) Qr := by
    refine loop_any (fun i hi19 ih19 => ?_)
    intro m1
    intro hI19
    obtain ⟨hF, hS, hK⟩ := hI19
    refine rw_blk lk_X3_rankOfColumns_19 ?_
    refine rw_of (fun rr hrr => q_iload_n rfl (q_iload_n rfl hrr)) ?_
    refine rw_icmp_ge ⟨by omega, by omega⟩ ⟨by omega, by omega⟩ (t := 83) rfl (fun hc4 => ?_) (fun hc4 => ?_)
    · skip
      refine rw_blk lk_X3_rankOfColumns_83 ?_
      refine rw_of (fun rr hrr => q_aload_n rfl (q_getR (show SH 19 = (12, 0) from rfl) rfl (pt_19_0 hP) (q_iload_n rfl hrr))) ?_
      obtain ⟨_, mm5, pp6, hV7, RR7, rfl, hE7, hk7, hF7, hs7⟩ := c_X1_solve (S := S) (fz := fz) (m := m1) (p := p) (d := d) (by omega) (20) (n) (R) hE (by omega)
      have hP7 := PI_eq hP hE7 hk7 (by omega)
      refine rw_of (fun rr hrr => q_invV hV7 (show SH 20 = (11, 0) from rfl) rfl rfl (okar_cons rfl okar_nil) (Nat.le_of_ble_eq_true rfl) hrr) ?_
      refine rw_ret hQ (q_ireturn (Or.inl rfl)) ?_
      
      have e9 : i = n := (by omega)
      subst e9
      have er : rk i (fun k => m1 (R k)) = rk i (kr i (fun z => m (t + 2 + z)) (m (t + 10))) := rk_congr (fun k hk c hc => (hK k hk).1 c hc)
      refine ⟨RR7, by rw [er], PI_eq hP hE7 hk7 (Or.inl rfl), hE7, hk7, Fr_trans hF (Fr_mono hF7 (fun a ha => by omega)), fun q x => ?_⟩
      rw [← hs7 (er.trans q) x]
      refine ⟨fun h k hk => ?_, fun h k hk => ?_⟩
      · have := h k hk
        rw [← (hK k hk).2] at this
        exact (dot_congr (fun c hc => (hK k hk).1 c hc) (fun _ _ => rfl)).trans this
      · have := h k hk
        have h2 := (hK k hk).2
        rw [← h2]
        exact (dot_congr (fun c hc => ((hK k hk).1 c hc).symm) (fun _ _ => rfl)).trans this
    · skip
      refine rw_of (fun rr hrr => q_aload_n rfl (q_getR (show SH 19 = (12, 0) from rfl) rfl (pt_19_0 hP) (q_iload_n rfl (q_iload_n rfl (q_aload_n rfl (q_getR (show SH 19 = (12, 0) from rfl) rfl (pt_19_1 hP) (q_iload_n rfl (q_iload_n rfl (q_iconst (q_isub hrr)))))))))) ?_
      refine rw_icmp_ne ⟨by omega, by omega⟩ ⟨by omega, by omega⟩ (t := 45) rfl (fun hc8 => ?_) (fun hc8 => ?_)
      · skip
        refine rw_blk lk_X3_rankOfColumns_45 ?_
        refine rw_of (fun rr hrr => q_iconst hrr) ?_
        refine rw_blk lk_X3_rankOfColumns_46 ?_
        obtain ⟨_, mm9, pp10, hV11, rfl, rfl, hF11, hx11, hv11⟩ := c_X1_put (S := S) (fz := fz) (m := m1) (p := p) (d := d) (by omega) (20) (n) (i) (30) ((0 : F)) (R) hE (by omega) (by omega) ((show SH 30 = (1, 8) from rfl)) (by omega) (by have := hRb i (by omega); omega)
        refine rw_of (fun rr hrr => q_invV hV11 (show SH 20 = (11, 0) from rfl) rfl rfl (okar_cons rfl (okar_cons rfl (okar_cons rfl (okar_cons rfl okar_nil)))) (Nat.le_of_ble_eq_true rfl) (q_iload_n rfl (q_aload_n rfl (q_getR (PI_pl hP ht).1 rfl (PI_pl hP ht).2.1 (q_aload_n rfl (q_getR (show SH 19 = (12, 0) from rfl) rfl (pt_19_1 hP) (q_aload_n rfl (q_getR (show SH 19 = (12, 0) from rfl) rfl (pt_19_2 hP) hrr)))))))) ?_
        obtain ⟨_, mm12, pp13, hV14, rfl, rfl, hF14, hv14⟩ := c_X6_squareByColumn (S := S) (fz := fz) (m := mm9) (p := p) (d := d) (by omega) (n) (t + 1) (30) (31) (fun i => t + 2 + i) (by omega) (PI_pl hP ht).2.2.2.2.2.2 ((show SH 30 = (1, 8) from rfl)) ((show SH 31 = (1, 8) from rfl)) (by omega) (by omega) (by omega) (fun k hk => by omega)
        refine rw_of (fun rr hrr => q_invS hV14 rfl rfl (okar_cons rfl (okar_cons rfl (okar_cons rfl (okar_cons rfl okar_nil)))) (Nat.le_of_ble_eq_true rfl) (q_iload_n rfl (q_aload_n rfl (q_getR (show SH 19 = (12, 0) from rfl) rfl (pt_19_2 hP) (q_aload_n rfl (q_getR (show SH 19 = (12, 0) from rfl) rfl (pt_19_1 hP) hrr)))))) ?_
        obtain ⟨_, mm15, pp16, hV17, rfl, rfl, hF17, hv17⟩ := c_X6_copy (S := S) (fz := fz) (m := mm12) (p := p) (d := d) (by omega) (n) (31) (30) (by omega) ((show SH 31 = (1, 8) from rfl)) ((show SH 30 = (1, 8) from rfl)) (by omega) (by omega) (by omega)
        refine rw_of (fun rr hrr => q_invS hV17 rfl rfl (okar_cons rfl (okar_cons rfl (okar_cons rfl okar_nil))) (Nat.le_of_ble_eq_true rfl) (q_iinc rfl rfl (q_goto (t := 19) rfl hrr))) ?_
        have hA18 : Fr (fun a_ => 22 ≤ a_ ∧ a_ < 32) m mm15 ∧ (∀ r, r < n → mm15 30 r = (kr n (fun z => m (t + 2 + z)) (m (t + 10))) (i + 1) r) ∧ (∀ k, k < (i + 1) → (∀ c, c < n → mm15 (R k) c = (kr n (fun z => m (t + 2 + z)) (m (t + 10))) k c) ∧ mm15 (R k) n = if k + 1 = n then 1 else 0) := by
          have hR := hRb i (by omega)
          have hA : ∀ r, r < n → mm9 (t + 2 + r) = m (t + 2 + r) := fun r hr => by rw [hF11 _ (by omega), hF _ (by omega)]
          refine ⟨Fr_trans hF (Fr_trans (Fr_mono hF11 (fun a ha => by omega)) (Fr_trans (Fr_mono hF14 (fun a ha => by omega)) (Fr_mono hF17 (fun a ha => by omega)))), fun r hr => ?_, fun k hk => ?_⟩
          · rw [hv17, if_pos hr, hv14, if_pos hr, hA r hr, hF11 30 (by omega)]
            exact dot_congr (fun _ _ => rfl) (fun c hc => hS c hc)
          · have hk8 := hRb k (by omega)
            have e1 : mm15 (R k) = mm9 (R k) := by rw [hF17 _ (by omega), hF14 _ (by omega)]
            rw [e1]
            by_cases q : k = i
            · subst q
              refine ⟨fun c hc => ?_, ?_⟩
              · rw [hv11 c hc]
                exact hS c hc
              · rw [hx11]
                first
                  | rw [if_pos (by omega)]
                  | rw [if_neg (by omega)]
            · rw [hF11 (R k) (fun z => q (hE.2.2.2.2 k i (by omega) (by omega) z))]
              exact hK k (by omega)
        exact rw_cast (ih19 (by omega) mm15 hA18) (lcons rfl (lcons rfl (lcons rfl (lcons (lvI (by omega)) rfl)))) rfl
      · skip
        refine rw_of (fun rr hrr => q_iconst (q_goto (t := 46) rfl hrr)) ?_
        refine rw_blk lk_X3_rankOfColumns_46 ?_
        obtain ⟨_, mm19, pp20, hV21, rfl, rfl, hF21, hx21, hv21⟩ := c_X1_put (S := S) (fz := fz) (m := m1) (p := p) (d := d) (by omega) (20) (n) (i) (30) ((1 : F)) (R) hE (by omega) (by omega) ((show SH 30 = (1, 8) from rfl)) (by omega) (by have := hRb i (by omega); omega)
        refine rw_of (fun rr hrr => q_invV hV21 (show SH 20 = (11, 0) from rfl) rfl rfl (okar_cons rfl (okar_cons rfl (okar_cons rfl (okar_cons rfl okar_nil)))) (Nat.le_of_ble_eq_true rfl) (q_iload_n rfl (q_aload_n rfl (q_getR (PI_pl hP ht).1 rfl (PI_pl hP ht).2.1 (q_aload_n rfl (q_getR (show SH 19 = (12, 0) from rfl) rfl (pt_19_1 hP) (q_aload_n rfl (q_getR (show SH 19 = (12, 0) from rfl) rfl (pt_19_2 hP) hrr)))))))) ?_
        obtain ⟨_, mm22, pp23, hV24, rfl, rfl, hF24, hv24⟩ := c_X6_squareByColumn (S := S) (fz := fz) (m := mm19) (p := p) (d := d) (by omega) (n) (t + 1) (30) (31) (fun i => t + 2 + i) (by omega) (PI_pl hP ht).2.2.2.2.2.2 ((show SH 30 = (1, 8) from rfl)) ((show SH 31 = (1, 8) from rfl)) (by omega) (by omega) (by omega) (fun k hk => by omega)
        refine rw_of (fun rr hrr => q_invS hV24 rfl rfl (okar_cons rfl (okar_cons rfl (okar_cons rfl (okar_cons rfl okar_nil)))) (Nat.le_of_ble_eq_true rfl) (q_iload_n rfl (q_aload_n rfl (q_getR (show SH 19 = (12, 0) from rfl) rfl (pt_19_2 hP) (q_aload_n rfl (q_getR (show SH 19 = (12, 0) from rfl) rfl (pt_19_1 hP) hrr)))))) ?_
        obtain ⟨_, mm25, pp26, hV27, rfl, rfl, hF27, hv27⟩ := c_X6_copy (S := S) (fz := fz) (m := mm22) (p := p) (d := d) (by omega) (n) (31) (30) (by omega) ((show SH 31 = (1, 8) from rfl)) ((show SH 30 = (1, 8) from rfl)) (by omega) (by omega) (by omega)
        refine rw_of (fun rr hrr => q_invS hV27 rfl rfl (okar_cons rfl (okar_cons rfl (okar_cons rfl okar_nil))) (Nat.le_of_ble_eq_true rfl) (q_iinc rfl rfl (q_goto (t := 19) rfl hrr))) ?_
        have hA28 : Fr (fun a_ => 22 ≤ a_ ∧ a_ < 32) m mm25 ∧ (∀ r, r < n → mm25 30 r = (kr n (fun z => m (t + 2 + z)) (m (t + 10))) (i + 1) r) ∧ (∀ k, k < (i + 1) → (∀ c, c < n → mm25 (R k) c = (kr n (fun z => m (t + 2 + z)) (m (t + 10))) k c) ∧ mm25 (R k) n = if k + 1 = n then 1 else 0) := by
          have hR := hRb i (by omega)
          have hA : ∀ r, r < n → mm19 (t + 2 + r) = m (t + 2 + r) := fun r hr => by rw [hF21 _ (by omega), hF _ (by omega)]
          refine ⟨Fr_trans hF (Fr_trans (Fr_mono hF21 (fun a ha => by omega)) (Fr_trans (Fr_mono hF24 (fun a ha => by omega)) (Fr_mono hF27 (fun a ha => by omega)))), fun r hr => ?_, fun k hk => ?_⟩
          · rw [hv27, if_pos hr, hv24, if_pos hr, hA r hr, hF21 30 (by omega)]
            exact dot_congr (fun _ _ => rfl) (fun c hc => hS c hc)
          · have hk8 := hRb k (by omega)
            have e1 : mm25 (R k) = mm19 (R k) := by rw [hF27 _ (by omega), hF24 _ (by omega)]
            rw [e1]
            by_cases q : k = i
            · subst q
              refine ⟨fun c hc => ?_, ?_⟩
              · rw [hv21 c hc]
                exact hS c hc
              · rw [hx21]
                first
                  | rw [if_pos (by omega)]
                  | rw [if_neg (by omega)]
            · rw [hF21 (R k) (fun z => q (hE.2.2.2.2 k i (by omega) (by omega) z))]
              exact hK k (by omega)
        exact rw_cast (ih19 (by omega) mm25 hA28) (lcons rfl (lcons rfl (lcons rfl (lcons (lvI (by omega)) rfl)))) rfl
  have hA29 : Fr (fun a_ => 22 ≤ a_ ∧ a_ < 32) m mm1 ∧ (∀ r, r < n → mm1 30 r = (kr n (fun z => m (t + 2 + z)) (m (t + 10))) 0 r) ∧ (∀ k, k < 0 → (∀ c, c < n → mm1 (R k) c = (kr n (fun z => m (t + 2 + z)) (m (t + 10))) k c) ∧ mm1 (R k) n = if k + 1 = n then 1 else 0) := by
    refine ⟨Fr_mono hF3 (fun a ha => by omega), fun r hr => ?_, fun k hk => absurd hk (Nat.not_lt_zero k)⟩
    rw [hv3, if_pos hr]
    rfl
  exact rw_cast (hL19 0 (by omega) mm1 hA29) (lcons rfl (lcons rfl (lcons rfl (lcons (lvI (by omega)) rfl)))) rfl
theorem c_X3_findAsked {d : Nat} {S : Env} {fz : Bool} {m : M1} {p : M2} (hd : 2 ≤ d) (n : Nat) (hP : PI p) (hn : n ≤ 8) : Ct d k_X3_findAsked S fz [.ref (19), .int (iI (((n : Nat) : Int))), .ref (3)] m p (fun v m' p' => v = none ∧ p = p' ∧ Fr (fun a_ => a_ = 32) m m' ∧ ∀ j, j ≤ n → m' 32 j = ask (m 4) n j) := by
  obtain ⟨d, rfl⟩ : ∃ e, d = e + 1 := ⟨d - 1, by omega⟩
  refine ct_go (lv := [some (.ref (19)), some (.int (iI (((n : Nat) : Int)))), some (.ref (3)), none, none, none]) (Nat.le_of_ble_eq_true rfl) (okar_cons rfl (okar_cons rfl (okar_cons rfl okar_nil))) rfl (fun Qr hQ => ?_)
  refine rw_blk lk_X3_findAsked_0 ?_
  refine rw_of (fun rr hrr => q_iload_n rfl (q_iconst (q_iadd (q_aload_n rfl (q_getR (show SH 19 = (12, 0) from rfl) rfl (pt_19_3 hP) (q_iconst hrr)))))) ?_
  obtain ⟨_, mm1, pp2, hV3, rfl, rfl, hF3, hv3⟩ := c_X6_fill (S := S) (fz := fz) (m := m) (p := p) (d := d) (by omega) (n + 1) (32) ((0 : F)) (by omega) ((show SH 32 = (1, 9) from rfl)) (by omega)
  refine rw_of (fun rr hrr => q_invS hV3 rfl rfl (okar_cons rfl (okar_cons rfl (okar_cons rfl okar_nil))) (Nat.le_of_ble_eq_true rfl) (q_aload_n rfl (q_getR (show SH 19 = (12, 0) from rfl) rfl (pt_19_3 hP) (q_iconst (q_iconst (q_iast (j := 0) (xx := 1) (show SH 32 = (1, 9) from rfl) rfl (by omega) rfl hrr)))))) ?_
  generalize hm5 : w1 mm1 32 0 1 = mm4
  refine rw_of (fun rr hrr => q_iconst (q_istore_n (Nat.le_of_ble_eq_true rfl) rfl hrr)) ?_
  have hL20 : ∀ i, i ≤ n → ∀ (m1 : M1) (x20_4 : Option Value) (x20_5 : Option Value), (Fr (fun a_ => a_ = 32) m m1 ∧ ∀ j, j ≤ n → m1 32 j = ask (m 4) i j) → Rw (Ev d) k_X3_findAsked (20, [], [some (.ref (19)), some (.int (iI (((n : Nat) : Int)))), some (.ref (3)), some (.int (iI (((i : Nat) : Int)))), x20_4, x20_5], [], hpM S fz (m1, p), 0, 0) Qr := by
    refine loop_any (fun i hi20 ih20 => ?_)
    intro m1 x20_4 x20_5
    intro hI20
    obtain ⟨hF, hv⟩ := hI20
    refine rw_blk lk_X3_findAsked_20 ?_
    refine rw_of (fun rr hrr => q_iload_n rfl (q_iload_n rfl hrr)) ?_
    refine rw_icmp_ge ⟨by omega, by omega⟩ ⟨by omega, by omega⟩ (t := 105) rfl (fun hc6 => ?_) (fun hc6 => ?_)
    · skip
      refine rw_blk lk_X3_findAsked_105 ?_
      refine rw_ret hQ (q_return) ?_
      have e9 : i = n := (by omega)
      subst e9
      exact ⟨rfl, rfl, hF, hv⟩
    · skip
      refine rw_of (fun rr hrr => q_aload_n rfl (q_getR (show SH 3 = (16, 0) from rfl) rfl (pt_3_0 hP) (q_iload_n rfl (q_iald (j := i) (show SH 4 = (1, 20) from rfl) rfl (by omega) rfl (q_istore (Nat.le_of_ble_eq_true rfl) rfl (q_iload_n rfl (q_istore (Nat.le_of_ble_eq_true rfl) rfl hrr))))))) ?_
      have hL36 : ∀ t, t ≤ n → ∀ (m2 : M1), (Fr (fun a_ => a_ = 32) m1 m2 ∧ ∀ j, m2 32 j = if n - t < j ∧ j ≤ n then m1 32 (j - 1) - m1 4 i * m1 32 j else m1 32 j) → Rw (Ev d) k_X3_findAsked (36, [], [some (.ref (19)), some (.int (iI (((n : Nat) : Int)))), some (.ref (3)), some (.int (iI (((i : Nat) : Int)))), some (.int (iI (vF (m1 4 i)))), some (.int (iI (((n - t : Nat) : Int))))], [], hpM S fz (m2, p), 0, 0) Qr := by
        refine loop_any (fun t hi36 ih36 => ?_)
        intro m2
        intro hI36
        obtain ⟨hF36, hv36⟩ := hI36
        refine rw_blk lk_X3_findAsked_36 ?_
        refine rw_of (fun rr hrr => q_iload rfl hrr) ?_
        refine rw_if_le ⟨by omega, by omega⟩ (t := 78) rfl (fun hc7 => ?_) (fun hc7 => ?_)
        · skip
          refine rw_blk lk_X3_findAsked_78 ?_
          refine rw_of (fun rr hrr => q_aload_n rfl (q_getR (show SH 19 = (12, 0) from rfl) rfl (pt_19_3 hP) (q_iconst (q_iconst (q_iload rfl (q_aload_n rfl (q_getR (show SH 19 = (12, 0) from rfl) rfl (pt_19_3 hP) (q_iconst (q_iald (j := 0) (show SH 32 = (1, 9) from rfl) rfl (by omega) rfl hrr))))))))) ?_
          obtain ⟨_, mm8, pp9, hV10, rfl, rfl, rfl⟩ := c_X2_times (S := S) (fz := fz) (m := m2) (p := p) (d := d) (by omega) (m1 4 i) (m2 32 0)
          refine rw_of (fun rr hrr => q_invS hV10 rfl rfl (okar_cons rfl (okar_cons rfl okar_nil)) (Nat.le_of_ble_eq_true rfl) hrr) ?_
          obtain ⟨_, mm11, pp12, hV13, rfl, rfl, rfl⟩ := c_X2_minus (S := S) (fz := fz) (m := m2) (p := p) (d := d) (by omega) ((0 : F)) ((m1 4 i) * (m2 32 0))
          refine rw_of (fun rr hrr => q_invS hV13 rfl rfl (okar_cons rfl (okar_cons rfl okar_nil)) (Nat.le_of_ble_eq_true rfl) (q_iast (j := 0) (xx := ((0 : F)) - ((m1 4 i) * (m2 32 0))) (show SH 32 = (1, 9) from rfl) rfl (by omega) rfl hrr)) ?_
          generalize hm15 : w1 m2 32 0 (((0 : F)) - ((m1 4 i) * (m2 32 0))) = mm14
          refine rw_of (fun rr hrr => q_iinc rfl rfl (q_goto (t := 20) rfl hrr)) ?_
          have hA16 : Fr (fun a_ => a_ = 32) m mm14 ∧ ∀ j, j ≤ n → mm14 32 j = ask (m 4) (i + 1) j := by
            have hP4 : m1 4 i = m 4 i := congrFun (hF 4 (by omega)) i
            refine ⟨fr_w hm15 (Fr_trans hF hF36) rfl, fun j hj => ?_⟩
            rw [← hm15]
            by_cases q : j = 0
            · subst q
              rw [w1_at, hv36 0, if_neg (by omega), hv 0 (by omega), hP4]
              rfl
            · rw [w1_ne (fun z => q z.2), hv36 j, if_pos (by omega), hv (j - 1) (by omega), hv j hj, hP4]
              show _ = (if j = 0 then 0 else _) - _
              rw [if_neg q]
          exact rw_cast (ih20 (by omega) mm14 (some (.int (iI (vF (m1 4 i))))) (some (.int (iI (((n - t : Nat) : Int))))) hA16) (lcons rfl (lcons rfl (lcons rfl (lcons (lvI (by omega)) (lcons rfl (lcons rfl rfl)))))) rfl
        · skip
          refine rw_of (fun rr hrr => q_aload_n rfl (q_getR (show SH 19 = (12, 0) from rfl) rfl (pt_19_3 hP) (q_iload rfl (q_aload_n rfl (q_getR (show SH 19 = (12, 0) from rfl) rfl (pt_19_3 hP) (q_iload rfl (q_iconst (q_isub (q_iald (j := (n - t) - 1) (show SH 32 = (1, 9) from rfl) (by omega) (by omega) rfl (q_iload rfl (q_aload_n rfl (q_getR (show SH 19 = (12, 0) from rfl) rfl (pt_19_3 hP) (q_iload rfl (q_iald (j := n - t) (show SH 32 = (1, 9) from rfl) (by omega) (by omega) rfl hrr)))))))))))))) ?_
          obtain ⟨_, mm17, pp18, hV19, rfl, rfl, rfl⟩ := c_X2_times (S := S) (fz := fz) (m := m2) (p := p) (d := d) (by omega) (m1 4 i) (m2 32 (n - t))
          refine rw_of (fun rr hrr => q_invS hV19 rfl rfl (okar_cons rfl (okar_cons rfl okar_nil)) (Nat.le_of_ble_eq_true rfl) hrr) ?_
          obtain ⟨_, mm20, pp21, hV22, rfl, rfl, rfl⟩ := c_X2_minus (S := S) (fz := fz) (m := m2) (p := p) (d := d) (by omega) (m2 32 ((n - t) - 1)) ((m1 4 i) * (m2 32 (n - t)))
          refine rw_of (fun rr hrr => q_invS hV22 rfl rfl (okar_cons rfl (okar_cons rfl okar_nil)) (Nat.le_of_ble_eq_true rfl) (q_iast (j := n - t) (xx := (m2 32 ((n - t) - 1)) - ((m1 4 i) * (m2 32 (n - t)))) (show SH 32 = (1, 9) from rfl) (by omega) (by omega) rfl hrr)) ?_
          generalize hm24 : w1 m2 32 (n - t) ((m2 32 ((n - t) - 1)) - ((m1 4 i) * (m2 32 (n - t)))) = mm23
          refine rw_of (fun rr hrr => q_iinc rfl rfl (q_goto (t := 36) rfl hrr)) ?_
          exact rw_cast (ih36 (by omega) mm23 (by exact ⟨fr_w hm24 hF36 rfl, filld_w (P := fun j => n - t < j ∧ j ≤ n) (P' := fun j => n - (t + 1) < j ∧ j ≤ n) (f := fun j => m1 32 (j - 1) - m1 4 i * m1 32 j) hm24 hv36 (by rw [hv36, if_neg (by omega), hv36, if_neg (by omega)]) (fun j => by omega)⟩)) (lcons rfl (lcons rfl (lcons rfl (lcons rfl (lcons rfl (lcons (lvI (by omega)) rfl)))))) rfl
      exact rw_cast (hL36 0 (by omega) m1 (by exact ⟨Fr_rfl, fun j => (if_neg (by omega)).symm⟩)) (lcons rfl (lcons rfl (lcons rfl (lcons rfl (lcons rfl (lcons (lvI (by omega)) rfl)))))) rfl
  have hA25 : Fr (fun a_ => a_ = 32) m mm4 ∧ ∀ j, j ≤ n → mm4 32 j = ask (m 4) 0 j := by
    refine ⟨fr_w hm5 hF3 rfl, fun j hj => ?_⟩
    rw [← hm5]
    by_cases q : j = 0
    · rw [q, w1_at]
      rfl
    · rw [w1_ne (fun z => q z.2), hv3, if_pos (by omega)]
      exact (if_neg q).symm
  exact rw_cast (hL20 0 (by omega) mm4 none none hA25) (lcons rfl (lcons rfl (lcons rfl (lcons (lvI (by omega)) (lcons rfl (lcons rfl rfl)))))) rfl
theorem c_X3_byColumns1 {d : Nat} {S : Env} {fz : Bool} {m : M1} {p : M2} (hd : 5 ≤ d) (n t f g : Nat) (hP : PI p) (ht : IsPl t) (hn0 : 1 ≤ n) (hn : n ≤ 8) (hm : m t 0 = nF n) (hf : f + n ≤ 20) (hg : g = 33 ∨ g = 34) (hr : rk n (kr n (fun z => m (t + 2 + z)) (m (t + 10))) = n) : Ct d k_X3_byColumns S fz [.ref (19), .ref (t), .ref (3), .int (iI (((f : Nat) : Int))), .ref (g)] m p (fun v m' p' => ∃ x : Nat → F, PI p' ∧ Fr (fun a_ => (22 ≤ a_ ∧ a_ < 32) ∨ a_ = g) m m' ∧ v = some (.int (iI 1)) ∧ (∀ i, i < n → dot n ((kr n (fun z => m (t + 2 + z)) (m (t + 10))) i) x = if i + 1 = n then 1 else 0) ∧ ∀ j, j < n → m' g j = av n (fun z => m (t + 2 + z)) (fun i => m 4 (f + i)) x n j) := by
  obtain ⟨d, rfl⟩ : ∃ e, d = e + 1 := ⟨d - 1, by omega⟩
  refine ct_go (lv := [some (.ref (19)), some (.ref (t)), some (.ref (3)), some (.int (iI (((f : Nat) : Int)))), some (.ref (g)), none, none, none]) (Nat.le_of_ble_eq_true rfl) (okar_cons rfl (okar_cons rfl (okar_cons rfl (okar_cons rfl (okar_cons rfl okar_nil))))) rfl (fun Qr hQ => ?_)
  have ht' := IsPl_b ht
  have hgs : SH g = (1, 8) := by rcases hg with rfl | rfl <;> rfl
  have hrk := rk_le (n := n) (A := (kr n (fun z => m (t + 2 + z)) (m (t + 10))))
  refine rw_blk lk_X3_byColumns_0 ?_
  refine rw_of (fun rr hrr => q_aload_n rfl (q_getI (PI_pl hP ht).1 rfl (ki rfl hm (by omega)) (q_istore (Nat.le_of_ble_eq_true rfl) rfl (q_aload_n rfl (q_aload_n rfl hrr))))) ?_
  obtain ⟨_, mm1, pp2, hV3, RR3, rfl, hP3, hE3, hk3, hF3, hs3⟩ := c_X3_rankOfColumns (S := S) (fz := fz) (m := m) (p := p) (d := d) (by omega) (n) (t) hP ht (by omega) (by omega) hm
  refine rw_of (fun rr hrr => q_invV hV3 (show SH 19 = (12, 0) from rfl) rfl rfl (okar_cons rfl okar_nil) (Nat.le_of_ble_eq_true rfl) (q_iload rfl hrr)) ?_
  refine rw_icmp_ge ⟨by omega, by omega⟩ ⟨by omega, by omega⟩ (t := 18) rfl (fun hc4 => ?_) (fun hc4 => ?_)
  · skip
    refine rw_blk lk_X3_byColumns_18 ?_
    refine rw_of (fun rr hrr => q_aload_n rfl (q_getR (show SH 19 = (12, 0) from rfl) rfl (pt_19_0 hP3) (q_iload rfl (q_aload rfl hrr)))) ?_
    obtain ⟨_, mm5, pp6, hV7, rfl, rfl, hF7, hv7⟩ := c_X1_readSolution (S := S) (fz := fz) (m := mm1) (p := pp2) (d := d) (by omega) (20) (n) (g) (RR3) hE3 (by omega) (hgs) (by omega) (by omega)
    refine rw_of (fun rr hrr => q_invV hV7 (show SH 20 = (11, 0) from rfl) rfl rfl (okar_cons rfl (okar_cons rfl okar_nil)) (Nat.le_of_ble_eq_true rfl) (q_iconst (q_istore (Nat.le_of_ble_eq_true rfl) rfl hrr))) ?_
    have hL32 : ∀ s, s ≤ n → ∀ (m1 : M1) (x32_7 : Option Value), (Fr (fun a_ => (22 ≤ a_ ∧ a_ < 32) ∨ a_ = g) m m1 ∧ ∀ j, j < n → m1 g j = av n (fun z => m (t + 2 + z)) (fun i => m 4 (f + i)) (fun i => mm1 (RR3 i) n) s j) → Rw (Ev d) k_X3_byColumns (32, [], [some (.ref (19)), some (.ref (t)), some (.ref (3)), some (.int (iI (((f : Nat) : Int)))), some (.ref (g)), some (.int (iI (((n : Nat) : Int)))), some (.int (iI (((s : Nat) : Int)))), x32_7], [], hpM S fz (m1, pp2), 0, 0) Qr := by
      refine loop_any (fun s hi32 ih32 => ?_)
      intro m1 x32_7
      intro hI32
      obtain ⟨hF, hv⟩ := hI32
      refine rw_blk lk_X3_byColumns_32 ?_
      refine rw_of (fun rr hrr => q_iload rfl (q_iload rfl hrr)) ?_
      refine rw_icmp_ge ⟨by omega, by omega⟩ ⟨by omega, by omega⟩ (t := 108) rfl (fun hc8 => ?_) (fun hc8 => ?_)
      · skip
        refine rw_blk lk_X3_byColumns_108 ?_
        refine rw_of (fun rr hrr => q_iconst hrr) ?_
        refine rw_ret hQ (q_ireturn (by omega)) ?_
        have e9 : s = n := (by omega)
        subst e9
        exact ⟨_, hP3, hF, rfl, (hs3 hr _).mpr (fun _ _ => rfl), hv⟩
        
      · skip
        refine rw_of (fun rr hrr => q_iload rfl (q_aload rfl (q_aload_n rfl (q_getR (PI_pl hP3 ht).1 rfl (PI_pl hP3 ht).2.1 (q_aload_n rfl (q_getR (show SH 19 = (12, 0) from rfl) rfl (pt_19_2 hP3) hrr)))))) ?_
        obtain ⟨_, mm9, pp10, hV11, rfl, rfl, hF11, hv11⟩ := c_X6_rowBySquare (S := S) (fz := fz) (m := m1) (p := pp2) (d := d) (by omega) (n) (g) (t + 1) (31) (fun i => t + 2 + i) (by omega) (hgs) (PI_pl hP3 ht).2.2.2.2.2.2 ((show SH 31 = (1, 8) from rfl)) (by omega) (by omega) (by omega) (fun k hk => by omega)
        refine rw_of (fun rr hrr => q_invS hV11 rfl rfl (okar_cons rfl (okar_cons rfl (okar_cons rfl (okar_cons rfl okar_nil)))) (Nat.le_of_ble_eq_true rfl) (q_iconst (q_istore (Nat.le_of_ble_eq_true rfl) rfl hrr))) ?_
        have hL57 : ∀ k, k ≤ n → ∀ (m2 : M1), (Fr (fun a_ => a_ = g) mm9 m2 ∧ ∀ j, m2 g j = if j < k then mm9 31 j - m1 4 (f + s) * m1 g j else mm9 g j) → Rw (Ev d) k_X3_byColumns (57, [], [some (.ref (19)), some (.ref (t)), some (.ref (3)), some (.int (iI (((f : Nat) : Int)))), some (.ref (g)), some (.int (iI (((n : Nat) : Int)))), some (.int (iI (((s : Nat) : Int)))), some (.int (iI (((k : Nat) : Int))))], [], hpM S fz (m2, pp2), 0, 0) Qr := by
          refine loop_any (fun k hi57 ih57 => ?_)
          intro m2
          intro hI57
          obtain ⟨hF57, hv57⟩ := hI57
          refine rw_blk lk_X3_byColumns_57 ?_
          refine rw_of (fun rr hrr => q_iload rfl (q_iload rfl hrr)) ?_
          refine rw_icmp_ge ⟨by omega, by omega⟩ ⟨by omega, by omega⟩ (t := 102) rfl (fun hc12 => ?_) (fun hc12 => ?_)
          · skip
            refine rw_blk lk_X3_byColumns_102 ?_
            refine rw_of (fun rr hrr => q_iinc rfl rfl (q_goto (t := 32) rfl hrr)) ?_
            have hA13 : Fr (fun a_ => (22 ≤ a_ ∧ a_ < 32) ∨ a_ = g) m m2 ∧ ∀ j, j < n → m2 g j = av n (fun z => m (t + 2 + z)) (fun i => m 4 (f + i)) (fun i => mm1 (RR3 i) n) (s + 1) j := by
              refine ⟨Fr_trans hF (Fr_trans (Fr_mono hF11 (fun a ha => by omega)) (Fr_mono hF57 (fun a ha => by omega))), fun j hj => ?_⟩
              rw [hv57 j, if_pos (by omega), hv11, if_pos hj]
              have h1 : dot n (m1 g) (fun k => m1 (t + 2 + k) j) = dot n (av n (fun z => m (t + 2 + z)) (fun i => m 4 (f + i)) (fun i => mm1 (RR3 i) n) s) (fun k => m (t + 2 + k) j) := dot_congr (fun k hk => hv k hk) (fun k hk => by rw [hF _ (by omega)])
              rw [h1, hv j hj, hF 4 (by omega)]
              rfl
            exact rw_cast (ih32 (by omega) m2 (some (.int (iI (((k : Nat) : Int))))) hA13) (lcons rfl (lcons rfl (lcons rfl (lcons rfl (lcons rfl (lcons rfl (lcons (lvI (by omega)) (lcons rfl rfl)))))))) rfl
          · skip
            refine rw_of (fun rr hrr => q_aload rfl (q_iload rfl (q_aload_n rfl (q_getR (show SH 19 = (12, 0) from rfl) rfl (pt_19_2 hP3) (q_iload rfl (q_iald (j := k) (show SH 31 = (1, 8) from rfl) rfl (by omega) rfl (q_aload_n rfl (q_getR (show SH 3 = (16, 0) from rfl) rfl (pt_3_0 hP3) (q_iload_n rfl (q_iload rfl (q_iadd (q_iald (j := f + s) (show SH 4 = (1, 20) from rfl) (by omega) (by omega) rfl (q_aload rfl (q_iload rfl (q_iald (j := k) hgs rfl (by omega) rfl hrr))))))))))))))) ?_
            obtain ⟨_, mm14, pp15, hV16, rfl, rfl, rfl⟩ := c_X2_times (S := S) (fz := fz) (m := m2) (p := pp2) (d := d) (by omega) (m2 4 (f + s)) (m2 g k)
            refine rw_of (fun rr hrr => q_invS hV16 rfl rfl (okar_cons rfl (okar_cons rfl okar_nil)) (Nat.le_of_ble_eq_true rfl) hrr) ?_
            obtain ⟨_, mm17, pp18, hV19, rfl, rfl, rfl⟩ := c_X2_minus (S := S) (fz := fz) (m := m2) (p := pp2) (d := d) (by omega) (m2 31 k) ((m2 4 (f + s)) * (m2 g k))
            refine rw_of (fun rr hrr => q_invS hV19 rfl rfl (okar_cons rfl (okar_cons rfl okar_nil)) (Nat.le_of_ble_eq_true rfl) (q_iast (j := k) (xx := (m2 31 k) - ((m2 4 (f + s)) * (m2 g k))) hgs rfl (by omega) rfl hrr)) ?_
            generalize hm21 : w1 m2 g k ((m2 31 k) - ((m2 4 (f + s)) * (m2 g k))) = mm20
            refine rw_of (fun rr hrr => q_iinc rfl rfl (q_goto (t := 57) rfl hrr)) ?_
            exact rw_cast (ih57 (by omega) mm20 (by exact ⟨fr_w hm21 hF57 rfl, fill_w hm21 hv57 (by rw [hF57 31 (by omega), hF57 4 (by omega), hF11 4 (by omega), hv57 k, if_neg (by omega), hF11 g (by omega)])⟩)) (lcons rfl (lcons rfl (lcons rfl (lcons rfl (lcons rfl (lcons rfl (lcons rfl (lcons (lvI (by omega)) rfl)))))))) rfl
        exact rw_cast (hL57 0 (by omega) mm9 (by exact ⟨Fr_rfl, fun j => (if_neg (Nat.not_lt_zero j)).symm⟩)) (lcons rfl (lcons rfl (lcons rfl (lcons rfl (lcons rfl (lcons rfl (lcons rfl (lcons (lvI (by omega)) rfl)))))))) rfl
    have hA22 : Fr (fun a_ => (22 ≤ a_ ∧ a_ < 32) ∨ a_ = g) m mm5 ∧ ∀ j, j < n → mm5 g j = av n (fun z => m (t + 2 + z)) (fun i => m 4 (f + i)) (fun i => mm1 (RR3 i) n) 0 j := by
      refine ⟨Fr_trans (Fr_mono hF3 (fun a ha => by omega)) (Fr_mono hF7 (fun a ha => by omega)), fun j hj => ?_⟩
      rw [hv7, if_pos hj]
      rfl
    exact rw_cast (hL32 0 (by omega) mm5 none hA22) (lcons rfl (lcons rfl (lcons rfl (lcons rfl (lcons rfl (lcons rfl (lcons (lvI (by omega)) (lcons rfl rfl)))))))) rfl
  · exfalso; omega
theorem c_X3_byColumns0 {d : Nat} {S : Env} {fz : Bool} {m : M1} {p : M2} (hd : 5 ≤ d) (n t f g : Nat) (hP : PI p) (ht : IsPl t) (hn0 : 1 ≤ n) (hn : n ≤ 8) (hm : m t 0 = nF n) (hf : f + n ≤ 20) (hg : g = 33 ∨ g = 34) (hr : rk n (kr n (fun z => m (t + 2 + z)) (m (t + 10))) ≠ n) : Ct d k_X3_byColumns S fz [.ref (19), .ref (t), .ref (3), .int (iI (((f : Nat) : Int))), .ref (g)] m p (fun v m' p' => ∃ x : Nat → F, PI p' ∧ Fr (fun a_ => (22 ≤ a_ ∧ a_ < 32) ∨ a_ = g) m m' ∧ v = some (.int (iI 0))) := by
  obtain ⟨d, rfl⟩ : ∃ e, d = e + 1 := ⟨d - 1, by omega⟩
  refine ct_go (lv := [some (.ref (19)), some (.ref (t)), some (.ref (3)), some (.int (iI (((f : Nat) : Int)))), some (.ref (g)), none, none, none]) (Nat.le_of_ble_eq_true rfl) (okar_cons rfl (okar_cons rfl (okar_cons rfl (okar_cons rfl (okar_cons rfl okar_nil))))) rfl (fun Qr hQ => ?_)
  have ht' := IsPl_b ht
  have hgs : SH g = (1, 8) := by rcases hg with rfl | rfl <;> rfl
  have hrk := rk_le (n := n) (A := (kr n (fun z => m (t + 2 + z)) (m (t + 10))))
  refine rw_blk lk_X3_byColumns_0 ?_
  refine rw_of (fun rr hrr => q_aload_n rfl (q_getI (PI_pl hP ht).1 rfl (ki rfl hm (by omega)) (q_istore (Nat.le_of_ble_eq_true rfl) rfl (q_aload_n rfl (q_aload_n rfl hrr))))) ?_
  obtain ⟨_, mm1, pp2, hV3, RR3, rfl, hP3, hE3, hk3, hF3, hs3⟩ := c_X3_rankOfColumns (S := S) (fz := fz) (m := m) (p := p) (d := d) (by omega) (n) (t) hP ht (by omega) (by omega) hm
  refine rw_of (fun rr hrr => q_invV hV3 (show SH 19 = (12, 0) from rfl) rfl rfl (okar_cons rfl okar_nil) (Nat.le_of_ble_eq_true rfl) (q_iload rfl hrr)) ?_
  refine rw_icmp_ge ⟨by omega, by omega⟩ ⟨by omega, by omega⟩ (t := 18) rfl (fun hc4 => ?_) (fun hc4 => ?_)
  · exfalso; omega
  · skip
    refine rw_of (fun rr hrr => q_iconst hrr) ?_
    refine rw_ret hQ (q_ireturn (by omega)) ?_
    exact ⟨m 0, hP3, Fr_mono hF3 (fun a ha => by omega), rfl⟩
    
theorem c_X3_byCoefficients1 {d : Nat} {S : Env} {fz : Bool} {m : M1} {p : M2} (hd : 4 ≤ d) (n t g : Nat) (hP : PI p) (ht : IsPl t) (hn0 : 1 ≤ n) (hn : n ≤ 8) (hm : m t 0 = nF n) (hg : g = 33 ∨ g = 34) (hr : rk n (fun i => (cf n (fun z => m (t + 2 + z)) (m (t + 10)) (m 36)) (n - 1 - i)) = n) : Ct d k_X3_byCoefficients S fz [.ref (19), .ref (t), .ref (36), .ref (3), .ref (g)] m p (fun v m' p' => ∃ x : Nat → F, PI p' ∧ Fr (fun a_ => (22 ≤ a_ ∧ a_ < 33) ∨ a_ = g) m m' ∧ v = some (.int (iI 1)) ∧ ∀ x, (∀ i, i < n → dot n ((cf n (fun z => m (t + 2 + z)) (m (t + 10)) (m 36)) (n - 1 - i)) x = ask (m 4) n i - m 36 i) ↔ ∀ j, j < n → x j = m' g j) := by
  obtain ⟨d, rfl⟩ : ∃ e, d = e + 1 := ⟨d - 1, by omega⟩
  refine ct_go (lv := [some (.ref (19)), some (.ref (t)), some (.ref (36)), some (.ref (3)), some (.ref (g)), none, none, none]) (Nat.le_of_ble_eq_true rfl) (okar_cons rfl (okar_cons rfl (okar_cons rfl (okar_cons rfl (okar_cons rfl okar_nil))))) rfl (fun Qr hQ => ?_)
  have ht' := IsPl_b ht
  have hgs : SH g = (1, 8) := by rcases hg with rfl | rfl <;> rfl
  have hrk := rk_le (n := n) (A := fun i => (cf n (fun z => m (t + 2 + z)) (m (t + 10)) (m 36)) (n - 1 - i))
  obtain ⟨R, hE⟩ := hP.2.2.2.2.2.2.2.1
  have hRb : ∀ i, i < 8 → 22 ≤ R i ∧ R i < 30 := hE.2.2.2.1
  refine rw_blk lk_X3_byCoefficients_0 ?_
  refine rw_of (fun rr hrr => q_aload_n rfl (q_getI (PI_pl hP ht).1 rfl (ki rfl hm (by omega)) (q_istore (Nat.le_of_ble_eq_true rfl) rfl (q_aload_n rfl (q_iload rfl (q_aload_n rfl hrr)))))) ?_
  obtain ⟨_, mm1, pp2, hV3, rfl, rfl, hF3, hv3⟩ := c_X3_findAsked (S := S) (fz := fz) (m := m) (p := p) (d := d) (by omega) (n) hP (by omega)
  refine rw_of (fun rr hrr => q_invV hV3 (show SH 19 = (12, 0) from rfl) rfl rfl (okar_cons rfl (okar_cons rfl okar_nil)) (Nat.le_of_ble_eq_true rfl) (q_iload rfl (q_aload_n rfl (q_getR (PI_pl hP ht).1 rfl (PI_pl hP ht).2.2.1 (q_aload_n rfl (q_getR (show SH 19 = (12, 0) from rfl) rfl (pt_19_1 hP) hrr)))))) ?_
  obtain ⟨_, mm4, pp5, hV6, rfl, rfl, hF6, hv6⟩ := c_X6_copy (S := S) (fz := fz) (m := mm1) (p := p) (d := d) (by omega) (n) (t + 10) (30) (by omega) ((PI_pl hP ht).2.2.2.2.1) ((show SH 30 = (1, 8) from rfl)) (by omega) (by omega) (by omega)
  refine rw_of (fun rr hrr => q_invS hV6 rfl rfl (okar_cons rfl (okar_cons rfl (okar_cons rfl okar_nil))) (Nat.le_of_ble_eq_true rfl) (q_iload rfl (q_iconst (q_isub (q_istore (Nat.le_of_ble_eq_true rfl) rfl hrr))))) ?_
  have hL32 : ∀ s, s ≤ n → ∀ (m1 : M1) (x32_7 : Option Value), (Fr (fun a_ => 22 ≤ a_ ∧ a_ < 33) m m1 ∧ (∀ j, j ≤ n → m1 32 j = ask (m 4) n j) ∧ (∀ r, r < n → m1 30 r = (cf n (fun z => m (t + 2 + z)) (m (t + 10)) (m 36)) s r) ∧ (∀ k, n - s ≤ k → k < n → (∀ c, c < n → m1 (R k) c = (cf n (fun z => m (t + 2 + z)) (m (t + 10)) (m 36)) (n - 1 - k) c) ∧ m1 (R k) n = ask (m 4) n k - m 36 k)) → Rw (Ev d) k_X3_byCoefficients (32, [], [some (.ref (19)), some (.ref (t)), some (.ref (36)), some (.ref (3)), some (.ref (g)), some (.int (iI (((n : Nat) : Int)))), some (.int (iI (((n : Nat) : Int) - 1 - ((s : Nat) : Int)))), x32_7], [], hpM S fz (m1, p), 0, 0) Qr := by
    refine loop_any (fun s hi32 ih32 => ?_)
    intro m1 x32_7
    intro hI32
    obtain ⟨hF, hA, hS, hK⟩ := hI32
    refine rw_blk lk_X3_byCoefficients_32 ?_
    refine rw_of (fun rr hrr => q_iload rfl hrr) ?_
    refine rw_if_lt ⟨by omega, by omega⟩ (t := 136) rfl (fun hc7 => ?_) (fun hc7 => ?_)
    · skip
      refine rw_blk lk_X3_byCoefficients_136 ?_
      refine rw_of (fun rr hrr => q_aload_n rfl (q_getR (show SH 19 = (12, 0) from rfl) rfl (pt_19_0 hP) (q_iload rfl hrr))) ?_
      have e9 : n = s := (by omega)
      subst e9
      have er : rk n (fun k => m1 (R k)) = rk n (fun i => cf n (fun z => m (t + 2 + z)) (m (t + 10)) (m 36) (n - 1 - i)) := rk_congr (fun k hk c hc => (hK k (by omega) hk).1 c hc)
      obtain ⟨_, mm8, pp9, hV10, RR10, rfl, hE10, hk10, hF10, hs10⟩ := c_X1_solve (S := S) (fz := fz) (m := m1) (p := p) (d := d) (by omega) (20) (n) (R) hE (by omega)
      have hP10 := PI_eq hP hE10 hk10 (by omega)
      refine rw_of (fun rr hrr => q_invV hV10 (show SH 20 = (11, 0) from rfl) rfl rfl (okar_cons rfl okar_nil) (Nat.le_of_ble_eq_true rfl) (q_iload rfl hrr)) ?_
      refine rw_icmp_ge ⟨by omega, by omega⟩ ⟨by omega, by omega⟩ (t := 152) rfl (fun hc11 => ?_) (fun hc11 => ?_)
      · skip
        refine rw_blk lk_X3_byCoefficients_152 ?_
        refine rw_of (fun rr hrr => q_aload_n rfl (q_getR (show SH 19 = (12, 0) from rfl) rfl (pt_19_0 hP10) (q_iload rfl (q_aload rfl hrr)))) ?_
        obtain ⟨_, mm12, pp13, hV14, rfl, rfl, hF14, hv14⟩ := c_X1_readSolution (S := S) (fz := fz) (m := mm8) (p := pp9) (d := d) (by omega) (20) (n) (g) (RR10) hE10 (by omega) (hgs) (by omega) (by omega)
        refine rw_of (fun rr hrr => q_invV hV14 (show SH 20 = (11, 0) from rfl) rfl rfl (okar_cons rfl (okar_cons rfl okar_nil)) (Nat.le_of_ble_eq_true rfl) (q_iconst hrr)) ?_
        refine rw_ret hQ (q_ireturn (by omega)) ?_
        refine ⟨m 0, PI_eq hP hE10 hk10 (Or.inl rfl), Fr_trans (Fr_mono hF (fun a ha => by omega)) (Fr_trans (Fr_mono hF10 (fun a ha => by omega)) (Fr_mono hF14 (fun a ha => by omega))), rfl, fun x => ?_⟩
        have h9 : (∀ j, j < n → x j = mm12 g j) ↔ (∀ j, j < n → x j = mm8 (RR10 j) n) := by
          refine ⟨fun h j hj => ?_, fun h j hj => ?_⟩
          · rw [h j hj, hv14, if_pos hj]
          · rw [h j hj, hv14, if_pos hj]
        rw [h9, ← hs10 (er.trans hr) x]
        refine ⟨fun h k hk => ?_, fun h k hk => ?_⟩
        · have := h k hk
          rw [← (hK k (by omega) hk).2] at this
          exact (dot_congr (fun c hc => (hK k (by omega) hk).1 c hc) (fun _ _ => rfl)).trans this
        · have := h k hk
          have h2 := (hK k (by omega) hk).2
          rw [← h2]
          exact (dot_congr (fun c hc => ((hK k (by omega) hk).1 c hc).symm) (fun _ _ => rfl)).trans this
        
      · exfalso; omega
    · skip
      refine rw_of (fun rr hrr => q_aload_n rfl (q_getR (show SH 19 = (12, 0) from rfl) rfl (pt_19_0 hP) (q_iload rfl (q_iload rfl (q_aload_n rfl (q_getR (show SH 19 = (12, 0) from rfl) rfl (pt_19_1 hP) (q_aload_n rfl (q_getR (show SH 19 = (12, 0) from rfl) rfl (pt_19_3 hP) (q_iload rfl (q_iald (j := n - 1 - s) (show SH 32 = (1, 9) from rfl) (by omega) (by omega) rfl (q_aload_n rfl (q_iload rfl (q_iald (j := n - 1 - s) (show SH 36 = (1, 9) from rfl) (by omega) (by omega) rfl hrr))))))))))))) ?_
      obtain ⟨_, mm15, pp16, hV17, rfl, rfl, rfl⟩ := c_X2_minus (S := S) (fz := fz) (m := m1) (p := p) (d := d) (by omega) (m1 32 (n - 1 - s)) (m1 36 (n - 1 - s))
      refine rw_of (fun rr hrr => q_invS hV17 rfl rfl (okar_cons rfl (okar_cons rfl okar_nil)) (Nat.le_of_ble_eq_true rfl) hrr) ?_
      obtain ⟨_, mm18, pp19, hV20, rfl, rfl, hF20, hx20, hv20⟩ := c_X1_put (S := S) (fz := fz) (m := m1) (p := p) (d := d) (by omega) (20) (n) (n - 1 - s) (30) ((m1 32 (n - 1 - s)) - (m1 36 (n - 1 - s))) (R) hE (by omega) (by omega) ((show SH 30 = (1, 8) from rfl)) (by omega) (by have := hRb (n - 1 - s) (by omega); omega)
      refine rw_of (fun rr hrr => q_invV (rest := []) hV20 (show SH 20 = (11, 0) from rfl) (by rw [show (((n : Nat) : Int) - 1 - ((s : Nat) : Int) : Int) = ((n - 1 - s : Nat) : Int) by omega]; rfl) rfl (okar_cons rfl (okar_cons rfl (okar_cons rfl (okar_cons rfl okar_nil)))) (Nat.le_of_ble_eq_true rfl) (q_iload rfl (q_aload_n rfl (q_getR (PI_pl hP ht).1 rfl (PI_pl hP ht).2.1 (q_aload_n rfl (q_getR (show SH 19 = (12, 0) from rfl) rfl (pt_19_1 hP) (q_aload_n rfl (q_getR (show SH 19 = (12, 0) from rfl) rfl (pt_19_2 hP) hrr)))))))) ?_
      obtain ⟨_, mm21, pp22, hV23, rfl, rfl, hF23, hv23⟩ := c_X6_squareByColumn (S := S) (fz := fz) (m := mm18) (p := p) (d := d) (by omega) (n) (t + 1) (30) (31) (fun i => t + 2 + i) (by omega) (PI_pl hP ht).2.2.2.2.2.2 ((show SH 30 = (1, 8) from rfl)) ((show SH 31 = (1, 8) from rfl)) (by omega) (by omega) (by omega) (fun k hk => by omega)
      refine rw_of (fun rr hrr => q_invS hV23 rfl rfl (okar_cons rfl (okar_cons rfl (okar_cons rfl (okar_cons rfl okar_nil)))) (Nat.le_of_ble_eq_true rfl) (q_iconst (q_istore (Nat.le_of_ble_eq_true rfl) rfl hrr))) ?_
      have hL86 : ∀ k, k ≤ n → ∀ (m2 : M1), (Fr (fun a_ => a_ = 30) mm21 m2 ∧ ∀ j, m2 30 j = if j < k then mm21 31 j + mm21 36 (n - 1 - s) * mm21 (t + 10) j else mm21 30 j) → Rw (Ev d) k_X3_byCoefficients (86, [], [some (.ref (19)), some (.ref (t)), some (.ref (36)), some (.ref (3)), some (.ref (g)), some (.int (iI (((n : Nat) : Int)))), some (.int (iI (((n : Nat) : Int) - 1 - ((s : Nat) : Int)))), some (.int (iI (((k : Nat) : Int))))], [], hpM S fz (m2, p), 0, 0) Qr := by
        refine loop_any (fun k hi86 ih86 => ?_)
        intro m2
        intro hI86
        obtain ⟨hF86, hv86⟩ := hI86
        refine rw_blk lk_X3_byCoefficients_86 ?_
        refine rw_of (fun rr hrr => q_iload rfl (q_iload rfl hrr)) ?_
        refine rw_icmp_ge ⟨by omega, by omega⟩ ⟨by omega, by omega⟩ (t := 130) rfl (fun hc24 => ?_) (fun hc24 => ?_)
        · skip
          refine rw_blk lk_X3_byCoefficients_130 ?_
          refine rw_of (fun rr hrr => q_iinc rfl rfl (q_goto (t := 32) rfl hrr)) ?_
          have hA25 : Fr (fun a_ => 22 ≤ a_ ∧ a_ < 33) m m2 ∧ (∀ j, j ≤ n → m2 32 j = ask (m 4) n j) ∧ (∀ r, r < n → m2 30 r = (cf n (fun z => m (t + 2 + z)) (m (t + 10)) (m 36)) (s + 1) r) ∧ (∀ k, n - (s + 1) ≤ k → k < n → (∀ c, c < n → m2 (R k) c = (cf n (fun z => m (t + 2 + z)) (m (t + 10)) (m 36)) (n - 1 - k) c) ∧ m2 (R k) n = ask (m 4) n k - m 36 k) := by
            have hR := hRb (n - 1 - s) (by omega)
            have hAA : ∀ r, r < n → mm18 (t + 2 + r) = m (t + 2 + r) := fun r hr => by rw [hF20 _ (by omega), hF _ (by omega)]
            refine ⟨Fr_trans hF (Fr_trans (Fr_mono hF20 (fun a ha => by omega)) (Fr_trans (Fr_mono hF23 (fun a ha => by omega)) (Fr_mono hF86 (fun a ha => by omega)))), fun j hj => ?_, fun r hr => ?_, fun k hk hk' => ?_⟩
            · rw [hF86 32 (by omega), hF23 32 (by omega), hF20 32 (by omega)]
              exact hA j hj
            · rw [hv86 r, if_pos (by omega), hv23, if_pos hr, hAA r hr, hF20 30 (by omega), hF23 36 (by omega), hF20 36 (by omega), hF 36 (by omega), hF23 (t + 10) (by omega), hF20 (t + 10) (by omega), hF (t + 10) (by omega)]
              show _ = dot n (m (t + 2 + r)) (cf n _ _ _ s) + _
              rw [dot_congr (fun _ _ => rfl) (fun c hc => hS c hc)]
            · have hk8 := hRb k (by omega)
              have e1 : m2 (R k) = mm18 (R k) := by rw [hF86 _ (by omega), hF23 _ (by omega)]
              rw [e1]
              by_cases q : k = n - 1 - s
              · subst q
                refine ⟨fun c hc => ?_, ?_⟩
                · rw [hv20 c hc, hS c hc, show n - 1 - (n - 1 - s) = s by omega]
                · rw [hx20, hA _ (by omega), hF 36 (by omega)]
              · rw [hF20 (R k) (fun z => q (hE.2.2.2.2 k _ (by omega) (by omega) z))]
                exact hK k (by omega) hk'
          exact rw_cast (ih32 (by omega) m2 (some (.int (iI (((k : Nat) : Int))))) hA25) (lcons rfl (lcons rfl (lcons rfl (lcons rfl (lcons rfl (lcons rfl (lcons (lvI (by omega)) (lcons rfl rfl)))))))) rfl
        · skip
          refine rw_of (fun rr hrr => q_aload_n rfl (q_getR (show SH 19 = (12, 0) from rfl) rfl (pt_19_1 hP) (q_iload rfl (q_aload_n rfl (q_getR (show SH 19 = (12, 0) from rfl) rfl (pt_19_2 hP) (q_iload rfl (q_iald (j := k) (show SH 31 = (1, 8) from rfl) rfl (by omega) rfl (q_aload_n rfl (q_iload rfl (q_iald (j := n - 1 - s) (show SH 36 = (1, 9) from rfl) (by omega) (by omega) rfl (q_aload_n rfl (q_getR (PI_pl hP ht).1 rfl (PI_pl hP ht).2.2.1 (q_iload rfl (q_iald (j := k) (PI_pl hP ht).2.2.2.2.1 rfl (by omega) rfl hrr)))))))))))))) ?_
          obtain ⟨_, mm26, pp27, hV28, rfl, rfl, rfl⟩ := c_X2_times (S := S) (fz := fz) (m := m2) (p := p) (d := d) (by omega) (m2 36 (n - 1 - s)) (m2 (t + 10) k)
          refine rw_of (fun rr hrr => q_invS hV28 rfl rfl (okar_cons rfl (okar_cons rfl okar_nil)) (Nat.le_of_ble_eq_true rfl) hrr) ?_
          obtain ⟨_, mm29, pp30, hV31, rfl, rfl, rfl⟩ := c_X2_plus (S := S) (fz := fz) (m := m2) (p := p) (d := d) (by omega) (m2 31 k) ((m2 36 (n - 1 - s)) * (m2 (t + 10) k))
          refine rw_of (fun rr hrr => q_invS hV31 rfl rfl (okar_cons rfl (okar_cons rfl okar_nil)) (Nat.le_of_ble_eq_true rfl) (q_iast (j := k) (xx := (m2 31 k) + ((m2 36 (n - 1 - s)) * (m2 (t + 10) k))) (show SH 30 = (1, 8) from rfl) rfl (by omega) rfl hrr)) ?_
          generalize hm33 : w1 m2 30 k ((m2 31 k) + ((m2 36 (n - 1 - s)) * (m2 (t + 10) k))) = mm32
          refine rw_of (fun rr hrr => q_iinc rfl rfl (q_goto (t := 86) rfl hrr)) ?_
          exact rw_cast (ih86 (by omega) mm32 (by exact ⟨fr_w hm33 hF86 rfl, fill_w hm33 hv86 (by rw [hF86 31 (by omega), hF86 36 (by omega), hF86 (t + 10) (by omega)])⟩)) (lcons rfl (lcons rfl (lcons rfl (lcons rfl (lcons rfl (lcons rfl (lcons rfl (lcons (lvI (by omega)) rfl)))))))) rfl
      exact rw_cast (hL86 0 (by omega) mm21 (by exact ⟨Fr_rfl, fun j => (if_neg (Nat.not_lt_zero j)).symm⟩)) (lcons rfl (lcons rfl (lcons rfl (lcons rfl (lcons rfl (lcons rfl (lcons rfl (lcons (lvI (by omega)) rfl)))))))) rfl
  have hA34 : Fr (fun a_ => 22 ≤ a_ ∧ a_ < 33) m mm4 ∧ (∀ j, j ≤ n → mm4 32 j = ask (m 4) n j) ∧ (∀ r, r < n → mm4 30 r = (cf n (fun z => m (t + 2 + z)) (m (t + 10)) (m 36)) 0 r) ∧ (∀ k, n - 0 ≤ k → k < n → (∀ c, c < n → mm4 (R k) c = (cf n (fun z => m (t + 2 + z)) (m (t + 10)) (m 36)) (n - 1 - k) c) ∧ mm4 (R k) n = ask (m 4) n k - m 36 k) := by
    refine ⟨Fr_trans (Fr_mono hF3 (fun a ha => by omega)) (Fr_mono hF6 (fun a ha => by omega)), fun j hj => ?_, fun r hr => ?_, fun k hk hk' => absurd hk' (by omega)⟩
    · rw [hF6 32 (by omega)]
      exact hv3 j hj
    · rw [hv6, if_pos hr, hF3 _ (by omega)]
      rfl
  exact rw_cast (hL32 0 (by omega) mm4 none hA34) (lcons rfl (lcons rfl (lcons rfl (lcons rfl (lcons rfl (lcons rfl (lcons (lvI (by omega)) (lcons rfl rfl)))))))) rfl
theorem c_X3_byCoefficients0 {d : Nat} {S : Env} {fz : Bool} {m : M1} {p : M2} (hd : 4 ≤ d) (n t g : Nat) (hP : PI p) (ht : IsPl t) (hn0 : 1 ≤ n) (hn : n ≤ 8) (hm : m t 0 = nF n) (hg : g = 33 ∨ g = 34) (hr : rk n (fun i => (cf n (fun z => m (t + 2 + z)) (m (t + 10)) (m 36)) (n - 1 - i)) ≠ n) : Ct d k_X3_byCoefficients S fz [.ref (19), .ref (t), .ref (36), .ref (3), .ref (g)] m p (fun v m' p' => ∃ x : Nat → F, PI p' ∧ Fr (fun a_ => (22 ≤ a_ ∧ a_ < 33) ∨ a_ = g) m m' ∧ v = some (.int (iI 0))) := by
  obtain ⟨d, rfl⟩ : ∃ e, d = e + 1 := ⟨d - 1, by omega⟩
  refine ct_go (lv := [some (.ref (19)), some (.ref (t)), some (.ref (36)), some (.ref (3)), some (.ref (g)), none, none, none]) (Nat.le_of_ble_eq_true rfl) (okar_cons rfl (okar_cons rfl (okar_cons rfl (okar_cons rfl (okar_cons rfl okar_nil))))) rfl (fun Qr hQ => ?_)
  have ht' := IsPl_b ht
  have hgs : SH g = (1, 8) := by rcases hg with rfl | rfl <;> rfl
  have hrk := rk_le (n := n) (A := fun i => (cf n (fun z => m (t + 2 + z)) (m (t + 10)) (m 36)) (n - 1 - i))
  obtain ⟨R, hE⟩ := hP.2.2.2.2.2.2.2.1
  have hRb : ∀ i, i < 8 → 22 ≤ R i ∧ R i < 30 := hE.2.2.2.1
  refine rw_blk lk_X3_byCoefficients_0 ?_
  refine rw_of (fun rr hrr => q_aload_n rfl (q_getI (PI_pl hP ht).1 rfl (ki rfl hm (by omega)) (q_istore (Nat.le_of_ble_eq_true rfl) rfl (q_aload_n rfl (q_iload rfl (q_aload_n rfl hrr)))))) ?_
  obtain ⟨_, mm1, pp2, hV3, rfl, rfl, hF3, hv3⟩ := c_X3_findAsked (S := S) (fz := fz) (m := m) (p := p) (d := d) (by omega) (n) hP (by omega)
  refine rw_of (fun rr hrr => q_invV hV3 (show SH 19 = (12, 0) from rfl) rfl rfl (okar_cons rfl (okar_cons rfl okar_nil)) (Nat.le_of_ble_eq_true rfl) (q_iload rfl (q_aload_n rfl (q_getR (PI_pl hP ht).1 rfl (PI_pl hP ht).2.2.1 (q_aload_n rfl (q_getR (show SH 19 = (12, 0) from rfl) rfl (pt_19_1 hP) hrr)))))) ?_
  obtain ⟨_, mm4, pp5, hV6, rfl, rfl, hF6, hv6⟩ := c_X6_copy (S := S) (fz := fz) (m := mm1) (p := p) (d := d) (by omega) (n) (t + 10) (30) (by omega) ((PI_pl hP ht).2.2.2.2.1) ((show SH 30 = (1, 8) from rfl)) (by omega) (by omega) (by omega)
  refine rw_of (fun rr hrr => q_invS hV6 rfl rfl (okar_cons rfl (okar_cons rfl (okar_cons rfl okar_nil))) (Nat.le_of_ble_eq_true rfl) (q_iload rfl (q_iconst (q_isub (q_istore (Nat.le_of_ble_eq_true rfl) rfl hrr))))) ?_
  have hL32 : ∀ s, s ≤ n → ∀ (m1 : M1) (x32_7 : Option Value), (Fr (fun a_ => 22 ≤ a_ ∧ a_ < 33) m m1 ∧ (∀ j, j ≤ n → m1 32 j = ask (m 4) n j) ∧ (∀ r, r < n → m1 30 r = (cf n (fun z => m (t + 2 + z)) (m (t + 10)) (m 36)) s r) ∧ (∀ k, n - s ≤ k → k < n → (∀ c, c < n → m1 (R k) c = (cf n (fun z => m (t + 2 + z)) (m (t + 10)) (m 36)) (n - 1 - k) c) ∧ m1 (R k) n = ask (m 4) n k - m 36 k)) → Rw (Ev d) k_X3_byCoefficients (32, [], [some (.ref (19)), some (.ref (t)), some (.ref (36)), some (.ref (3)), some (.ref (g)), some (.int (iI (((n : Nat) : Int)))), some (.int (iI (((n : Nat) : Int) - 1 - ((s : Nat) : Int)))), x32_7], [], hpM S fz (m1, p), 0, 0) Qr := by
    refine loop_any (fun s hi32 ih32 => ?_)
    intro m1 x32_7
    intro hI32
    obtain ⟨hF, hA, hS, hK⟩ := hI32
    refine rw_blk lk_X3_byCoefficients_32 ?_
    refine rw_of (fun rr hrr => q_iload rfl hrr) ?_
    refine rw_if_lt ⟨by omega, by omega⟩ (t := 136) rfl (fun hc7 => ?_) (fun hc7 => ?_)
    · skip
      refine rw_blk lk_X3_byCoefficients_136 ?_
      refine rw_of (fun rr hrr => q_aload_n rfl (q_getR (show SH 19 = (12, 0) from rfl) rfl (pt_19_0 hP) (q_iload rfl hrr))) ?_
      have e9 : n = s := (by omega)
      subst e9
      have er : rk n (fun k => m1 (R k)) = rk n (fun i => cf n (fun z => m (t + 2 + z)) (m (t + 10)) (m 36) (n - 1 - i)) := rk_congr (fun k hk c hc => (hK k (by omega) hk).1 c hc)
      obtain ⟨_, mm8, pp9, hV10, RR10, rfl, hE10, hk10, hF10, hs10⟩ := c_X1_solve (S := S) (fz := fz) (m := m1) (p := p) (d := d) (by omega) (20) (n) (R) hE (by omega)
      have hP10 := PI_eq hP hE10 hk10 (by omega)
      refine rw_of (fun rr hrr => q_invV hV10 (show SH 20 = (11, 0) from rfl) rfl rfl (okar_cons rfl okar_nil) (Nat.le_of_ble_eq_true rfl) (q_iload rfl hrr)) ?_
      refine rw_icmp_ge ⟨by omega, by omega⟩ ⟨by omega, by omega⟩ (t := 152) rfl (fun hc11 => ?_) (fun hc11 => ?_)
      · exfalso; omega
      · skip
        refine rw_of (fun rr hrr => q_iconst hrr) ?_
        refine rw_ret hQ (q_ireturn (by omega)) ?_
        exact ⟨m 0, PI_eq hP hE10 hk10 (Or.inl rfl), Fr_trans (Fr_mono hF (fun a ha => by omega)) (Fr_mono hF10 (fun a ha => by omega)), rfl⟩
        
    · skip
      refine rw_of (fun rr hrr => q_aload_n rfl (q_getR (show SH 19 = (12, 0) from rfl) rfl (pt_19_0 hP) (q_iload rfl (q_iload rfl (q_aload_n rfl (q_getR (show SH 19 = (12, 0) from rfl) rfl (pt_19_1 hP) (q_aload_n rfl (q_getR (show SH 19 = (12, 0) from rfl) rfl (pt_19_3 hP) (q_iload rfl (q_iald (j := n - 1 - s) (show SH 32 = (1, 9) from rfl) (by omega) (by omega) rfl (q_aload_n rfl (q_iload rfl (q_iald (j := n - 1 - s) (show SH 36 = (1, 9) from rfl) (by omega) (by omega) rfl hrr))))))))))))) ?_
      obtain ⟨_, mm12, pp13, hV14, rfl, rfl, rfl⟩ := c_X2_minus (S := S) (fz := fz) (m := m1) (p := p) (d := d) (by omega) (m1 32 (n - 1 - s)) (m1 36 (n - 1 - s))
      refine rw_of (fun rr hrr => q_invS hV14 rfl rfl (okar_cons rfl (okar_cons rfl okar_nil)) (Nat.le_of_ble_eq_true rfl) hrr) ?_
      obtain ⟨_, mm15, pp16, hV17, rfl, rfl, hF17, hx17, hv17⟩ := c_X1_put (S := S) (fz := fz) (m := m1) (p := p) (d := d) (by omega) (20) (n) (n - 1 - s) (30) ((m1 32 (n - 1 - s)) - (m1 36 (n - 1 - s))) (R) hE (by omega) (by omega) ((show SH 30 = (1, 8) from rfl)) (by omega) (by have := hRb (n - 1 - s) (by omega); omega)
      refine rw_of (fun rr hrr => q_invV (rest := []) hV17 (show SH 20 = (11, 0) from rfl) (by rw [show (((n : Nat) : Int) - 1 - ((s : Nat) : Int) : Int) = ((n - 1 - s : Nat) : Int) by omega]; rfl) rfl (okar_cons rfl (okar_cons rfl (okar_cons rfl (okar_cons rfl okar_nil)))) (Nat.le_of_ble_eq_true rfl) (q_iload rfl (q_aload_n rfl (q_getR (PI_pl hP ht).1 rfl (PI_pl hP ht).2.1 (q_aload_n rfl (q_getR (show SH 19 = (12, 0) from rfl) rfl (pt_19_1 hP) (q_aload_n rfl (q_getR (show SH 19 = (12, 0) from rfl) rfl (pt_19_2 hP) hrr)))))))) ?_
      obtain ⟨_, mm18, pp19, hV20, rfl, rfl, hF20, hv20⟩ := c_X6_squareByColumn (S := S) (fz := fz) (m := mm15) (p := p) (d := d) (by omega) (n) (t + 1) (30) (31) (fun i => t + 2 + i) (by omega) (PI_pl hP ht).2.2.2.2.2.2 ((show SH 30 = (1, 8) from rfl)) ((show SH 31 = (1, 8) from rfl)) (by omega) (by omega) (by omega) (fun k hk => by omega)
      refine rw_of (fun rr hrr => q_invS hV20 rfl rfl (okar_cons rfl (okar_cons rfl (okar_cons rfl (okar_cons rfl okar_nil)))) (Nat.le_of_ble_eq_true rfl) (q_iconst (q_istore (Nat.le_of_ble_eq_true rfl) rfl hrr))) ?_
      have hL86 : ∀ k, k ≤ n → ∀ (m2 : M1), (Fr (fun a_ => a_ = 30) mm18 m2 ∧ ∀ j, m2 30 j = if j < k then mm18 31 j + mm18 36 (n - 1 - s) * mm18 (t + 10) j else mm18 30 j) → Rw (Ev d) k_X3_byCoefficients (86, [], [some (.ref (19)), some (.ref (t)), some (.ref (36)), some (.ref (3)), some (.ref (g)), some (.int (iI (((n : Nat) : Int)))), some (.int (iI (((n : Nat) : Int) - 1 - ((s : Nat) : Int)))), some (.int (iI (((k : Nat) : Int))))], [], hpM S fz (m2, p), 0, 0) Qr := by
        refine loop_any (fun k hi86 ih86 => ?_)
        intro m2
        intro hI86
        obtain ⟨hF86, hv86⟩ := hI86
        refine rw_blk lk_X3_byCoefficients_86 ?_
        refine rw_of (fun rr hrr => q_iload rfl (q_iload rfl hrr)) ?_
        refine rw_icmp_ge ⟨by omega, by omega⟩ ⟨by omega, by omega⟩ (t := 130) rfl (fun hc21 => ?_) (fun hc21 => ?_)
        · skip
          refine rw_blk lk_X3_byCoefficients_130 ?_
          refine rw_of (fun rr hrr => q_iinc rfl rfl (q_goto (t := 32) rfl hrr)) ?_
          have hA22 : Fr (fun a_ => 22 ≤ a_ ∧ a_ < 33) m m2 ∧ (∀ j, j ≤ n → m2 32 j = ask (m 4) n j) ∧ (∀ r, r < n → m2 30 r = (cf n (fun z => m (t + 2 + z)) (m (t + 10)) (m 36)) (s + 1) r) ∧ (∀ k, n - (s + 1) ≤ k → k < n → (∀ c, c < n → m2 (R k) c = (cf n (fun z => m (t + 2 + z)) (m (t + 10)) (m 36)) (n - 1 - k) c) ∧ m2 (R k) n = ask (m 4) n k - m 36 k) := by
            have hR := hRb (n - 1 - s) (by omega)
            have hAA : ∀ r, r < n → mm15 (t + 2 + r) = m (t + 2 + r) := fun r hr => by rw [hF17 _ (by omega), hF _ (by omega)]
            refine ⟨Fr_trans hF (Fr_trans (Fr_mono hF17 (fun a ha => by omega)) (Fr_trans (Fr_mono hF20 (fun a ha => by omega)) (Fr_mono hF86 (fun a ha => by omega)))), fun j hj => ?_, fun r hr => ?_, fun k hk hk' => ?_⟩
            · rw [hF86 32 (by omega), hF20 32 (by omega), hF17 32 (by omega)]
              exact hA j hj
            · rw [hv86 r, if_pos (by omega), hv20, if_pos hr, hAA r hr, hF17 30 (by omega), hF20 36 (by omega), hF17 36 (by omega), hF 36 (by omega), hF20 (t + 10) (by omega), hF17 (t + 10) (by omega), hF (t + 10) (by omega)]
              show _ = dot n (m (t + 2 + r)) (cf n _ _ _ s) + _
              rw [dot_congr (fun _ _ => rfl) (fun c hc => hS c hc)]
            · have hk8 := hRb k (by omega)
              have e1 : m2 (R k) = mm15 (R k) := by rw [hF86 _ (by omega), hF20 _ (by omega)]
              rw [e1]
              by_cases q : k = n - 1 - s
              · subst q
                refine ⟨fun c hc => ?_, ?_⟩
                · rw [hv17 c hc, hS c hc, show n - 1 - (n - 1 - s) = s by omega]
                · rw [hx17, hA _ (by omega), hF 36 (by omega)]
              · rw [hF17 (R k) (fun z => q (hE.2.2.2.2 k _ (by omega) (by omega) z))]
                exact hK k (by omega) hk'
          exact rw_cast (ih32 (by omega) m2 (some (.int (iI (((k : Nat) : Int))))) hA22) (lcons rfl (lcons rfl (lcons rfl (lcons rfl (lcons rfl (lcons rfl (lcons (lvI (by omega)) (lcons rfl rfl)))))))) rfl
        · skip
          refine rw_of (fun rr hrr => q_aload_n rfl (q_getR (show SH 19 = (12, 0) from rfl) rfl (pt_19_1 hP) (q_iload rfl (q_aload_n rfl (q_getR (show SH 19 = (12, 0) from rfl) rfl (pt_19_2 hP) (q_iload rfl (q_iald (j := k) (show SH 31 = (1, 8) from rfl) rfl (by omega) rfl (q_aload_n rfl (q_iload rfl (q_iald (j := n - 1 - s) (show SH 36 = (1, 9) from rfl) (by omega) (by omega) rfl (q_aload_n rfl (q_getR (PI_pl hP ht).1 rfl (PI_pl hP ht).2.2.1 (q_iload rfl (q_iald (j := k) (PI_pl hP ht).2.2.2.2.1 rfl (by omega) rfl hrr)))))))))))))) ?_
          obtain ⟨_, mm23, pp24, hV25, rfl, rfl, rfl⟩ := c_X2_times (S := S) (fz := fz) (m := m2) (p := p) (d := d) (by omega) (m2 36 (n - 1 - s)) (m2 (t + 10) k)
          refine rw_of (fun rr hrr => q_invS hV25 rfl rfl (okar_cons rfl (okar_cons rfl okar_nil)) (Nat.le_of_ble_eq_true rfl) hrr) ?_
          obtain ⟨_, mm26, pp27, hV28, rfl, rfl, rfl⟩ := c_X2_plus (S := S) (fz := fz) (m := m2) (p := p) (d := d) (by omega) (m2 31 k) ((m2 36 (n - 1 - s)) * (m2 (t + 10) k))
          refine rw_of (fun rr hrr => q_invS hV28 rfl rfl (okar_cons rfl (okar_cons rfl okar_nil)) (Nat.le_of_ble_eq_true rfl) (q_iast (j := k) (xx := (m2 31 k) + ((m2 36 (n - 1 - s)) * (m2 (t + 10) k))) (show SH 30 = (1, 8) from rfl) rfl (by omega) rfl hrr)) ?_
          generalize hm30 : w1 m2 30 k ((m2 31 k) + ((m2 36 (n - 1 - s)) * (m2 (t + 10) k))) = mm29
          refine rw_of (fun rr hrr => q_iinc rfl rfl (q_goto (t := 86) rfl hrr)) ?_
          exact rw_cast (ih86 (by omega) mm29 (by exact ⟨fr_w hm30 hF86 rfl, fill_w hm30 hv86 (by rw [hF86 31 (by omega), hF86 36 (by omega), hF86 (t + 10) (by omega)])⟩)) (lcons rfl (lcons rfl (lcons rfl (lcons rfl (lcons rfl (lcons rfl (lcons rfl (lcons (lvI (by omega)) rfl)))))))) rfl
      exact rw_cast (hL86 0 (by omega) mm18 (by exact ⟨Fr_rfl, fun j => (if_neg (Nat.not_lt_zero j)).symm⟩)) (lcons rfl (lcons rfl (lcons rfl (lcons rfl (lcons rfl (lcons rfl (lcons rfl (lcons (lvI (by omega)) rfl)))))))) rfl
  have hA31 : Fr (fun a_ => 22 ≤ a_ ∧ a_ < 33) m mm4 ∧ (∀ j, j ≤ n → mm4 32 j = ask (m 4) n j) ∧ (∀ r, r < n → mm4 30 r = (cf n (fun z => m (t + 2 + z)) (m (t + 10)) (m 36)) 0 r) ∧ (∀ k, n - 0 ≤ k → k < n → (∀ c, c < n → mm4 (R k) c = (cf n (fun z => m (t + 2 + z)) (m (t + 10)) (m 36)) (n - 1 - k) c) ∧ mm4 (R k) n = ask (m 4) n k - m 36 k) := by
    refine ⟨Fr_trans (Fr_mono hF3 (fun a ha => by omega)) (Fr_mono hF6 (fun a ha => by omega)), fun j hj => ?_, fun r hr => ?_, fun k hk hk' => absurd hk' (by omega)⟩
    · rw [hF6 32 (by omega)]
      exact hv3 j hj
    · rw [hv6, if_pos hr, hF3 _ (by omega)]
      rfl
  exact rw_cast (hL32 0 (by omega) mm4 none hA31) (lcons rfl (lcons rfl (lcons rfl (lcons rfl (lcons rfl (lcons rfl (lcons (lvI (by omega)) (lcons rfl rfl)))))))) rfl
