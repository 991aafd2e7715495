theorem c_X3_rankOfColumns {d : Nat} {S : MC} {fz : Bool} {m : M1} {p : M2} (hd : 4 ≤ d) (n t : Nat) (hP : PI p) (ht : IsPl t) (hn0 : 1 ≤ n) (hn : n ≤ 8) (hm : m t 0 = nF n) : Ct d k_X3_rankOfColumns S fz [.ref (19), .ref (t)] m p (fun v m' p' => ∃ RR, v = some (.int (iI ((rk n (kr n (fun z => m (t + 2 + z)) (m (t + 10))) : Nat) : Int))) ∧ PI p' ∧ EQ p' 20 RR ∧ Pk 21 p p' ∧ Fr (fun a_ => 22 ≤ a_ ∧ a_ < 32) m m' ∧ (rk n (kr n (fun z => m (t + 2 + z)) (m (t + 10))) = n → ∀ x, (∀ i, i < n → dot n ((kr n (fun z => m (t + 2 + z)) (m (t + 10))) i) x = if i + 1 = n then 1 else 0) ↔ ∀ i, i < n → x i = m' (RR i) n)) := by
  obtain ⟨d, rfl⟩ : ∃ e, d = e + 1 := ⟨d - 1, by omega⟩
  refine ct_go (lv := [some (.ref (19)), some (.ref (t)), none, none]) (Nat.le_of_ble_eq_true rfl) (okar_cons rfl (okar_cons rfl okar_nil)) rfl (fun Qr hQ => ?_)
  have ht' := IsPl_b ht
  obtain ⟨R, hE⟩ := hP.2.2.2.2.2.2.2.1
  have hRb : ∀ i, i < 8 → 22 ≤ R i ∧ R i < 30 := hE.2.2.2.1
  refine rw_blk lk_X3_rankOfColumns_0 ?_
  refine rw_of (fun rr hrr => q_aload_n rfl (q_getI (PI_pl hP ht).1 rfl (ki rfl hm (by omega)) (q_istore_n (Nat.le_of_ble_eq_true rfl) rfl (q_iload_n rfl (q_aload_n rfl (q_getR (PI_pl hP ht).1 rfl (PI_pl hP ht).2.2.1 (q_aload_n rfl (q_getR (show SH 19 = (12, 0) from rfl) rfl (pt_19_1 hP) hrr)))))))) ?_
  obtain ⟨_, m1, p2, hV3, rfl, rfl, hF3, hv3⟩ := c_X6_copy (S := S) (fz := fz) (m := m) (p := p) (d := d) (by omega) (n) (t + 10) (30) (by omega) ((PI_pl hP ht).2.2.2.2.1) ((show SH 30 = (1, 8) from rfl)) (by omega) (by omega) (by omega)
  refine rw_of (fun rr hrr => q_invS hV3 rfl rfl (okar_cons rfl (okar_cons rfl (okar_cons rfl okar_nil))) (Nat.le_of_ble_eq_true rfl) (q_iconst (q_istore_n (Nat.le_of_ble_eq_true rfl) rfl hrr))) ?_
  have hL19 : ∀ i, i ≤ n → ∀ (m1 : M1), (Fr (fun a_ => 22 ≤ a_ ∧ a_ < 32) m m1 ∧ (∀ r, r < n → m1 30 r = (kr n (fun z => m (t + 2 + z)) (m (t + 10))) i r) ∧ (∀ k, k < i → (∀ c, c < n → m1 (R k) c = (kr n (fun z => m (t + 2 + z)) (m (t + 10))) k c) ∧ m1 (R k) n = if k + 1 = n then 1 else 0)) → Rw (Ev d) k_X3_rankOfColumns (19, [], [some (.ref (19)), some (.ref (t)), some (.int (iI (((n : Nat) : Int)))), some (.int (iI (((i : Nat) : Int))))], [], hpM S fz (m1, p), 0, 0) Qr := by
    refine loop_any (fun i hi19 ih19 => ?_)
    intro m1
    intro hI19
    obtain ⟨hF, hS, hK⟩ := hI19
    refine rw_blk lk_X3_rankOfColumns_19 ?_
    refine rw_of (fun rr hrr => q_iload_n rfl (q_iload_n rfl hrr)) ?_
    refine rw_icmp_ge ⟨by omega, by omega⟩ ⟨by omega, by omega⟩ (t := 83) rfl (fun hc4 => ?_) (fun hc4 => ?_)
    · skip
      refine rw_blk lk_X3_rankOfColumns_83 ?_
      refine rw_of (fun rr hrr => q_aload_n rfl (q_getR (show SH 19 = (12, 0) from rfl) rfl (pt_19_0 hP) (q_iload_n rfl hrr))) ?_
      obtain ⟨_, m5, p6, hV7, RR7, rfl, hE7, hk7, hF7, hs7⟩ := c_X1_solve (S := S) (fz := fz) (m := m1) (p := p) (d := d) (by omega) (20) (n) (R) hE (by omega)
      refine rw_of (fun rr hrr => q_invV hV7 (show SH 20 = (11, 0) from rfl) rfl rfl (okar_cons rfl okar_nil) (Nat.le_of_ble_eq_true rfl) hrr) ?_
      refine rw_ret hQ (q_ireturn (Or.inl rfl)) ?_
      
      have e9 : i = n := (by omega)
      subst e9
      have er : rk i (fun k => m1 (R k)) = rk i (kr i (fun z => m (t + 2 + z)) (m (t + 10))) := rk_congr (fun k hk c hc => (hK k hk).1 c hc)
      refine ⟨RR7, by rw [er], PI_eq hP hE7 hk7 (Or.inl rfl), hE7, hk7, Fr_trans hF (Fr_mono hF7 (fun a ha => by omega)), fun q x => ?_⟩
      rw [← hs7 (er.trans q) x]
      refine ⟨fun h k hk => ?_, fun h k hk => ?_⟩
      · have := h k hk
        rw [← (hK k hk).2] at this
        exact (dot_congr (fun c hc => (hK k hk).1 c hc) (fun _ _ => rfl)).trans this
      · have := h k hk
        have h2 := (hK k hk).2
        rw [← h2]
        exact (dot_congr (fun c hc => ((hK k hk).1 c hc).symm) (fun _ _ => rfl)).trans this
    · skip
      refine rw_of (fun rr hrr => q_aload_n rfl (q_getR (show SH 19 = (12, 0) from rfl) rfl (pt_19_0 hP) (q_iload_n rfl (q_iload_n rfl (q_aload_n rfl (q_getR (show SH 19 = (12, 0) from rfl) rfl (pt_19_1 hP) (q_iload_n rfl (q_iload_n rfl (q_iconst (q_isub hrr)))))))))) ?_
      refine rw_icmp_ne ⟨by omega, by omega⟩ ⟨by omega, by omega⟩ (t := 45) rfl (fun hc8 => ?_) (fun hc8 => ?_)
      · skip
        refine rw_blk lk_X3_rankOfColumns_45 ?_
        refine rw_of (fun rr hrr => q_iconst hrr) ?_
        refine rw_blk lk_X3_rankOfColumns_46 ?_
        obtain ⟨_, m9, p10, hV11, rfl, rfl, hF11, hx11, hv11⟩ := c_X1_put (S := S) (fz := fz) (m := m1) (p := p) (d := d) (by omega) (20) (n) (i) (30) ((0 : F)) (R) hE (by omega) (by omega) ((show SH 30 = (1, 8) from rfl)) (by omega) (by have := hRb i (by omega); omega)
        refine rw_of (fun rr hrr => q_invV hV11 (show SH 20 = (11, 0) from rfl) rfl rfl (okar_cons rfl (okar_cons rfl (okar_cons rfl (okar_cons rfl okar_nil)))) (Nat.le_of_ble_eq_true rfl) (q_iload_n rfl (q_aload_n rfl (q_getR (PI_pl hP ht).1 rfl (PI_pl hP ht).2.1 (q_aload_n rfl (q_getR (show SH 19 = (12, 0) from rfl) rfl (pt_19_1 hP) (q_aload_n rfl (q_getR (show SH 19 = (12, 0) from rfl) rfl (pt_19_2 hP) hrr)))))))) ?_
        obtain ⟨_, m12, p13, hV14, rfl, rfl, hF14, hv14⟩ := c_X6_squareByColumn (S := S) (fz := fz) (m := m9) (p := p) (d := d) (by omega) (n) (t + 1) (30) (31) (fun i => t + 2 + i) (by omega) (PI_pl hP ht).2.2.2.2.2.2 ((show SH 30 = (1, 8) from rfl)) ((show SH 31 = (1, 8) from rfl)) (by omega) (by omega) (by omega) (fun k hk => by omega)
        refine rw_of (fun rr hrr => q_invS hV14 rfl rfl (okar_cons rfl (okar_cons rfl (okar_cons rfl (okar_cons rfl okar_nil)))) (Nat.le_of_ble_eq_true rfl) (q_iload_n rfl (q_aload_n rfl (q_getR (show SH 19 = (12, 0) from rfl) rfl (pt_19_2 hP) (q_aload_n rfl (q_getR (show SH 19 = (12, 0) from rfl) rfl (pt_19_1 hP) hrr)))))) ?_
        obtain ⟨_, m15, p16, hV17, rfl, rfl, hF17, hv17⟩ := c_X6_copy (S := S) (fz := fz) (m := m12) (p := p) (d := d) (by omega) (n) (31) (30) (by omega) ((show SH 31 = (1, 8) from rfl)) ((show SH 30 = (1, 8) from rfl)) (by omega) (by omega) (by omega)
        refine rw_of (fun rr hrr => q_invS hV17 rfl rfl (okar_cons rfl (okar_cons rfl (okar_cons rfl okar_nil))) (Nat.le_of_ble_eq_true rfl) (q_iinc rfl rfl (q_goto (t := 19) rfl hrr))) ?_
        have hA18 : Fr (fun a_ => 22 ≤ a_ ∧ a_ < 32) m m15 ∧ (∀ r, r < n → m15 30 r = (kr n (fun z => m (t + 2 + z)) (m (t + 10))) (i + 1) r) ∧ (∀ k, k < (i + 1) → (∀ c, c < n → m15 (R k) c = (kr n (fun z => m (t + 2 + z)) (m (t + 10))) k c) ∧ m15 (R k) n = if k + 1 = n then 1 else 0) := by
          have hR := hRb i (by omega)
          have hA : ∀ r, r < n → m9 (t + 2 + r) = m (t + 2 + r) := fun r hr => by rw [hF11 _ (by omega), hF _ (by omega)]
          refine ⟨Fr_trans hF (Fr_trans (Fr_mono hF11 (fun a ha => by omega)) (Fr_trans (Fr_mono hF14 (fun a ha => by omega)) (Fr_mono hF17 (fun a ha => by omega)))), fun r hr => ?_, fun k hk => ?_⟩
          · rw [hv17, if_pos hr, hv14, if_pos hr, hA r hr, hF11 30 (by omega)]
            exact dot_congr (fun _ _ => rfl) (fun c hc => hS c hc)
          · have hk8 := hRb k (by omega)
            have e1 : m15 (R k) = m9 (R k) := by rw [hF17 _ (by omega), hF14 _ (by omega)]
            rw [e1]
            by_cases q : k = i
            · subst q
              refine ⟨fun c hc => ?_, ?_⟩
              · rw [hv11 c hc]
                exact hS c hc
              · rw [hx11]
                first
                  | rw [if_pos (by omega)]
                  | rw [if_neg (by omega)]
            · rw [hF11 (R k) (fun z => q (hE.2.2.2.2 k i (by omega) (by omega) z))]
              exact hK k (by omega)
        exact rw_cast (ih19 (by omega) m15 hA18) (lcons rfl (lcons rfl (lcons rfl (lcons (lvI (by omega)) rfl)))) rfl
      · skip
        refine rw_of (fun rr hrr => q_iconst (q_goto (t := 46) rfl hrr)) ?_
        refine rw_blk lk_X3_rankOfColumns_46 ?_
        obtain ⟨_, m19, p20, hV21, rfl, rfl, hF21, hx21, hv21⟩ := c_X1_put (S := S) (fz := fz) (m := m1) (p := p) (d := d) (by omega) (20) (n) (i) (30) ((1 : F)) (R) hE (by omega) (by omega) ((show SH 30 = (1, 8) from rfl)) (by omega) (by have := hRb i (by omega); omega)
        refine rw_of (fun rr hrr => q_invV hV21 (show SH 20 = (11, 0) from rfl) rfl rfl (okar_cons rfl (okar_cons rfl (okar_cons rfl (okar_cons rfl okar_nil)))) (Nat.le_of_ble_eq_true rfl) (q_iload_n rfl (q_aload_n rfl (q_getR (PI_pl hP ht).1 rfl (PI_pl hP ht).2.1 (q_aload_n rfl (q_getR (show SH 19 = (12, 0) from rfl) rfl (pt_19_1 hP) (q_aload_n rfl (q_getR (show SH 19 = (12, 0) from rfl) rfl (pt_19_2 hP) hrr)))))))) ?_
        obtain ⟨_, m22, p23, hV24, rfl, rfl, hF24, hv24⟩ := c_X6_squareByColumn (S := S) (fz := fz) (m := m19) (p := p) (d := d) (by omega) (n) (t + 1) (30) (31) (fun i => t + 2 + i) (by omega) (PI_pl hP ht).2.2.2.2.2.2 ((show SH 30 = (1, 8) from rfl)) ((show SH 31 = (1, 8) from rfl)) (by omega) (by omega) (by omega) (fun k hk => by omega)
        refine rw_of (fun rr hrr => q_invS hV24 rfl rfl (okar_cons rfl (okar_cons rfl (okar_cons rfl (okar_cons rfl okar_nil)))) (Nat.le_of_ble_eq_true rfl) (q_iload_n rfl (q_aload_n rfl (q_getR (show SH 19 = (12, 0) from rfl) rfl (pt_19_2 hP) (q_aload_n rfl (q_getR (show SH 19 = (12, 0) from rfl) rfl (pt_19_1 hP) hrr)))))) ?_
        obtain ⟨_, m25, p26, hV27, rfl, rfl, hF27, hv27⟩ := c_X6_copy (S := S) (fz := fz) (m := m22) (p := p) (d := d) (by omega) (n) (31) (30) (by omega) ((show SH 31 = (1, 8) from rfl)) ((show SH 30 = (1, 8) from rfl)) (by omega) (by omega) (by omega)
        refine rw_of (fun rr hrr => q_invS hV27 rfl rfl (okar_cons rfl (okar_cons rfl (okar_cons rfl okar_nil))) (Nat.le_of_ble_eq_true rfl) (q_iinc rfl rfl (q_goto (t := 19) rfl hrr))) ?_
        have hA28 : Fr (fun a_ => 22 ≤ a_ ∧ a_ < 32) m m25 ∧ (∀ r, r < n → m25 30 r = (kr n (fun z => m (t + 2 + z)) (m (t + 10))) (i + 1) r) ∧ (∀ k, k < (i + 1) → (∀ c, c < n → m25 (R k) c = (kr n (fun z => m (t + 2 + z)) (m (t + 10))) k c) ∧ m25 (R k) n = if k + 1 = n then 1 else 0) := by
          have hR := hRb i (by omega)
          have hA : ∀ r, r < n → m19 (t + 2 + r) = m (t + 2 + r) := fun r hr => by rw [hF21 _ (by omega), hF _ (by omega)]
          refine ⟨Fr_trans hF (Fr_trans (Fr_mono hF21 (fun a ha => by omega)) (Fr_trans (Fr_mono hF24 (fun a ha => by omega)) (Fr_mono hF27 (fun a ha => by omega)))), fun r hr => ?_, fun k hk => ?_⟩
          · rw [hv27, if_pos hr, hv24, if_pos hr, hA r hr, hF21 30 (by omega)]
            exact dot_congr (fun _ _ => rfl) (fun c hc => hS c hc)
          · have hk8 := hRb k (by omega)
            have e1 : m25 (R k) = m19 (R k) := by rw [hF27 _ (by omega), hF24 _ (by omega)]
            rw [e1]
            by_cases q : k = i
            · subst q
              refine ⟨fun c hc => ?_, ?_⟩
              · rw [hv21 c hc]
                exact hS c hc
              · rw [hx21]
                first
                  | rw [if_pos (by omega)]
                  | rw [if_neg (by omega)]
            · rw [hF21 (R k) (fun z => q (hE.2.2.2.2 k i (by omega) (by omega) z))]
              exact hK k (by omega)
        exact rw_cast (ih19 (by omega) m25 hA28) (lcons rfl (lcons rfl (lcons rfl (lcons (lvI (by omega)) rfl)))) rfl
  have hA29 : Fr (fun a_ => 22 ≤ a_ ∧ a_ < 32) m m1 ∧ (∀ r, r < n → m1 30 r = (kr n (fun z => m (t + 2 + z)) (m (t + 10))) 0 r) ∧ (∀ k, k < 0 → (∀ c, c < n → m1 (R k) c = (kr n (fun z => m (t + 2 + z)) (m (t + 10))) k c) ∧ m1 (R k) n = if k + 1 = n then 1 else 0) := by
    refine ⟨Fr_mono hF3 (fun a ha => by omega), fun r hr => ?_, fun k hk => absurd hk (Nat.not_lt_zero k)⟩
    rw [hv3, if_pos hr]
    rfl
  exact rw_cast (hL19 0 (by omega) m1 hA29) (lcons rfl (lcons rfl (lcons rfl (lcons (lvI (by omega)) rfl)))) rfl
