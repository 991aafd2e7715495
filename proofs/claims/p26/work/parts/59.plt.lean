theorem ptr2_if {f n r c : Nat} {A h : Nat → Nat → F} : ptr2 f n A h r c = if f ≤ r ∧ r < f + n ∧ f ≤ c ∧ c < f + n then A (r - f) (c - f) else h r c := rfl
theorem ptr1_if {f n r : Nat} {g h : Nat → F} : ptr1 f n g h r = if f ≤ r ∧ r < f + n then g (r - f) else h r := rfl
theorem c_X4_putPart {d : Nat} {S : Env} {fz : Bool} {m : M1} {p : M2} (hd : 2 ≤ d) (t f q n : Nat) (x y : F) (hP : PI p) (ht : IsPl t) (hq : IsPl q) (hqt : q + 12 ≤ t ∨ t + 12 ≤ q) (hmq : m q 0 = nF n) (hn : f + n ≤ 8) : Ct d k_X4_putPart S fz [.ref (t), .int (iI (((f : Nat) : Int))), .ref (q), .int (iI (vF (x))), .int (iI (vF (y)))] m p (fun v m' p' => v = none ∧ p = p' ∧ Fr (fun a_ => t + 2 ≤ a_ ∧ a_ < t + 12) m m' ∧ (∀ r, r < 8 → ∀ c, m' (t + 2 + r) c = ptr2 f n (fun z => m (q + 2 + z)) (fun z => m (t + 2 + z)) r c) ∧ (∀ r, m' (t + 10) r = ptr1 f n (fun z => x * m (q + 10) z) (m (t + 10)) r) ∧ ∀ r, m' (t + 11) r = ptr1 f n (fun z => y * m (q + 11) z) (m (t + 11)) r) := by
  obtain ⟨d, rfl⟩ : ∃ e, d = e + 1 := ⟨d - 1, by omega⟩
  refine ct_go (lv := [some (.ref (t)), some (.int (iI (((f : Nat) : Int)))), some (.ref (q)), some (.int (iI (vF (x)))), some (.int (iI (vF (y)))), none, none]) (Nat.le_of_ble_eq_true rfl) (okar_cons rfl (okar_cons rfl (okar_cons rfl (okar_cons rfl (okar_cons rfl okar_nil))))) rfl (fun Qr hQ => ?_)
  have ht' := IsPl_b ht
  have hq' := IsPl_b hq
  refine rw_blk lk_X4_putPart_0 ?_
  refine rw_of (fun rr hrr => q_iconst (q_istore (Nat.le_of_ble_eq_true rfl) rfl hrr)) ?_
  have hL3 : ∀ i, i ≤ n → ∀ (m1 : M1) (x3_6 : Option Value), (Fr (fun a_ => t + 2 ≤ a_ ∧ a_ < t + 12) m m1 ∧ (∀ r, r < 8 → ∀ c, m1 (t + 2 + r) c = if f ≤ r ∧ r < f + i ∧ f ≤ c ∧ c < f + n then m (q + 2 + (r - f)) (c - f) else m (t + 2 + r) c) ∧ (∀ r, m1 (t + 10) r = ptr1 f i (fun z => x * m (q + 10) z) (m (t + 10)) r) ∧ ∀ r, m1 (t + 11) r = ptr1 f i (fun z => y * m (q + 11) z) (m (t + 11)) r) → Rw (Ev d) k_X4_putPart (3, [], [some (.ref (t)), some (.int (iI (((f : Nat) : Int)))), some (.ref (q)), some (.int (iI (vF (x)))), some (.int (iI (vF (y)))), some (.int (iI (((i : Nat) : Int)))), x3_6], [], hpM S fz (m1, p), 0, 0) Qr := by
    refine loop_any (fun i hi3 ih3 => ?_)
    intro m1 x3_6
    intro hI3
    obtain ⟨hF, hv, hb, hc⟩ := hI3
    refine rw_blk lk_X4_putPart_3 ?_
    refine rw_of (fun rr hrr => q_iload rfl (q_aload_n rfl (q_getI (PI_pl hP hq).1 rfl (ki (hF q (by show ¬ (t + 2 ≤ q ∧ q < t + 12); omega)) hmq (by omega)) hrr))) ?_
    refine rw_icmp_ge ⟨by omega, by omega⟩ ⟨by omega, by omega⟩ (t := 101) rfl (fun hc1 => ?_) (fun hc1 => ?_)
    · skip
      refine rw_blk lk_X4_putPart_101 ?_
      refine rw_ret hQ (q_return) ?_
      have e9 : n = i := (by omega)
      subst e9
      exact ⟨rfl, rfl, hF, hv, hb, hc⟩
      
    · skip
      refine rw_of (fun rr hrr => q_iconst (q_istore (Nat.le_of_ble_eq_true rfl) rfl hrr)) ?_
      have hL15 : ∀ j, j ≤ n → ∀ (m2 : M1), (Fr (fun a_ => a_ = t + 2 + (f + i)) m1 m2 ∧ ∀ c, m2 (t + 2 + (f + i)) c = if f ≤ c ∧ c < f + j then m1 (q + 2 + i) (c - f) else m1 (t + 2 + (f + i)) c) → Rw (Ev d) k_X4_putPart (15, [], [some (.ref (t)), some (.int (iI (((f : Nat) : Int)))), some (.ref (q)), some (.int (iI (vF (x)))), some (.int (iI (vF (y)))), some (.int (iI (((i : Nat) : Int)))), some (.int (iI (((j : Nat) : Int))))], [], hpM S fz (m2, p), 0, 0) Qr := by
        refine loop_any (fun j hi15 ih15 => ?_)
        intro m2
        intro hI15
        obtain ⟨hF15, hv15⟩ := hI15
        refine rw_blk lk_X4_putPart_15 ?_
        refine rw_of (fun rr hrr => q_iload rfl (q_aload_n rfl (q_getI (PI_pl hP hq).1 rfl (ki ((hF15 q (by show ¬ (q = t + 2 + (f + i)); omega)).trans (hF q (by show ¬ (t + 2 ≤ q ∧ q < t + 12); omega))) hmq (by omega)) hrr))) ?_
        refine rw_icmp_ge ⟨by omega, by omega⟩ ⟨by omega, by omega⟩ (t := 54) rfl (fun hc2 => ?_) (fun hc2 => ?_)
        · skip
          refine rw_blk lk_X4_putPart_54 ?_
          refine rw_of (fun rr hrr => q_aload_n rfl (q_getR (PI_pl hP ht).1 rfl (PI_pl hP ht).2.2.1 (q_iload_n rfl (q_iload rfl (q_iadd (q_iload_n rfl (q_aload_n rfl (q_getR (PI_pl hP hq).1 rfl (PI_pl hP hq).2.2.1 (q_iload rfl (q_iald (j := i) (PI_pl hP hq).2.2.2.2.1 rfl (by omega) rfl hrr)))))))))) ?_
          obtain ⟨_, mm3, pp4, hV5, rfl, rfl, rfl⟩ := c_X2_times (S := S) (fz := fz) (m := m2) (p := p) (d := d) (by omega) (x) (m2 (q + 10) i)
          refine rw_of (fun rr hrr => q_invS hV5 rfl rfl (okar_cons rfl (okar_cons rfl okar_nil)) (Nat.le_of_ble_eq_true rfl) (q_iast (j := f + i) (xx := x * (m2 (q + 10) i)) (PI_pl hP ht).2.2.2.2.1 (by omega) (by omega) rfl hrr)) ?_
          generalize hm7 : w1 m2 (t + 10) (f + i) (x * (m2 (q + 10) i)) = mm6
          refine rw_of (fun rr hrr => q_aload_n rfl (q_getR (PI_pl hP ht).1 rfl (PI_pl hP ht).2.2.2.1 (q_iload_n rfl (q_iload rfl (q_iadd (q_iload rfl (q_aload_n rfl (q_getR (PI_pl hP hq).1 rfl (PI_pl hP hq).2.2.2.1 (q_iload rfl (q_iald (j := i) (PI_pl hP hq).2.2.2.2.2.1 rfl (by omega) rfl hrr)))))))))) ?_
          obtain ⟨_, mm8, pp9, hV10, rfl, rfl, rfl⟩ := c_X2_times (S := S) (fz := fz) (m := mm6) (p := p) (d := d) (by omega) (y) (mm6 (q + 11) i)
          refine rw_of (fun rr hrr => q_invS hV10 rfl rfl (okar_cons rfl (okar_cons rfl okar_nil)) (Nat.le_of_ble_eq_true rfl) (q_iast (j := f + i) (xx := y * (mm6 (q + 11) i)) (PI_pl hP ht).2.2.2.2.2.1 (by omega) (by omega) rfl hrr)) ?_
          generalize hm12 : w1 mm6 (t + 11) (f + i) (y * (mm6 (q + 11) i)) = mm11
          refine rw_of (fun rr hrr => q_iinc rfl rfl (q_goto (t := 3) rfl hrr)) ?_
          have hA13 : Fr (fun a_ => t + 2 ≤ a_ ∧ a_ < t + 12) m mm11 ∧ (∀ r, r < 8 → ∀ c, mm11 (t + 2 + r) c = if f ≤ r ∧ r < f + (i + 1) ∧ f ≤ c ∧ c < f + n then m (q + 2 + (r - f)) (c - f) else m (t + 2 + r) c) ∧ (∀ r, mm11 (t + 10) r = ptr1 f (i + 1) (fun z => x * m (q + 10) z) (m (t + 10)) r) ∧ ∀ r, mm11 (t + 11) r = ptr1 f (i + 1) (fun z => y * m (q + 11) z) (m (t + 11)) r := by
            refine ⟨fr_w hm12 (fr_w hm7 (Fr_trans hF (Fr_mono hF15 (fun a ha => by omega))) (by omega)) (by omega), fun r hr c => ?_, ?_, ?_⟩
            · rw [← hm12, w1_a (by omega), ← hm7, w1_a (by omega)]
              by_cases q1 : r = f + i
              · rw [q1, hv15 c, hv _ (by omega), if_neg (by omega : ¬ (f ≤ f + i ∧ f + i < f + i ∧ f ≤ c ∧ c < f + n)), hF _ (by omega), show f + i - f = i by omega]
                by_cases q2 : f ≤ c ∧ c < f + n
                · rw [if_pos (by omega), if_pos (by omega)]
                · rw [if_neg (by omega), if_neg (by omega)]
              · rw [hF15 (t + 2 + r) (by omega), hv r hr c]
                by_cases q2 : f ≤ r ∧ r < f + i ∧ f ≤ c ∧ c < f + n
                · rw [if_pos q2, if_pos (by omega)]
                · rw [if_neg q2, if_neg (by omega)]
            · have h2 := filld_w (P' := fun j => f ≤ j ∧ j < f + (i + 1)) (f := fun j => x * m (q + 10) (j - f)) hm7 (fun j => by rw [hF15 _ (by omega)]; exact hb j) (by show _ = x * m (q + 10) (f + i - f); rw [hF15 (q + 10) (by omega), hF (q + 10) (by omega), show f + i - f = i by omega]) (fun j => by omega)
              intro r
              rw [← hm12, w1_a (by omega)]
              exact h2 r
            · have h3 : ∀ j, mm6 (t + 11) j = if f ≤ j ∧ j < f + i then y * m (q + 11) (j - f) else m (t + 11) j := fun j => by rw [← hm7, w1_a (by omega), hF15 _ (by omega)]; exact hc j
              exact filld_w (P' := fun j => f ≤ j ∧ j < f + (i + 1)) (f := fun j => y * m (q + 11) (j - f)) hm12 h3 (by show _ = y * m (q + 11) (f + i - f); rw [← hm7, w1_a (by omega), hF15 (q + 11) (by omega), hF (q + 11) (by omega), show f + i - f = i by omega]) (fun j => by omega)
          exact rw_cast (ih3 (by omega) mm11 (some (.int (iI (((j : Nat) : Int))))) hA13) (lcons rfl (lcons rfl (lcons rfl (lcons rfl (lcons rfl (lcons (lvI (by omega)) (lcons rfl rfl))))))) rfl
        · skip
          refine rw_of (fun rr hrr => q_aload_n rfl (q_getR (PI_pl hP ht).1 rfl (PI_pl hP ht).2.1 (q_iload_n rfl (q_iload rfl (q_iadd (q_aald (t := 0) (j := f + i) (PI_pl hP ht).2.2.2.2.2.2.1 (by omega) (by omega) (by omega) ((PI_pl hP ht).2.2.2.2.2.2.2.1 (f + i) (by omega)) (q_iload_n rfl (q_iload rfl (q_iadd (q_aload_n rfl (q_getR (PI_pl hP hq).1 rfl (PI_pl hP hq).2.1 (q_iload rfl (q_aald (t := 0) (j := i) (PI_pl hP hq).2.2.2.2.2.2.1 (by omega) (by omega) (by omega) ((PI_pl hP hq).2.2.2.2.2.2.2.1 i (by omega)) (q_iload rfl (q_iald (j := j) ((PI_pl hP hq).2.2.2.2.2.2.2.2 i (by omega)) rfl (by omega) rfl (q_iast (j := f + j) (xx := m2 (q + 2 + i) j) ((PI_pl hP ht).2.2.2.2.2.2.2.2 (f + i) (by omega)) (by omega) (by omega) rfl hrr)))))))))))))))) ?_
          generalize hm15 : w1 m2 (t + 2 + (f + i)) (f + j) (m2 (q + 2 + i) j) = mm14
          refine rw_of (fun rr hrr => q_iinc rfl rfl (q_goto (t := 15) rfl hrr)) ?_
          exact rw_cast (ih15 (by omega) mm14 (by exact ⟨fr_w hm15 hF15 rfl, filld_w (P' := fun c => f ≤ c ∧ c < f + (j + 1)) (f := fun c => m1 (q + 2 + i) (c - f)) hm15 hv15 (by show _ = m1 (q + 2 + i) (f + j - f); rw [hF15 (q + 2 + i) (by omega), show f + j - f = j by omega]) (fun c => by omega)⟩)) (lcons rfl (lcons rfl (lcons rfl (lcons rfl (lcons rfl (lcons rfl (lcons (lvI (by omega)) rfl))))))) rfl
      exact rw_cast (hL15 0 (by omega) m1 (by exact ⟨Fr_rfl, fun c => (if_neg (by omega)).symm⟩)) (lcons rfl (lcons rfl (lcons rfl (lcons rfl (lcons rfl (lcons rfl (lcons (lvI (by omega)) rfl))))))) rfl
  exact rw_cast (hL3 0 (by omega) m none (by exact ⟨Fr_rfl, fun r hr c => (if_neg (by omega)).symm, fun r => (if_neg (by omega)).symm, fun r => (if_neg (by omega)).symm⟩)) (lcons rfl (lcons rfl (lcons rfl (lcons rfl (lcons rfl (lcons (lvI (by omega)) (lcons rfl rfl))))))) rfl
theorem c_X4_beSeries {d : Nat} {S : Env} {fz : Bool} {m : M1} {p : M2} (hd : 3 ≤ d) (t q u n k : Nat) (hP : PI p) (ht : IsPl t) (hq : IsPl q) (hu : IsPl u) (hqt : q + 12 ≤ t ∨ t + 12 ≤ q) (hut : u + 12 ≤ t ∨ t + 12 ≤ u) (hmq : m q 0 = nF n) (hmu : m u 0 = nF k) (hn : n + k ≤ 8) (hz : ∀ r, r < 8 → ∀ c, m (t + 2 + r) c = 0) : Ct d k_X4_beSeries S fz [.ref (t), .ref (q), .ref (u)] m p (fun v m' p' => v = none ∧ p = p' ∧ Fr (fun a_ => t + 2 ≤ a_ ∧ a_ < t + 12 ∨ a_ = t) m m' ∧ (∀ r, r < n + k → ∀ c, c < n + k → m' (t + 2 + r) c = serA n (fun z => m (q + 2 + z)) (m (u + 10)) (m (q + 11)) (fun z => m (u + 2 + z)) r c) ∧ (∀ r, r < n + k → m' (t + 10) r = twob n 1 (m (q + 10)) (m q 4) (m (u + 10)) r) ∧ (∀ r, r < n + k → m' (t + 11) r = twob n (m u 4) (m (q + 11)) 1 (m (u + 11)) r) ∧ m' t 4 = m u 4 * m q 4 ∧ m' t 0 = m t 0) := by
  obtain ⟨d, rfl⟩ : ∃ e, d = e + 1 := ⟨d - 1, by omega⟩
  refine ct_go (lv := [some (.ref (t)), some (.ref (q)), some (.ref (u)), none, none]) (Nat.le_of_ble_eq_true rfl) (okar_cons rfl (okar_cons rfl (okar_cons rfl okar_nil))) rfl (fun Qr hQ => ?_)
  have ht' := IsPl_b ht
  have hq' := IsPl_b hq
  have hu' := IsPl_b hu
  refine rw_blk lk_X4_beSeries_0 ?_
  refine rw_of (fun rr hrr => q_aload_n rfl (q_iconst (q_aload_n rfl (q_iconst (q_aload_n rfl (q_getI (PI_pl hP hu).1 rfl rfl hrr)))))) ?_
  obtain ⟨_, mm1, pp2, hV3, rfl, rfl, hF3, hv3, hb3, hc3⟩ := c_X4_putPart (S := S) (fz := fz) (m := m) (p := p) (d := d) (by omega) (t) (0) (q) (n) ((1 : F)) (m u 4) hP ht hq (by omega) hmq (by omega)
  refine rw_of (fun rr hrr => q_invV hV3 (PI_pl hP ht).1 rfl rfl (okar_cons rfl (okar_cons rfl (okar_cons rfl (okar_cons rfl okar_nil)))) (Nat.le_of_ble_eq_true rfl) (q_aload_n rfl (q_aload_n rfl (q_getI (PI_pl hP hq).1 rfl (ki (hF3 q (by show ¬ (t + 2 ≤ q ∧ q < t + 12); omega)) hmq (by omega)) (q_aload_n rfl (q_aload_n rfl (q_getI (PI_pl hP hq).1 rfl rfl (q_iconst hrr)))))))) ?_
  obtain ⟨_, mm4, pp5, hV6, rfl, rfl, hF6, hv6, hb6, hc6⟩ := c_X4_putPart (S := S) (fz := fz) (m := mm1) (p := p) (d := d) (by omega) (t) (n) (u) (k) (mm1 q 4) ((1 : F)) hP ht hu (by omega) ((congrFun (hF3 u (by show ¬ (t + 2 ≤ u ∧ u < t + 12); omega)) 0).trans hmu) (by omega)
  refine rw_of (fun rr hrr => q_invV hV6 (PI_pl hP ht).1 rfl rfl (okar_cons rfl (okar_cons rfl (okar_cons rfl (okar_cons rfl okar_nil)))) (Nat.le_of_ble_eq_true rfl) (q_iconst (q_istore_n (Nat.le_of_ble_eq_true rfl) rfl hrr))) ?_
  have hL27 : ∀ i, i ≤ k → ∀ (m1 : M1) (x27_4 : Option Value), (Fr (fun a_ => t + 2 ≤ a_ ∧ a_ < t + 10) mm4 m1 ∧ ∀ r, r < 8 → ∀ c, m1 (t + 2 + r) c = if n ≤ r ∧ r < n + i ∧ c < n then m (u + 10) (r - n) * m (q + 11) c else mm4 (t + 2 + r) c) → Rw (Ev d) k_X4_beSeries (27, [], [some (.ref (t)), some (.ref (q)), some (.ref (u)), some (.int (iI (((i : Nat) : Int)))), x27_4], [], hpM S fz (m1, p), 0, 0) Qr := by
    refine loop_any (fun i hi27 ih27 => ?_)
    intro m1 x27_4
    intro hI27
    obtain ⟨hF27, hv27⟩ := hI27
    refine rw_blk lk_X4_beSeries_27 ?_
    refine rw_of (fun rr hrr => q_iload_n rfl (q_aload_n rfl (q_getI (PI_pl hP hu).1 rfl (ki ((hF27 u (by show ¬ (t + 2 ≤ u ∧ u < t + 10); omega)).trans ((hF6 u (by show ¬ (t + 2 ≤ u ∧ u < t + 12); omega)).trans (hF3 u (by show ¬ (t + 2 ≤ u ∧ u < t + 12); omega)))) hmu (by omega)) hrr))) ?_
    refine rw_icmp_ge ⟨by omega, by omega⟩ ⟨by omega, by omega⟩ (t := 89) rfl (fun hc7 => ?_) (fun hc7 => ?_)
    · skip
      refine rw_blk lk_X4_beSeries_89 ?_
      refine rw_of (fun rr hrr => q_aload_n rfl (q_aload_n rfl (q_getI (PI_pl hP hu).1 rfl rfl (q_aload_n rfl (q_getI (PI_pl hP hq).1 rfl rfl hrr))))) ?_
      obtain ⟨_, mm8, pp9, hV10, rfl, rfl, rfl⟩ := c_X2_times (S := S) (fz := fz) (m := m1) (p := p) (d := d) (by omega) (m1 u 4) (m1 q 4)
      refine rw_of (fun rr hrr => q_invS hV10 rfl rfl (okar_cons rfl (okar_cons rfl okar_nil)) (Nat.le_of_ble_eq_true rfl) (q_putI (xx := (m1 u 4) * (m1 q 4)) (PI_pl hP ht).1 rfl rfl rfl hrr)) ?_
      generalize hm12 : w1 m1 t 4 ((m1 u 4) * (m1 q 4)) = mm11
      refine rw_ret hQ (q_return) ?_
      have ea : ∀ z, mm1 (u + 2 + z) = m (u + 2 + z) ∨ 8 ≤ z := fun z => by
        by_cases hz9 : z < 8
        · exact Or.inl (by rw [hF3 _ (by omega)])
        · exact Or.inr (by omega)
      have hrow : ∀ r, r < n + k → ∀ c, c < n + k → mm4 (t + 2 + r) c = sidA n (fun z => m (q + 2 + z)) (fun z => m (u + 2 + z)) r c := fun r hr c hc => by
        rw [hv6 r (by omega) c, ptr2_if, hv3 r (by omega) c, ptr2_if, hz r (by omega) c]
        unfold sidA
        by_cases q1 : r < n
        · rw [if_neg (by omega), if_pos q1]
          by_cases q2 : c < n
          · rw [if_pos (by omega), if_pos q2]
            rfl
          · rw [if_neg (by omega), if_neg q2]
        · rw [if_neg q1]
          by_cases q2 : c < n
          · rw [if_neg (by omega), if_neg (by omega), if_pos q2]
          · rw [if_pos (by omega), if_neg q2, (ea (r - n)).resolve_right (by omega)]
      have hcol : ∀ r, r < n + k → mm4 (t + 10) r = twob n 1 (m (q + 10)) (m q 4) (m (u + 10)) r := fun r hr => by
        rw [hb6 r, ptr1_if, hb3 r, ptr1_if]
        unfold twob
        by_cases q1 : r < n
        · rw [if_neg (by omega), if_pos (by omega), if_pos q1]
          rfl
        · rw [if_pos (by omega), if_neg q1, hF3 (u + 10) (by omega), hF3 q (by omega)]
      have hrw : ∀ r, r < n + k → mm4 (t + 11) r = twob n (m u 4) (m (q + 11)) 1 (m (u + 11)) r := fun r hr => by
        rw [hc6 r, ptr1_if, hc3 r, ptr1_if]
        unfold twob
        by_cases q1 : r < n
        · rw [if_neg (by omega), if_pos (by omega), if_pos q1]
          rfl
        · rw [if_pos (by omega), if_neg q1, hF3 (u + 11) (by omega)]
      
      have e9 : k = i := (by omega)
      subst e9
      refine ⟨rfl, rfl, fr_w hm12 (Fr_trans (Fr_mono hF3 (fun a ha => by omega)) (Fr_trans (Fr_mono hF6 (fun a ha => by omega)) (Fr_mono hF27 (fun a ha => by omega)))) (by omega), fun r hr c hc => ?_, fun r hr => ?_, fun r hr => ?_, ?_, ?_⟩
      · rw [← hm12, w1_a (by omega), hv27 r (by omega) c]
        unfold serA
        by_cases q1 : r < n
        · rw [if_neg (by omega), if_pos q1, hrow r hr c hc]
          exact if_pos q1
        · rw [if_neg q1]
          by_cases q2 : c < n
          · rw [if_pos (by omega), if_pos q2]
          · rw [if_neg (by omega), if_neg q2, hrow r hr c hc]
            exact (if_neg q1).trans (if_neg q2)
      · rw [← hm12, w1_a (by omega), hF27 _ (by omega)]; exact hcol r hr
      · rw [← hm12, w1_a (by omega), hF27 _ (by omega)]; exact hrw r hr
      · rw [← hm12, w1_at, hF27 q (by omega), hF27 u (by omega), hF6 q (by omega), hF6 u (by omega), hF3 q (by omega), hF3 u (by omega)]
      · rw [← hm12, w1_ne (by omega), hF27 t (by omega), hF6 t (by omega), hF3 t (by omega)]
      
    · skip
      refine rw_of (fun rr hrr => q_iconst (q_istore (Nat.le_of_ble_eq_true rfl) rfl hrr)) ?_
      have hL38 : ∀ k2, k2 ≤ n → ∀ (m2 : M1), (Fr (fun a_ => a_ = t + 2 + (n + i)) m1 m2 ∧ ∀ j, m2 (t + 2 + (n + i)) j = if j < k2 then m1 (u + 10) i * m1 (q + 11) j else m1 (t + 2 + (n + i)) j) → Rw (Ev d) k_X4_beSeries (38, [], [some (.ref (t)), some (.ref (q)), some (.ref (u)), some (.int (iI (((i : Nat) : Int)))), some (.int (iI (((k2 : Nat) : Int))))], [], hpM S fz (m2, p), 0, 0) Qr := by
        refine loop_any (fun k2 hi38 ih38 => ?_)
        intro m2
        intro hI38
        obtain ⟨hF38, hv38⟩ := hI38
        refine rw_blk lk_X4_beSeries_38 ?_
        refine rw_of (fun rr hrr => q_iload rfl (q_aload_n rfl (q_getI (PI_pl hP hq).1 rfl (ki ((hF38 q (by show ¬ (q = t + 2 + (n + i)); omega)).trans ((hF27 q (by show ¬ (t + 2 ≤ q ∧ q < t + 10); omega)).trans ((hF6 q (by show ¬ (t + 2 ≤ q ∧ q < t + 12); omega)).trans (hF3 q (by show ¬ (t + 2 ≤ q ∧ q < t + 12); omega))))) hmq (by omega)) hrr))) ?_
        refine rw_icmp_ge ⟨by omega, by omega⟩ ⟨by omega, by omega⟩ (t := 83) rfl (fun hc13 => ?_) (fun hc13 => ?_)
        · skip
          refine rw_blk lk_X4_beSeries_83 ?_
          refine rw_of (fun rr hrr => q_iinc rfl rfl (q_goto (t := 27) rfl hrr)) ?_
          have hA14 : Fr (fun a_ => t + 2 ≤ a_ ∧ a_ < t + 10) mm4 m2 ∧ ∀ r, r < 8 → ∀ c, m2 (t + 2 + r) c = if n ≤ r ∧ r < n + (i + 1) ∧ c < n then m (u + 10) (r - n) * m (q + 11) c else mm4 (t + 2 + r) c := by
            refine ⟨Fr_trans hF27 (Fr_mono hF38 (fun a ha => by omega)), fun r hr c => ?_⟩
            by_cases q1 : r = n + i
            · rw [q1, hv38 c, hv27 _ (by omega) c, if_neg (by omega : ¬ (n ≤ n + i ∧ n + i < n + i ∧ c < n)), hF27 (u + 10) (by omega), hF27 (q + 11) (by omega), hF6 (u + 10) (by omega), hF6 (q + 11) (by omega), hF3 (u + 10) (by omega), hF3 (q + 11) (by omega), show n + i - n = i by omega]
              by_cases q2 : c < n
              · rw [if_pos (by omega), if_pos (by omega)]
              · rw [if_neg (by omega), if_neg (by omega)]
            · rw [hF38 _ (by omega), hv27 r hr c]
              by_cases q2 : n ≤ r ∧ r < n + i ∧ c < n
              · rw [if_pos q2, if_pos (by omega)]
              · rw [if_neg q2, if_neg (by omega)]
          exact rw_cast (ih27 (by omega) m2 (some (.int (iI (((k2 : Nat) : Int))))) hA14) (lcons rfl (lcons rfl (lcons rfl (lcons (lvI (by omega)) (lcons rfl rfl))))) rfl
        · skip
          refine rw_of (fun rr hrr => q_aload_n rfl (q_getR (PI_pl hP ht).1 rfl (PI_pl hP ht).2.1 (q_aload_n rfl (q_getI (PI_pl hP hq).1 rfl (ki ((hF38 q (by show ¬ (q = t + 2 + (n + i)); omega)).trans ((hF27 q (by show ¬ (t + 2 ≤ q ∧ q < t + 10); omega)).trans ((hF6 q (by show ¬ (t + 2 ≤ q ∧ q < t + 12); omega)).trans (hF3 q (by show ¬ (t + 2 ≤ q ∧ q < t + 12); omega))))) hmq (by omega)) (q_iload_n rfl (q_iadd (q_aald (t := 0) (j := n + i) (PI_pl hP ht).2.2.2.2.2.2.1 (by omega) (by omega) (by omega) ((PI_pl hP ht).2.2.2.2.2.2.2.1 (n + i) (by omega)) (q_iload rfl (q_aload_n rfl (q_getR (PI_pl hP hu).1 rfl (PI_pl hP hu).2.2.1 (q_iload_n rfl (q_iald (j := i) (PI_pl hP hu).2.2.2.2.1 rfl (by omega) rfl (q_aload_n rfl (q_getR (PI_pl hP hq).1 rfl (PI_pl hP hq).2.2.2.1 (q_iload rfl (q_iald (j := k2) (PI_pl hP hq).2.2.2.2.2.1 rfl (by omega) rfl hrr)))))))))))))))) ?_
          obtain ⟨_, mm15, pp16, hV17, rfl, rfl, rfl⟩ := c_X2_times (S := S) (fz := fz) (m := m2) (p := p) (d := d) (by omega) (m2 (u + 10) i) (m2 (q + 11) k2)
          refine rw_of (fun rr hrr => q_invS hV17 rfl rfl (okar_cons rfl (okar_cons rfl okar_nil)) (Nat.le_of_ble_eq_true rfl) (q_iast (j := k2) (xx := (m2 (u + 10) i) * (m2 (q + 11) k2)) ((PI_pl hP ht).2.2.2.2.2.2.2.2 (n + i) (by omega)) rfl (by omega) rfl hrr)) ?_
          generalize hm19 : w1 m2 (t + 2 + (n + i)) k2 ((m2 (u + 10) i) * (m2 (q + 11) k2)) = mm18
          refine rw_of (fun rr hrr => q_iinc rfl rfl (q_goto (t := 38) rfl hrr)) ?_
          exact rw_cast (ih38 (by omega) mm18 (by exact ⟨fr_w hm19 hF38 rfl, fill_w hm19 hv38 (by rw [hF38 (u + 10) (by omega), hF38 (q + 11) (by omega)])⟩)) (lcons rfl (lcons rfl (lcons rfl (lcons rfl (lcons (lvI (by omega)) rfl))))) rfl
      exact rw_cast (hL38 0 (by omega) m1 (by exact ⟨Fr_rfl, fun j => (if_neg (Nat.not_lt_zero j)).symm⟩)) (lcons rfl (lcons rfl (lcons rfl (lcons rfl (lcons (lvI (by omega)) rfl))))) rfl
  exact rw_cast (hL27 0 (by omega) mm4 none (by exact ⟨Fr_rfl, fun r hr c => (if_neg (by omega)).symm⟩)) (lcons rfl (lcons rfl (lcons rfl (lcons (lvI (by omega)) (lcons rfl rfl))))) rfl
theorem c_X4_beSideBySide {d : Nat} {S : Env} {fz : Bool} {m : M1} {p : M2} (hd : 3 ≤ d) (t q u n k : Nat) (hP : PI p) (ht : IsPl t) (hq : IsPl q) (hu : IsPl u) (hqt : q + 12 ≤ t ∨ t + 12 ≤ q) (hut : u + 12 ≤ t ∨ t + 12 ≤ u) (hmq : m q 0 = nF n) (hmu : m u 0 = nF k) (hn : n + k ≤ 8) (hz : ∀ r, r < 8 → ∀ c, m (t + 2 + r) c = 0) : Ct d k_X4_beSideBySide S fz [.ref (t), .ref (q), .ref (u)] m p (fun v m' p' => v = none ∧ p = p' ∧ Fr (fun a_ => t + 2 ≤ a_ ∧ a_ < t + 12 ∨ a_ = t) m m' ∧ (∀ r, r < n + k → ∀ c, c < n + k → m' (t + 2 + r) c = sidA n (fun z => m (q + 2 + z)) (fun z => m (u + 2 + z)) r c) ∧ (∀ r, r < n + k → m' (t + 10) r = twob n 1 (m (q + 10)) 1 (m (u + 10)) r) ∧ (∀ r, r < n + k → m' (t + 11) r = twob n 1 (m (q + 11)) 1 (m (u + 11)) r) ∧ m' t 4 = m q 4 + m u 4 ∧ m' t 0 = m t 0) := by
  obtain ⟨d, rfl⟩ : ∃ e, d = e + 1 := ⟨d - 1, by omega⟩
  refine ct_go (lv := [some (.ref (t)), some (.ref (q)), some (.ref (u))]) (Nat.le_of_ble_eq_true rfl) (okar_cons rfl (okar_cons rfl (okar_cons rfl okar_nil))) rfl (fun Qr hQ => ?_)
  have ht' := IsPl_b ht
  have hq' := IsPl_b hq
  have hu' := IsPl_b hu
  refine rw_blk lk_X4_beSideBySide_0 ?_
  refine rw_of (fun rr hrr => q_aload_n rfl (q_iconst (q_aload_n rfl (q_iconst (q_iconst hrr))))) ?_
  obtain ⟨_, mm1, pp2, hV3, rfl, rfl, hF3, hv3, hb3, hc3⟩ := c_X4_putPart (S := S) (fz := fz) (m := m) (p := p) (d := d) (by omega) (t) (0) (q) (n) ((1 : F)) ((1 : F)) hP ht hq (by omega) hmq (by omega)
  refine rw_of (fun rr hrr => q_invV hV3 (PI_pl hP ht).1 rfl rfl (okar_cons rfl (okar_cons rfl (okar_cons rfl (okar_cons rfl okar_nil)))) (Nat.le_of_ble_eq_true rfl) (q_aload_n rfl (q_aload_n rfl (q_getI (PI_pl hP hq).1 rfl (ki (hF3 q (by show ¬ (t + 2 ≤ q ∧ q < t + 12); omega)) hmq (by omega)) (q_aload_n rfl (q_iconst (q_iconst hrr))))))) ?_
  obtain ⟨_, mm4, pp5, hV6, rfl, rfl, hF6, hv6, hb6, hc6⟩ := c_X4_putPart (S := S) (fz := fz) (m := mm1) (p := p) (d := d) (by omega) (t) (n) (u) (k) ((1 : F)) ((1 : F)) hP ht hu (by omega) ((congrFun (hF3 u (by show ¬ (t + 2 ≤ u ∧ u < t + 12); omega)) 0).trans hmu) (by omega)
  refine rw_of (fun rr hrr => q_invV hV6 (PI_pl hP ht).1 rfl rfl (okar_cons rfl (okar_cons rfl (okar_cons rfl (okar_cons rfl okar_nil)))) (Nat.le_of_ble_eq_true rfl) (q_aload_n rfl (q_aload_n rfl (q_getI (PI_pl hP hq).1 rfl rfl (q_aload_n rfl (q_getI (PI_pl hP hu).1 rfl rfl hrr)))))) ?_
  obtain ⟨_, mm7, pp8, hV9, rfl, rfl, rfl⟩ := c_X2_plus (S := S) (fz := fz) (m := mm4) (p := p) (d := d) (by omega) (mm4 q 4) (mm4 u 4)
  refine rw_of (fun rr hrr => q_invS hV9 rfl rfl (okar_cons rfl (okar_cons rfl okar_nil)) (Nat.le_of_ble_eq_true rfl) (q_putI (xx := (mm4 q 4) + (mm4 u 4)) (PI_pl hP ht).1 rfl rfl rfl hrr)) ?_
  generalize hm11 : w1 mm4 t 4 ((mm4 q 4) + (mm4 u 4)) = mm10
  refine rw_ret hQ (q_return) ?_
  have ea : ∀ z, mm1 (u + 2 + z) = m (u + 2 + z) ∨ 8 ≤ z := fun z => by
    by_cases hz9 : z < 8
    · exact Or.inl (by rw [hF3 _ (by omega)])
    · exact Or.inr (by omega)
  have hrow : ∀ r, r < n + k → ∀ c, c < n + k → mm4 (t + 2 + r) c = sidA n (fun z => m (q + 2 + z)) (fun z => m (u + 2 + z)) r c := fun r hr c hc => by
    rw [hv6 r (by omega) c, ptr2_if, hv3 r (by omega) c, ptr2_if, hz r (by omega) c]
    unfold sidA
    by_cases q1 : r < n
    · rw [if_neg (by omega), if_pos q1]
      by_cases q2 : c < n
      · rw [if_pos (by omega), if_pos q2]
        rfl
      · rw [if_neg (by omega), if_neg q2]
    · rw [if_neg q1]
      by_cases q2 : c < n
      · rw [if_neg (by omega), if_neg (by omega), if_pos q2]
      · rw [if_pos (by omega), if_neg q2, (ea (r - n)).resolve_right (by omega)]
  have hcol : ∀ r, r < n + k → mm4 (t + 10) r = twob n 1 (m (q + 10)) 1 (m (u + 10)) r := fun r hr => by
    rw [hb6 r, ptr1_if, hb3 r, ptr1_if]
    unfold twob
    by_cases q1 : r < n
    · rw [if_neg (by omega), if_pos (by omega), if_pos q1]
      rfl
    · rw [if_pos (by omega), if_neg q1, hF3 (u + 10) (by omega)]
  have hrw : ∀ r, r < n + k → mm4 (t + 11) r = twob n 1 (m (q + 11)) 1 (m (u + 11)) r := fun r hr => by
    rw [hc6 r, ptr1_if, hc3 r, ptr1_if]
    unfold twob
    by_cases q1 : r < n
    · rw [if_neg (by omega), if_pos (by omega), if_pos q1]
      rfl
    · rw [if_pos (by omega), if_neg q1, hF3 (u + 11) (by omega)]
  
  refine ⟨rfl, rfl, fr_w hm11 (Fr_trans (Fr_mono hF3 (fun a ha => by omega)) (Fr_mono hF6 (fun a ha => by omega))) (by omega), fun r hr c hc => ?_, fun r hr => ?_, fun r hr => ?_, ?_, ?_⟩
  · rw [← hm11, w1_a (by omega)]; exact hrow r hr c hc
  · rw [← hm11, w1_a (by omega)]; exact hcol r hr
  · rw [← hm11, w1_a (by omega)]; exact hrw r hr
  · rw [← hm11, w1_at, hF6 q (by omega), hF6 u (by omega), hF3 q (by omega), hF3 u (by omega)]
  · rw [← hm11, w1_ne (by omega), hF6 t (by omega), hF3 t (by omega)]
  
theorem c_X4_bePlaced {d : Nat} {S : Env} {fz : Bool} {m : M1} {p : M2} (hd : 2 ≤ d) (t q n g : Nat) (hP : PI p) (ht : IsPl t) (hq : IsPl q) (hqt : q + 12 ≤ t ∨ t + 12 ≤ q) (hmt : m t 0 = nF n) (hn : n ≤ 8) (hg : g = 33 ∨ g = 34) : Ct d k_X4_bePlaced S fz [.ref (t), .ref (q), .ref (g)] m p (fun v m' p' => v = none ∧ p = p' ∧ Fr (fun a_ => t + 2 ≤ a_ ∧ a_ < t + 12 ∨ a_ = t) m m' ∧ (∀ r, r < n → ∀ c, c < n → m' (t + 2 + r) c = m (q + 2 + r) c - m (q + 10) r * m g c) ∧ (∀ r, r < n → m' (t + 10) r = m (q + 10) r ∧ m' (t + 11) r = m (q + 11) r) ∧ m' t 4 = m q 4 ∧ m' t 0 = m t 0) := by
  obtain ⟨d, rfl⟩ : ∃ e, d = e + 1 := ⟨d - 1, by omega⟩
  refine ct_go (lv := [some (.ref (t)), some (.ref (q)), some (.ref (g)), none, none]) (Nat.le_of_ble_eq_true rfl) (okar_cons rfl (okar_cons rfl (okar_cons rfl okar_nil))) rfl (fun Qr hQ => ?_)
  have ht' := IsPl_b ht
  have hq' := IsPl_b hq
  refine rw_blk lk_X4_bePlaced_0 ?_
  refine rw_of (fun rr hrr => q_iconst (q_istore_n (Nat.le_of_ble_eq_true rfl) rfl hrr)) ?_
  have hL2 : ∀ i, i ≤ n → ∀ (m1 : M1) (x2_4 : Option Value), (Fr (fun a_ => t + 2 ≤ a_ ∧ a_ < t + 12) m m1 ∧ (∀ r, r < i → ∀ c, c < n → m1 (t + 2 + r) c = m (q + 2 + r) c - m (q + 10) r * m g c) ∧ ∀ r, r < i → m1 (t + 10) r = m (q + 10) r ∧ m1 (t + 11) r = m (q + 11) r) → Rw (Ev d) k_X4_bePlaced (2, [], [some (.ref (t)), some (.ref (q)), some (.ref (g)), some (.int (iI (((i : Nat) : Int)))), x2_4], [], hpM S fz (m1, p), 0, 0) Qr := by
    refine loop_any (fun i hi2 ih2 => ?_)
    intro m1 x2_4
    intro hI2
    obtain ⟨hF, hv, hb⟩ := hI2
    refine rw_blk lk_X4_bePlaced_2 ?_
    refine rw_of (fun rr hrr => q_iload_n rfl (q_aload_n rfl (q_getI (PI_pl hP ht).1 rfl (ki (hF t (by show ¬ (t + 2 ≤ t ∧ t < t + 12); omega)) hmt (by omega)) hrr))) ?_
    refine rw_icmp_ge ⟨by omega, by omega⟩ ⟨by omega, by omega⟩ (t := 92) rfl (fun hc1 => ?_) (fun hc1 => ?_)
    · skip
      refine rw_blk lk_X4_bePlaced_92 ?_
      refine rw_of (fun rr hrr => q_aload_n rfl (q_aload_n rfl (q_getI (PI_pl hP hq).1 rfl rfl (q_putI (xx := m1 q 4) (PI_pl hP ht).1 rfl rfl rfl hrr)))) ?_
      generalize hm3 : w1 m1 t 4 (m1 q 4) = mm2
      refine rw_ret hQ (q_return) ?_
      have e9 : n = i := (by omega)
      subst e9
      refine ⟨rfl, rfl, fr_w hm3 (Fr_mono hF (fun a ha => by omega)) (by omega), fun r hr c hc => ?_, fun r hr => ?_, ?_, ?_⟩
      · rw [← hm3, w1_a (by omega)]; exact hv r hr c hc
      · rw [← hm3, w1_a (by omega), w1_a (by omega)]; exact hb r hr
      · rw [← hm3, w1_at, hF q (by omega)]
      · rw [← hm3, w1_ne (by omega), hF t (by omega)]
      
    · skip
      refine rw_of (fun rr hrr => q_iconst (q_istore (Nat.le_of_ble_eq_true rfl) rfl hrr)) ?_
      have hL13 : ∀ j2, j2 ≤ n → ∀ (m2 : M1), (Fr (fun a_ => a_ = t + 2 + i) m1 m2 ∧ ∀ j, m2 (t + 2 + i) j = if j < j2 then m1 (q + 2 + i) j - m1 (q + 10) i * m1 g j else m1 (t + 2 + i) j) → Rw (Ev d) k_X4_bePlaced (13, [], [some (.ref (t)), some (.ref (q)), some (.ref (g)), some (.int (iI (((i : Nat) : Int)))), some (.int (iI (((j2 : Nat) : Int))))], [], hpM S fz (m2, p), 0, 0) Qr := by
        refine loop_any (fun j2 hi13 ih13 => ?_)
        intro m2
        intro hI13
        obtain ⟨hFi, hvi⟩ := hI13
        refine rw_blk lk_X4_bePlaced_13 ?_
        refine rw_of (fun rr hrr => q_iload rfl (q_aload_n rfl (q_getI (PI_pl hP ht).1 rfl (ki ((hFi t (by show ¬ (t = t + 2 + i); omega)).trans (hF t (by show ¬ (t + 2 ≤ t ∧ t < t + 12); omega))) hmt (by omega)) hrr))) ?_
        refine rw_icmp_ge ⟨by omega, by omega⟩ ⟨by omega, by omega⟩ (t := 62) rfl (fun hc4 => ?_) (fun hc4 => ?_)
        · skip
          refine rw_blk lk_X4_bePlaced_62 ?_
          refine rw_of (fun rr hrr => q_aload_n rfl (q_getR (PI_pl hP ht).1 rfl (PI_pl hP ht).2.2.1 (q_iload_n rfl (q_aload_n rfl (q_getR (PI_pl hP hq).1 rfl (PI_pl hP hq).2.2.1 (q_iload_n rfl (q_iald (j := i) (PI_pl hP hq).2.2.2.2.1 rfl (by omega) rfl (q_iast (j := i) (xx := m2 (q + 10) i) (PI_pl hP ht).2.2.2.2.1 rfl (by omega) rfl hrr)))))))) ?_
          generalize hm6 : w1 m2 (t + 10) i (m2 (q + 10) i) = mm5
          refine rw_of (fun rr hrr => q_aload_n rfl (q_getR (PI_pl hP ht).1 rfl (PI_pl hP ht).2.2.2.1 (q_iload_n rfl (q_aload_n rfl (q_getR (PI_pl hP hq).1 rfl (PI_pl hP hq).2.2.2.1 (q_iload_n rfl (q_iald (j := i) (PI_pl hP hq).2.2.2.2.2.1 rfl (by omega) rfl (q_iast (j := i) (xx := mm5 (q + 11) i) (PI_pl hP ht).2.2.2.2.2.1 rfl (by omega) rfl hrr)))))))) ?_
          generalize hm8 : w1 mm5 (t + 11) i (mm5 (q + 11) i) = mm7
          refine rw_of (fun rr hrr => q_iinc rfl rfl (q_goto (t := 2) rfl hrr)) ?_
          have hA9 : Fr (fun a_ => t + 2 ≤ a_ ∧ a_ < t + 12) m mm7 ∧ (∀ r, r < (i + 1) → ∀ c, c < n → mm7 (t + 2 + r) c = m (q + 2 + r) c - m (q + 10) r * m g c) ∧ ∀ r, r < (i + 1) → mm7 (t + 10) r = m (q + 10) r ∧ mm7 (t + 11) r = m (q + 11) r := by
            refine ⟨fr_w hm8 (fr_w hm6 (Fr_trans hF (Fr_mono hFi (fun a ha => by omega))) (by omega)) (by omega), fun r hr c hc => ?_, fun r hr => ?_⟩
            · rw [← hm8, w1_a (by omega), ← hm6, w1_a (by omega)]
              by_cases q1 : r = i
              · rw [q1, hvi c, if_pos (by omega), hF (q + 2 + i) (by omega), hF (q + 10) (by omega), hF g (by omega)]
              · rw [hFi _ (by omega)]
                exact hv r (by omega) c hc
            · by_cases q1 : r = i
              · rw [q1]
                refine ⟨?_, ?_⟩
                · rw [← hm8, w1_a (by omega), ← hm6, w1_at, hFi (q + 10) (by omega), hF (q + 10) (by omega)]
                · rw [← hm8, w1_at, ← hm6, w1_a (by omega), hFi (q + 11) (by omega), hF (q + 11) (by omega)]
              · rw [← hm8, w1_a (by omega), w1_ne (fun z => q1 z.2), ← hm6, w1_ne (fun z => q1 z.2), w1_a (by omega), hFi _ (by omega), hFi _ (by omega)]
                exact hb r (by omega)
          exact rw_cast (ih2 (by omega) mm7 (some (.int (iI (((j2 : Nat) : Int))))) hA9) (lcons rfl (lcons rfl (lcons rfl (lcons (lvI (by omega)) (lcons rfl rfl))))) rfl
        · skip
          refine rw_of (fun rr hrr => q_aload_n rfl (q_getR (PI_pl hP ht).1 rfl (PI_pl hP ht).2.1 (q_iload_n rfl (q_aald (t := 0) (j := i) (PI_pl hP ht).2.2.2.2.2.2.1 (by omega) (by omega) (by omega) ((PI_pl hP ht).2.2.2.2.2.2.2.1 i (by omega)) (q_iload rfl (q_aload_n rfl (q_getR (PI_pl hP hq).1 rfl (PI_pl hP hq).2.1 (q_iload_n rfl (q_aald (t := 0) (j := i) (PI_pl hP hq).2.2.2.2.2.2.1 (by omega) (by omega) (by omega) ((PI_pl hP hq).2.2.2.2.2.2.2.1 i (by omega)) (q_iload rfl (q_iald (j := j2) ((PI_pl hP hq).2.2.2.2.2.2.2.2 i (by omega)) rfl (by omega) rfl (q_aload_n rfl (q_getR (PI_pl hP hq).1 rfl (PI_pl hP hq).2.2.1 (q_iload_n rfl (q_iald (j := i) (PI_pl hP hq).2.2.2.2.1 rfl (by omega) rfl (q_aload_n rfl (q_iload rfl (q_iald (j := j2) (show SH g = (1, 8) by rcases hg with rfl | rfl <;> rfl) rfl (by omega) rfl hrr)))))))))))))))))) ?_
          obtain ⟨_, mm10, pp11, hV12, rfl, rfl, rfl⟩ := c_X2_times (S := S) (fz := fz) (m := m2) (p := p) (d := d) (by omega) (m2 (q + 10) i) (m2 g j2)
          refine rw_of (fun rr hrr => q_invS hV12 rfl rfl (okar_cons rfl (okar_cons rfl okar_nil)) (Nat.le_of_ble_eq_true rfl) hrr) ?_
          obtain ⟨_, mm13, pp14, hV15, rfl, rfl, rfl⟩ := c_X2_minus (S := S) (fz := fz) (m := m2) (p := p) (d := d) (by omega) (m2 (q + 2 + i) j2) ((m2 (q + 10) i) * (m2 g j2))
          refine rw_of (fun rr hrr => q_invS hV15 rfl rfl (okar_cons rfl (okar_cons rfl okar_nil)) (Nat.le_of_ble_eq_true rfl) (q_iast (j := j2) (xx := (m2 (q + 2 + i) j2) - ((m2 (q + 10) i) * (m2 g j2))) ((PI_pl hP ht).2.2.2.2.2.2.2.2 i (by omega)) rfl (by omega) rfl hrr)) ?_
          generalize hm17 : w1 m2 (t + 2 + i) j2 ((m2 (q + 2 + i) j2) - ((m2 (q + 10) i) * (m2 g j2))) = mm16
          refine rw_of (fun rr hrr => q_iinc rfl rfl (q_goto (t := 13) rfl hrr)) ?_
          exact rw_cast (ih13 (by omega) mm16 (by exact ⟨fr_w hm17 hFi rfl, fill_w hm17 hvi (by rw [hFi (q + 2 + i) (by omega), hFi (q + 10) (by omega), hFi g (by omega)])⟩)) (lcons rfl (lcons rfl (lcons rfl (lcons rfl (lcons (lvI (by omega)) rfl))))) rfl
      exact rw_cast (hL13 0 (by omega) m1 (by exact ⟨Fr_rfl, fun j => (if_neg (Nat.not_lt_zero j)).symm⟩)) (lcons rfl (lcons rfl (lcons rfl (lcons rfl (lcons (lvI (by omega)) rfl))))) rfl
  exact rw_cast (hL2 0 (by omega) m none (by exact ⟨Fr_rfl, fun r hr => absurd hr (Nat.not_lt_zero r), fun r hr => absurd hr (Nat.not_lt_zero r)⟩)) (lcons rfl (lcons rfl (lcons rfl (lcons (lvI (by omega)) (lcons rfl rfl))))) rfl
theorem c_X4_beLoop {d : Nat} {S : Env} {fz : Bool} {m : M1} {p : M2} (hd : 2 ≤ d) (t q n : Nat) (x y : F) (hP : PI p) (ht : IsPl t) (hq : IsPl q) (hqt : q + 12 ≤ t ∨ t + 12 ≤ q) (hmt : m t 0 = nF n) (hn : n ≤ 8) : Ct d k_X4_beLoop S fz [.ref (t), .ref (q), .int (iI (vF (x))), .int (iI (vF (y)))] m p (fun v m' p' => v = none ∧ p = p' ∧ Fr (fun a_ => t + 2 ≤ a_ ∧ a_ < t + 12 ∨ a_ = t) m m' ∧ (∀ r, r < n → ∀ c, c < n → m' (t + 2 + r) c = m (q + 2 + r) c - x * iv y * m (q + 10) r * m (q + 11) c) ∧ (∀ r, r < n → m' (t + 10) r = 1 * iv y * m (q + 10) r ∧ m' (t + 11) r = 1 * iv y * m (q + 11) r) ∧ m' t 4 = 1 * iv y * m q 4 ∧ m' t 0 = m t 0) := by
  obtain ⟨d, rfl⟩ : ∃ e, d = e + 1 := ⟨d - 1, by omega⟩
  refine ct_go (lv := [some (.ref (t)), some (.ref (q)), some (.int (iI (vF (x)))), some (.int (iI (vF (y)))), none, none, none, none, none]) (Nat.le_of_ble_eq_true rfl) (okar_cons rfl (okar_cons rfl (okar_cons rfl (okar_cons rfl okar_nil)))) rfl (fun Qr hQ => ?_)
  have ht' := IsPl_b ht
  have hq' := IsPl_b hq
  refine rw_blk lk_X4_beLoop_0 ?_
  refine rw_of (fun rr hrr => q_iload_n rfl (q_iload_n rfl hrr)) ?_
  obtain ⟨_, mm1, pp2, hV3, rfl, rfl, rfl⟩ := c_X2_quotient (S := S) (fz := fz) (m := m) (p := p) (d := d) (by omega) (x) (y)
  refine rw_of (fun rr hrr => q_invS hV3 rfl rfl (okar_cons rfl (okar_cons rfl okar_nil)) (Nat.le_of_ble_eq_true rfl) (q_istore (Nat.le_of_ble_eq_true rfl) rfl (q_iconst (q_iload_n rfl hrr)))) ?_
  obtain ⟨_, mm4, pp5, hV6, rfl, rfl, rfl⟩ := c_X2_quotient (S := S) (fz := fz) (m := m) (p := p) (d := d) (by omega) ((1 : F)) (y)
  refine rw_of (fun rr hrr => q_invS hV6 rfl rfl (okar_cons rfl (okar_cons rfl okar_nil)) (Nat.le_of_ble_eq_true rfl) (q_istore (Nat.le_of_ble_eq_true rfl) rfl (q_iconst (q_istore (Nat.le_of_ble_eq_true rfl) rfl hrr)))) ?_
  have hL17 : ∀ i, i ≤ n → ∀ (m1 : M1) (x17_7 : Option Value) (x17_8 : Option Value), (Fr (fun a_ => t + 2 ≤ a_ ∧ a_ < t + 12) m m1 ∧ (∀ r, r < i → ∀ c, c < n → m1 (t + 2 + r) c = m (q + 2 + r) c - x * iv y * m (q + 10) r * m (q + 11) c) ∧ ∀ r, r < i → m1 (t + 10) r = 1 * iv y * m (q + 10) r ∧ m1 (t + 11) r = 1 * iv y * m (q + 11) r) → Rw (Ev d) k_X4_beLoop (17, [], [some (.ref (t)), some (.ref (q)), some (.int (iI (vF (x)))), some (.int (iI (vF (y)))), some (.int (iI (vF (x * iv y)))), some (.int (iI (vF (((1 : F)) * iv y)))), some (.int (iI (((i : Nat) : Int)))), x17_7, x17_8], [], hpM S fz (m1, p), 0, 0) Qr := by
    refine loop_any (fun i hi17 ih17 => ?_)
    intro m1 x17_7 x17_8
    intro hI17
    obtain ⟨hF, hv, hb⟩ := hI17
    refine rw_blk lk_X4_beLoop_17 ?_
    refine rw_of (fun rr hrr => q_iload rfl (q_aload_n rfl (q_getI (PI_pl hP ht).1 rfl (ki (hF t (by show ¬ (t + 2 ≤ t ∧ t < t + 12); omega)) hmt (by omega)) hrr))) ?_
    refine rw_icmp_ge ⟨by omega, by omega⟩ ⟨by omega, by omega⟩ (t := 137) rfl (fun hc7 => ?_) (fun hc7 => ?_)
    · skip
      refine rw_blk lk_X4_beLoop_137 ?_
      refine rw_of (fun rr hrr => q_aload_n rfl (q_iload rfl (q_aload_n rfl (q_getI (PI_pl hP hq).1 rfl rfl hrr)))) ?_
      obtain ⟨_, mm8, pp9, hV10, rfl, rfl, rfl⟩ := c_X2_times (S := S) (fz := fz) (m := m1) (p := p) (d := d) (by omega) (((1 : F)) * iv y) (m1 q 4)
      refine rw_of (fun rr hrr => q_invS hV10 rfl rfl (okar_cons rfl (okar_cons rfl okar_nil)) (Nat.le_of_ble_eq_true rfl) (q_putI (xx := (((1 : F)) * iv y) * (m1 q 4)) (PI_pl hP ht).1 rfl rfl rfl hrr)) ?_
      generalize hm12 : w1 m1 t 4 ((((1 : F)) * iv y) * (m1 q 4)) = mm11
      refine rw_ret hQ (q_return) ?_
      have e9 : n = i := (by omega)
      subst e9
      refine ⟨rfl, rfl, fr_w hm12 (Fr_mono hF (fun a ha => by omega)) (by omega), fun r hr c hc => ?_, fun r hr => ?_, ?_, ?_⟩
      · rw [← hm12, w1_a (by omega)]; exact hv r hr c hc
      · rw [← hm12, w1_a (by omega), w1_a (by omega)]; exact hb r hr
      · rw [← hm12, w1_at, hF q (by omega)]
      · rw [← hm12, w1_ne (by omega), hF t (by omega)]
      
    · skip
      refine rw_of (fun rr hrr => q_iload rfl (q_aload_n rfl (q_getR (PI_pl hP hq).1 rfl (PI_pl hP hq).2.2.1 (q_iload rfl (q_iald (j := i) (PI_pl hP hq).2.2.2.2.1 rfl (by omega) rfl hrr))))) ?_
      obtain ⟨_, mm13, pp14, hV15, rfl, rfl, rfl⟩ := c_X2_times (S := S) (fz := fz) (m := m1) (p := p) (d := d) (by omega) (x * iv y) (m1 (q + 10) i)
      refine rw_of (fun rr hrr => q_invS hV15 rfl rfl (okar_cons rfl (okar_cons rfl okar_nil)) (Nat.le_of_ble_eq_true rfl) (q_istore (Nat.le_of_ble_eq_true rfl) rfl (q_iconst (q_istore (Nat.le_of_ble_eq_true rfl) rfl hrr)))) ?_
      have hL43 : ∀ j2, j2 ≤ n → ∀ (m2 : M1), (Fr (fun a_ => a_ = t + 2 + i) m1 m2 ∧ ∀ j, m2 (t + 2 + i) j = if j < j2 then m1 (q + 2 + i) j - x * iv y * m1 (q + 10) i * m1 (q + 11) j else m1 (t + 2 + i) j) → Rw (Ev d) k_X4_beLoop (43, [], [some (.ref (t)), some (.ref (q)), some (.int (iI (vF (x)))), some (.int (iI (vF (y)))), some (.int (iI (vF (x * iv y)))), some (.int (iI (vF (((1 : F)) * iv y)))), some (.int (iI (((i : Nat) : Int)))), some (.int (iI (vF ((x * iv y) * (m1 (q + 10) i))))), some (.int (iI (((j2 : Nat) : Int))))], [], hpM S fz (m2, p), 0, 0) Qr := by
        refine loop_any (fun j2 hi43 ih43 => ?_)
        intro m2
        intro hI43
        obtain ⟨hFi, hvi⟩ := hI43
        refine rw_blk lk_X4_beLoop_43 ?_
        refine rw_of (fun rr hrr => q_iload rfl (q_aload_n rfl (q_getI (PI_pl hP ht).1 rfl (ki ((hFi t (by show ¬ (t = t + 2 + i); omega)).trans (hF t (by show ¬ (t + 2 ≤ t ∧ t < t + 12); omega))) hmt (by omega)) hrr))) ?_
        refine rw_icmp_ge ⟨by omega, by omega⟩ ⟨by omega, by omega⟩ (t := 93) rfl (fun hc16 => ?_) (fun hc16 => ?_)
        · skip
          refine rw_blk lk_X4_beLoop_93 ?_
          refine rw_of (fun rr hrr => q_aload_n rfl (q_getR (PI_pl hP ht).1 rfl (PI_pl hP ht).2.2.1 (q_iload rfl (q_iload rfl (q_aload_n rfl (q_getR (PI_pl hP hq).1 rfl (PI_pl hP hq).2.2.1 (q_iload rfl (q_iald (j := i) (PI_pl hP hq).2.2.2.2.1 rfl (by omega) rfl hrr)))))))) ?_
          obtain ⟨_, mm17, pp18, hV19, rfl, rfl, rfl⟩ := c_X2_times (S := S) (fz := fz) (m := m2) (p := p) (d := d) (by omega) (((1 : F)) * iv y) (m2 (q + 10) i)
          refine rw_of (fun rr hrr => q_invS hV19 rfl rfl (okar_cons rfl (okar_cons rfl okar_nil)) (Nat.le_of_ble_eq_true rfl) (q_iast (j := i) (xx := (((1 : F)) * iv y) * (m2 (q + 10) i)) (PI_pl hP ht).2.2.2.2.1 rfl (by omega) rfl hrr)) ?_
          generalize hm21 : w1 m2 (t + 10) i ((((1 : F)) * iv y) * (m2 (q + 10) i)) = mm20
          refine rw_of (fun rr hrr => q_aload_n rfl (q_getR (PI_pl hP ht).1 rfl (PI_pl hP ht).2.2.2.1 (q_iload rfl (q_iload rfl (q_aload_n rfl (q_getR (PI_pl hP hq).1 rfl (PI_pl hP hq).2.2.2.1 (q_iload rfl (q_iald (j := i) (PI_pl hP hq).2.2.2.2.2.1 rfl (by omega) rfl hrr)))))))) ?_
          obtain ⟨_, mm22, pp23, hV24, rfl, rfl, rfl⟩ := c_X2_times (S := S) (fz := fz) (m := mm20) (p := p) (d := d) (by omega) (((1 : F)) * iv y) (mm20 (q + 11) i)
          refine rw_of (fun rr hrr => q_invS hV24 rfl rfl (okar_cons rfl (okar_cons rfl okar_nil)) (Nat.le_of_ble_eq_true rfl) (q_iast (j := i) (xx := (((1 : F)) * iv y) * (mm20 (q + 11) i)) (PI_pl hP ht).2.2.2.2.2.1 rfl (by omega) rfl hrr)) ?_
          generalize hm26 : w1 mm20 (t + 11) i ((((1 : F)) * iv y) * (mm20 (q + 11) i)) = mm25
          refine rw_of (fun rr hrr => q_iinc rfl rfl (q_goto (t := 17) rfl hrr)) ?_
          have hA27 : Fr (fun a_ => t + 2 ≤ a_ ∧ a_ < t + 12) m mm25 ∧ (∀ r, r < (i + 1) → ∀ c, c < n → mm25 (t + 2 + r) c = m (q + 2 + r) c - x * iv y * m (q + 10) r * m (q + 11) c) ∧ ∀ r, r < (i + 1) → mm25 (t + 10) r = 1 * iv y * m (q + 10) r ∧ mm25 (t + 11) r = 1 * iv y * m (q + 11) r := by
            refine ⟨fr_w hm26 (fr_w hm21 (Fr_trans hF (Fr_mono hFi (fun a ha => by omega))) (by omega)) (by omega), fun r hr c hc => ?_, fun r hr => ?_⟩
            · rw [← hm26, w1_a (by omega), ← hm21, w1_a (by omega)]
              by_cases q1 : r = i
              · rw [q1, hvi c, if_pos (by omega), hF (q + 2 + i) (by omega), hF (q + 10) (by omega), hF (q + 11) (by omega)]
              · rw [hFi _ (by omega)]
                exact hv r (by omega) c hc
            · by_cases q1 : r = i
              · rw [q1]
                refine ⟨?_, ?_⟩
                · rw [← hm26, w1_a (by omega), ← hm21, w1_at, hFi (q + 10) (by omega), hF (q + 10) (by omega)]
                · rw [← hm26, w1_at, ← hm21, w1_a (by omega), hFi (q + 11) (by omega), hF (q + 11) (by omega)]
              · rw [← hm26, w1_a (by omega), w1_ne (fun z => q1 z.2), ← hm21, w1_ne (fun z => q1 z.2), w1_a (by omega), hFi _ (by omega), hFi _ (by omega)]
                exact hb r (by omega)
          exact rw_cast (ih17 (by omega) mm25 (some (.int (iI (vF ((x * iv y) * (m1 (q + 10) i)))))) (some (.int (iI (((j2 : Nat) : Int))))) hA27) (lcons rfl (lcons rfl (lcons rfl (lcons rfl (lcons rfl (lcons rfl (lcons (lvI (by omega)) (lcons rfl (lcons rfl rfl))))))))) rfl
        · skip
          refine rw_of (fun rr hrr => q_aload_n rfl (q_getR (PI_pl hP ht).1 rfl (PI_pl hP ht).2.1 (q_iload rfl (q_aald (t := 0) (j := i) (PI_pl hP ht).2.2.2.2.2.2.1 (by omega) (by omega) (by omega) ((PI_pl hP ht).2.2.2.2.2.2.2.1 i (by omega)) (q_iload rfl (q_aload_n rfl (q_getR (PI_pl hP hq).1 rfl (PI_pl hP hq).2.1 (q_iload rfl (q_aald (t := 0) (j := i) (PI_pl hP hq).2.2.2.2.2.2.1 (by omega) (by omega) (by omega) ((PI_pl hP hq).2.2.2.2.2.2.2.1 i (by omega)) (q_iload rfl (q_iald (j := j2) ((PI_pl hP hq).2.2.2.2.2.2.2.2 i (by omega)) rfl (by omega) rfl (q_iload rfl (q_aload_n rfl (q_getR (PI_pl hP hq).1 rfl (PI_pl hP hq).2.2.2.1 (q_iload rfl (q_iald (j := j2) (PI_pl hP hq).2.2.2.2.2.1 rfl (by omega) rfl hrr)))))))))))))))) ?_
          obtain ⟨_, mm28, pp29, hV30, rfl, rfl, rfl⟩ := c_X2_times (S := S) (fz := fz) (m := m2) (p := p) (d := d) (by omega) ((x * iv y) * (m1 (q + 10) i)) (m2 (q + 11) j2)
          refine rw_of (fun rr hrr => q_invS hV30 rfl rfl (okar_cons rfl (okar_cons rfl okar_nil)) (Nat.le_of_ble_eq_true rfl) hrr) ?_
          obtain ⟨_, mm31, pp32, hV33, rfl, rfl, rfl⟩ := c_X2_minus (S := S) (fz := fz) (m := m2) (p := p) (d := d) (by omega) (m2 (q + 2 + i) j2) (((x * iv y) * (m1 (q + 10) i)) * (m2 (q + 11) j2))
          refine rw_of (fun rr hrr => q_invS hV33 rfl rfl (okar_cons rfl (okar_cons rfl okar_nil)) (Nat.le_of_ble_eq_true rfl) (q_iast (j := j2) (xx := (m2 (q + 2 + i) j2) - (((x * iv y) * (m1 (q + 10) i)) * (m2 (q + 11) j2))) ((PI_pl hP ht).2.2.2.2.2.2.2.2 i (by omega)) rfl (by omega) rfl hrr)) ?_
          generalize hm35 : w1 m2 (t + 2 + i) j2 ((m2 (q + 2 + i) j2) - (((x * iv y) * (m1 (q + 10) i)) * (m2 (q + 11) j2))) = mm34
          refine rw_of (fun rr hrr => q_iinc rfl rfl (q_goto (t := 43) rfl hrr)) ?_
          exact rw_cast (ih43 (by omega) mm34 (by exact ⟨fr_w hm35 hFi rfl, fill_w hm35 hvi (by rw [hFi (q + 2 + i) (by omega), hFi (q + 11) (by omega)])⟩)) (lcons rfl (lcons rfl (lcons rfl (lcons rfl (lcons rfl (lcons rfl (lcons rfl (lcons rfl (lcons (lvI (by omega)) rfl))))))))) rfl
      exact rw_cast (hL43 0 (by omega) m1 (by exact ⟨Fr_rfl, fun j => (if_neg (Nat.not_lt_zero j)).symm⟩)) (lcons rfl (lcons rfl (lcons rfl (lcons rfl (lcons rfl (lcons rfl (lcons rfl (lcons rfl (lcons (lvI (by omega)) rfl))))))))) rfl
  exact rw_cast (hL17 0 (by omega) m none none (by exact ⟨Fr_rfl, fun r hr => absurd hr (Nat.not_lt_zero r), fun r hr => absurd hr (Nat.not_lt_zero r)⟩)) (lcons rfl (lcons rfl (lcons rfl (lcons rfl (lcons rfl (lcons rfl (lcons (lvI (by omega)) (lcons rfl (lcons rfl rfl))))))))) rfl
theorem c_X4_read0 {d : Nat} {S : Env} {fz : Bool} {m : M1} {p : M2} (hd : 1 ≤ d) (t : Nat) (i : Nat) (j : Nat) (hP : PI p) (ht : IsPl t) (hi : i < 8) (hj : j < 8) : Ct d k_X4_read S fz [.ref (t), .int (iI (0)), .int (iI (((i : Nat) : Int))), .int (iI (((j : Nat) : Int)))] m p (fun v m' p' => v = some (.int (iI (vF (m (t + 2 + i) j)))) ∧ m = m' ∧ p = p') := by
  obtain ⟨d, rfl⟩ : ∃ e, d = e + 1 := ⟨d - 1, by omega⟩
  refine ct_go (lv := [some (.ref (t)), some (.int (iI (0))), some (.int (iI (((i : Nat) : Int)))), some (.int (iI (((j : Nat) : Int))))]) (Nat.le_of_ble_eq_true rfl) (okar_cons rfl (okar_cons rfl (okar_cons rfl (okar_cons rfl okar_nil)))) rfl (fun Qr hQ => ?_)
  have ht' := IsPl_b ht
  refine rw_blk lk_X4_read_0 ?_
  refine rw_of (fun rr hrr => q_iload_n rfl (q_table (v := iI 0) (t := 28) rfl hrr)) ?_
  refine rw_blk lk_X4_read_28 ?_
  refine rw_of (fun rr hrr => q_aload_n rfl (q_getR (PI_pl hP ht).1 rfl (PI_pl hP ht).2.1 (q_iload_n rfl (q_aald (t := 0) (j := i) (PI_pl hP ht).2.2.2.2.2.2.1 (by omega) (by omega) (by omega) ((PI_pl hP ht).2.2.2.2.2.2.2.1 i (by omega)) (q_iload_n rfl (q_iald (j := j) ((PI_pl hP ht).2.2.2.2.2.2.2.2 i (by omega)) rfl (by omega) rfl hrr)))))) ?_
  exact rw_ret hQ (q_ireturn (Or.inl rfl)) (by exact ⟨rfl, rfl, rfl⟩)
theorem c_X4_write0 {d : Nat} {S : Env} {fz : Bool} {m : M1} {p : M2} (hd : 1 ≤ d) (t : Nat) (i : Nat) (j : Nat) (x : F) (hP : PI p) (ht : IsPl t) (hi : i < 8) (hj : j < 8) : Ct d k_X4_write S fz [.ref (t), .int (iI (0)), .int (iI (((i : Nat) : Int))), .int (iI (((j : Nat) : Int))), .int (iI (vF (x)))] m p (fun v m' p' => v = none ∧ p = p' ∧ w1 m (t + 2 + i) j x = m') := by
  obtain ⟨d, rfl⟩ : ∃ e, d = e + 1 := ⟨d - 1, by omega⟩
  refine ct_go (lv := [some (.ref (t)), some (.int (iI (0))), some (.int (iI (((i : Nat) : Int)))), some (.int (iI (((j : Nat) : Int)))), some (.int (iI (vF (x))))]) (Nat.le_of_ble_eq_true rfl) (okar_cons rfl (okar_cons rfl (okar_cons rfl (okar_cons rfl (okar_cons rfl okar_nil))))) rfl (fun Qr hQ => ?_)
  have ht' := IsPl_b ht
  refine rw_blk lk_X4_write_0 ?_
  refine rw_of (fun rr hrr => q_iload_n rfl (q_table (v := iI 0) (t := 28) rfl hrr)) ?_
  refine rw_blk lk_X4_write_28 ?_
  refine rw_of (fun rr hrr => q_aload_n rfl (q_getR (PI_pl hP ht).1 rfl (PI_pl hP ht).2.1 (q_iload_n rfl (q_aald (t := 0) (j := i) (PI_pl hP ht).2.2.2.2.2.2.1 (by omega) (by omega) (by omega) ((PI_pl hP ht).2.2.2.2.2.2.2.1 i (by omega)) (q_iload_n rfl (q_iload rfl (q_iast (j := j) (xx := x) ((PI_pl hP ht).2.2.2.2.2.2.2.2 i (by omega)) rfl (by omega) rfl hrr))))))) ?_
  generalize hm2 : w1 m (t + 2 + i) j x = mm1
  refine rw_of (fun rr hrr => q_goto (t := 69) rfl hrr) ?_
  refine rw_blk lk_X4_write_69 ?_
  exact rw_ret hQ (q_return) (by exact ⟨rfl, rfl, hm2⟩)
theorem c_X4_read1 {d : Nat} {S : Env} {fz : Bool} {m : M1} {p : M2} (hd : 1 ≤ d) (t : Nat) (i : Nat) (j : Int) (hP : PI p) (ht : IsPl t) (hi : i < 8) : Ct d k_X4_read S fz [.ref (t), .int (iI (1)), .int (iI (((i : Nat) : Int))), .int (iI (j))] m p (fun v m' p' => v = some (.int (iI (vF (m (t + 10) i)))) ∧ m = m' ∧ p = p') := by
  obtain ⟨d, rfl⟩ : ∃ e, d = e + 1 := ⟨d - 1, by omega⟩
  refine ct_go (lv := [some (.ref (t)), some (.int (iI (1))), some (.int (iI (((i : Nat) : Int)))), some (.int (iI (j)))]) (Nat.le_of_ble_eq_true rfl) (okar_cons rfl (okar_cons rfl (okar_cons rfl (okar_cons rfl okar_nil)))) rfl (fun Qr hQ => ?_)
  have ht' := IsPl_b ht
  refine rw_blk lk_X4_read_0 ?_
  refine rw_of (fun rr hrr => q_iload_n rfl (q_table (v := iI 1) (t := 37) rfl hrr)) ?_
  refine rw_blk lk_X4_read_37 ?_
  refine rw_of (fun rr hrr => q_aload_n rfl (q_getR (PI_pl hP ht).1 rfl (PI_pl hP ht).2.2.1 (q_iload_n rfl (q_iald (j := i) (PI_pl hP ht).2.2.2.2.1 rfl (by omega) rfl hrr)))) ?_
  exact rw_ret hQ (q_ireturn (Or.inl rfl)) (by exact ⟨rfl, rfl, rfl⟩)
theorem c_X4_write1 {d : Nat} {S : Env} {fz : Bool} {m : M1} {p : M2} (hd : 1 ≤ d) (t : Nat) (i : Nat) (j : Int) (x : F) (hP : PI p) (ht : IsPl t) (hi : i < 8) : Ct d k_X4_write S fz [.ref (t), .int (iI (1)), .int (iI (((i : Nat) : Int))), .int (iI (j)), .int (iI (vF (x)))] m p (fun v m' p' => v = none ∧ p = p' ∧ w1 m (t + 10) i x = m') := by
  obtain ⟨d, rfl⟩ : ∃ e, d = e + 1 := ⟨d - 1, by omega⟩
  refine ct_go (lv := [some (.ref (t)), some (.int (iI (1))), some (.int (iI (((i : Nat) : Int)))), some (.int (iI (j))), some (.int (iI (vF (x))))]) (Nat.le_of_ble_eq_true rfl) (okar_cons rfl (okar_cons rfl (okar_cons rfl (okar_cons rfl (okar_cons rfl okar_nil))))) rfl (fun Qr hQ => ?_)
  have ht' := IsPl_b ht
  refine rw_blk lk_X4_write_0 ?_
  refine rw_of (fun rr hrr => q_iload_n rfl (q_table (v := iI 1) (t := 41) rfl hrr)) ?_
  refine rw_blk lk_X4_write_41 ?_
  refine rw_of (fun rr hrr => q_aload_n rfl (q_getR (PI_pl hP ht).1 rfl (PI_pl hP ht).2.2.1 (q_iload_n rfl (q_iload rfl (q_iast (j := i) (xx := x) (PI_pl hP ht).2.2.2.2.1 rfl (by omega) rfl hrr))))) ?_
  generalize hm2 : w1 m (t + 10) i x = mm1
  refine rw_of (fun rr hrr => q_goto (t := 69) rfl hrr) ?_
  refine rw_blk lk_X4_write_69 ?_
  exact rw_ret hQ (q_return) (by exact ⟨rfl, rfl, hm2⟩)
theorem c_X4_read2 {d : Nat} {S : Env} {fz : Bool} {m : M1} {p : M2} (hd : 1 ≤ d) (t : Nat) (i : Int) (j : Nat) (hP : PI p) (ht : IsPl t) (hj : j < 8) : Ct d k_X4_read S fz [.ref (t), .int (iI (2)), .int (iI (i)), .int (iI (((j : Nat) : Int)))] m p (fun v m' p' => v = some (.int (iI (vF (m (t + 11) j)))) ∧ m = m' ∧ p = p') := by
  obtain ⟨d, rfl⟩ : ∃ e, d = e + 1 := ⟨d - 1, by omega⟩
  refine ct_go (lv := [some (.ref (t)), some (.int (iI (2))), some (.int (iI (i))), some (.int (iI (((j : Nat) : Int))))]) (Nat.le_of_ble_eq_true rfl) (okar_cons rfl (okar_cons rfl (okar_cons rfl (okar_cons rfl okar_nil)))) rfl (fun Qr hQ => ?_)
  have ht' := IsPl_b ht
  refine rw_blk lk_X4_read_0 ?_
  refine rw_of (fun rr hrr => q_iload_n rfl (q_table (v := iI 2) (t := 44) rfl hrr)) ?_
  refine rw_blk lk_X4_read_44 ?_
  refine rw_of (fun rr hrr => q_aload_n rfl (q_getR (PI_pl hP ht).1 rfl (PI_pl hP ht).2.2.2.1 (q_iload_n rfl (q_iald (j := j) (PI_pl hP ht).2.2.2.2.2.1 rfl (by omega) rfl hrr)))) ?_
  exact rw_ret hQ (q_ireturn (Or.inl rfl)) (by exact ⟨rfl, rfl, rfl⟩)
theorem c_X4_write2 {d : Nat} {S : Env} {fz : Bool} {m : M1} {p : M2} (hd : 1 ≤ d) (t : Nat) (i : Int) (j : Nat) (x : F) (hP : PI p) (ht : IsPl t) (hj : j < 8) : Ct d k_X4_write S fz [.ref (t), .int (iI (2)), .int (iI (i)), .int (iI (((j : Nat) : Int))), .int (iI (vF (x)))] m p (fun v m' p' => v = none ∧ p = p' ∧ w1 m (t + 11) j x = m') := by
  obtain ⟨d, rfl⟩ : ∃ e, d = e + 1 := ⟨d - 1, by omega⟩
  refine ct_go (lv := [some (.ref (t)), some (.int (iI (2))), some (.int (iI (i))), some (.int (iI (((j : Nat) : Int)))), some (.int (iI (vF (x))))]) (Nat.le_of_ble_eq_true rfl) (okar_cons rfl (okar_cons rfl (okar_cons rfl (okar_cons rfl (okar_cons rfl okar_nil))))) rfl (fun Qr hQ => ?_)
  have ht' := IsPl_b ht
  refine rw_blk lk_X4_write_0 ?_
  refine rw_of (fun rr hrr => q_iload_n rfl (q_table (v := iI 2) (t := 52) rfl hrr)) ?_
  refine rw_blk lk_X4_write_52 ?_
  refine rw_of (fun rr hrr => q_aload_n rfl (q_getR (PI_pl hP ht).1 rfl (PI_pl hP ht).2.2.2.1 (q_iload_n rfl (q_iload rfl (q_iast (j := j) (xx := x) (PI_pl hP ht).2.2.2.2.2.1 rfl (by omega) rfl hrr))))) ?_
  generalize hm2 : w1 m (t + 11) j x = mm1
  refine rw_of (fun rr hrr => q_goto (t := 69) rfl hrr) ?_
  refine rw_blk lk_X4_write_69 ?_
  exact rw_ret hQ (q_return) (by exact ⟨rfl, rfl, hm2⟩)
theorem c_X4_read3 {d : Nat} {S : Env} {fz : Bool} {m : M1} {p : M2} (hd : 1 ≤ d) (t : Nat) (i : Int) (j : Int) (hP : PI p) (ht : IsPl t) : Ct d k_X4_read S fz [.ref (t), .int (iI (3)), .int (iI (i)), .int (iI (j))] m p (fun v m' p' => v = some (.int (iI (vF (m t 4)))) ∧ m = m' ∧ p = p') := by
  obtain ⟨d, rfl⟩ : ∃ e, d = e + 1 := ⟨d - 1, by omega⟩
  refine ct_go (lv := [some (.ref (t)), some (.int (iI (3))), some (.int (iI (i))), some (.int (iI (j)))]) (Nat.le_of_ble_eq_true rfl) (okar_cons rfl (okar_cons rfl (okar_cons rfl (okar_cons rfl okar_nil)))) rfl (fun Qr hQ => ?_)
  have ht' := IsPl_b ht
  refine rw_blk lk_X4_read_0 ?_
  refine rw_of (fun rr hrr => q_iload_n rfl (q_table (v := iI 3) (t := 51) rfl hrr)) ?_
  refine rw_blk lk_X4_read_51 ?_
  refine rw_of (fun rr hrr => q_aload_n rfl (q_getI (PI_pl hP ht).1 rfl rfl hrr)) ?_
  exact rw_ret hQ (q_ireturn (Or.inl rfl)) (by exact ⟨rfl, rfl, rfl⟩)
theorem c_X4_write3 {d : Nat} {S : Env} {fz : Bool} {m : M1} {p : M2} (hd : 1 ≤ d) (t : Nat) (i : Int) (j : Int) (x : F) (hP : PI p) (ht : IsPl t) : Ct d k_X4_write S fz [.ref (t), .int (iI (3)), .int (iI (i)), .int (iI (j)), .int (iI (vF (x)))] m p (fun v m' p' => v = none ∧ p = p' ∧ w1 m (t) 4 x = m') := by
  obtain ⟨d, rfl⟩ : ∃ e, d = e + 1 := ⟨d - 1, by omega⟩
  refine ct_go (lv := [some (.ref (t)), some (.int (iI (3))), some (.int (iI (i))), some (.int (iI (j))), some (.int (iI (vF (x))))]) (Nat.le_of_ble_eq_true rfl) (okar_cons rfl (okar_cons rfl (okar_cons rfl (okar_cons rfl (okar_cons rfl okar_nil))))) rfl (fun Qr hQ => ?_)
  have ht' := IsPl_b ht
  refine rw_blk lk_X4_write_0 ?_
  refine rw_of (fun rr hrr => q_iload_n rfl (q_table (v := iI 3) (t := 63) rfl hrr)) ?_
  refine rw_blk lk_X4_write_63 ?_
  refine rw_of (fun rr hrr => q_aload_n rfl (q_iload rfl (q_putI (xx := x) (PI_pl hP ht).1 rfl rfl rfl hrr))) ?_
  generalize hm2 : w1 m t 4 x = mm1
  refine rw_blk lk_X4_write_69 ?_
  exact rw_ret hQ (q_return) (by exact ⟨rfl, rfl, hm2⟩)
theorem c_X8_isFull {d : Nat} {S : Env} {fz : Bool} {m : M1} {p : M2} (hd : 1 ≤ d) (t c w : Nat) (hs : SH t = (16, 0)) (h1 : m t 1 = nF c) (h2 : m t 2 = nF w) (hc : c ≤ 100 ∧ w ≤ 100) : Ct d k_X8_isFull S fz [.ref (t)] m p (fun v m' p' => v = some (.int (iI ((if w ≤ c then 1 else 0 : Int)))) ∧ m = m' ∧ p = p') := by
  obtain ⟨d, rfl⟩ : ∃ e, d = e + 1 := ⟨d - 1, by omega⟩
  refine ct_go (lv := [some (.ref (t))]) (Nat.le_of_ble_eq_true rfl) (okar_cons rfl okar_nil) rfl (fun Qr hQ => ?_)
  refine rw_blk lk_X8_isFull_0 ?_
  refine rw_of (fun rr hrr => q_aload_n rfl (q_getI hs rfl (ki rfl h1 (by omega)) (q_aload_n rfl (q_getI hs rfl (ki rfl h2 (by omega)) hrr)))) ?_
  refine rw_icmp_lt ⟨by omega, by omega⟩ ⟨by omega, by omega⟩ (t := 15) rfl (fun hc1 => ?_) (fun hc1 => ?_)
  · skip
    refine rw_blk lk_X8_isFull_15 ?_
    refine rw_of (fun rr hrr => q_iconst hrr) ?_
    refine rw_blk lk_X8_isFull_16 ?_
    refine rw_ret hQ (q_ireturn (by omega)) ?_
    first
      | exact ⟨lvI (if_pos (by omega)).symm, rfl, rfl⟩
      | exact ⟨lvI (if_neg (by omega)).symm, rfl, rfl⟩
    
  · skip
    refine rw_of (fun rr hrr => q_iconst (q_goto (t := 16) rfl hrr)) ?_
    refine rw_blk lk_X8_isFull_16 ?_
    refine rw_ret hQ (q_ireturn (by omega)) ?_
    first
      | exact ⟨lvI (if_pos (by omega)).symm, rfl, rfl⟩
      | exact ⟨lvI (if_neg (by omega)).symm, rfl, rfl⟩
    
theorem c_X8_add {d : Nat} {S : Env} {fz : Bool} {m : M1} {p : M2} (hd : 1 ≤ d) (t b c w : Nat) (x : F) (hs : SH t = (16, 0)) (hp : p t 0 = some b) (hb : SH b = (1, 20)) (hbt : b ≠ t) (h1 : m t 1 = nF c) (h2 : m t 2 = nF w) (hc : c < w ∧ w ≤ 20) : Ct d k_X8_add S fz [.ref (t), .int (iI (vF (x)))] m p (fun v m' p' => v = some (.int (iI ((c + 1 : Nat) : Int))) ∧ p = p' ∧ w1 (w1 m b c x) t 1 (nF (c + 1)) = m') := by
  obtain ⟨d, rfl⟩ : ∃ e, d = e + 1 := ⟨d - 1, by omega⟩
  refine ct_go (lv := [some (.ref (t)), some (.int (iI (vF (x))))]) (Nat.le_of_ble_eq_true rfl) (okar_cons rfl (okar_cons rfl okar_nil)) rfl (fun Qr hQ => ?_)
  refine rw_blk lk_X8_add_0 ?_
  refine rw_of (fun rr hrr => q_aload_n rfl (q_getR hs rfl hp (q_aload_n rfl (q_getI hs rfl (ki rfl h1 (by omega)) (q_iload_n rfl (q_iast (j := c) (xx := x) hb rfl (by omega) rfl hrr)))))) ?_
  generalize hm2 : w1 m b c x = mm1
  refine rw_of (fun rr hrr => q_aload_n rfl (q_dup rfl (q_getI hs rfl (ki (kw hm2 (by omega)) h1 (by omega)) (q_iconst (q_iadd (q_putI (xx := nF (c + 1)) hs rfl rfl ((show _ = ((c + 1 : Nat) : Int) by omega).trans (vF_nF (by omega)).symm) hrr)))))) ?_
  generalize hm4 : w1 mm1 t 1 (nF (c + 1)) = mm3
  refine rw_of (fun rr hrr => q_aload_n rfl (q_getI (v := ((c + 1 : Nat) : Int)) hs rfl (by rw [← hm4, w1_at, vF_nF (by omega)]) hrr)) ?_
  exact rw_ret hQ (q_ireturn (Or.inl rfl)) (by exact ⟨rfl, rfl, by rw [hm2, hm4]⟩)
theorem c_X4_beTurned {d : Nat} {S : Env} {fz : Bool} {m : M1} {p : M2} (hd : 1 ≤ d) (q n : Nat) (hP : PI p) (hq : IsPl q) (hq7 : q ≠ 7) (hmq : m q 0 = nF n) (hn : n ≤ 8) : Ct d k_X4_beTurned S fz [.ref (7), .ref (q)] m p (fun v m' p' => v = none ∧ p = p' ∧ Fr (fun a_ => 7 ≤ a_ ∧ a_ < 18) m m' ∧ (∀ r, r < n → ∀ c, c < n → m' (9 + r) c = m (q + 2 + c) r) ∧ (∀ r, r < n → m' 17 r = m (q + 11) r) ∧ m' 7 0 = nF n) := by
  obtain ⟨d, rfl⟩ : ∃ e, d = e + 1 := ⟨d - 1, by omega⟩
  refine ct_go (lv := [some (.ref (7)), some (.ref (q)), none, none]) (Nat.le_of_ble_eq_true rfl) (okar_cons rfl (okar_cons rfl okar_nil)) rfl (fun Qr hQ => ?_)
  have hq' := IsPl_b hq
  refine rw_blk lk_X4_beTurned_0 ?_
  refine rw_of (fun rr hrr => q_aload_n rfl (q_aload_n rfl (q_getI (PI_pl hP hq).1 rfl (ki rfl hmq (by omega)) (q_putI (xx := nF (n)) (PI_pl hP (Or.inl rfl)).1 rfl rfl ((show _ = ((n : Nat) : Int) by omega).trans (vF_nF (by omega)).symm) hrr)))) ?_
  generalize hm2 : w1 m 7 0 (nF (n)) = mm1
  refine rw_of (fun rr hrr => q_iconst (q_istore_n (Nat.le_of_ble_eq_true rfl) rfl hrr)) ?_
  have hL10 : ∀ i, i ≤ n → ∀ (m1 : M1) (x10_3 : Option Value), (Fr (fun a_ => 7 ≤ a_ ∧ a_ < 18) m m1 ∧ (∀ r, r < i → ∀ c, c < n → m1 (9 + r) c = m (q + 2 + c) r) ∧ (∀ r, r < i → m1 17 r = m (q + 11) r) ∧ m1 7 0 = nF n) → Rw (Ev d) k_X4_beTurned (10, [], [some (.ref (7)), some (.ref (q)), some (.int (iI (((i : Nat) : Int)))), x10_3], [], hpM S fz (m1, p), 0, 0) Qr := by
    refine loop_any (fun i hi10 ih10 => ?_)
    intro m1 x10_3
    intro hI10
    obtain ⟨hF, hv, hb, h7⟩ := hI10
    refine rw_blk lk_X4_beTurned_10 ?_
    refine rw_of (fun rr hrr => q_iload_n rfl (q_aload_n rfl (q_getI (PI_pl hP (Or.inl rfl)).1 rfl (ki rfl h7 (by omega)) hrr))) ?_
    refine rw_icmp_ge ⟨by omega, by omega⟩ ⟨by omega, by omega⟩ (t := 68) rfl (fun hc3 => ?_) (fun hc3 => ?_)
    · skip
      refine rw_blk lk_X4_beTurned_68 ?_
      refine rw_ret hQ (q_return) ?_
      have e9 : n = i := (by omega)
      subst e9
      exact ⟨rfl, rfl, hF, hv, hb, h7⟩
      
    · skip
      refine rw_of (fun rr hrr => q_iconst (q_istore_n (Nat.le_of_ble_eq_true rfl) rfl hrr)) ?_
      have hL20 : ∀ j2, j2 ≤ n → ∀ (m2 : M1), (Fr (fun a_ => a_ = 9 + i) m1 m2 ∧ ∀ j, m2 (9 + i) j = if j < j2 then m1 (q + 2 + j) i else m1 (9 + i) j) → Rw (Ev d) k_X4_beTurned (20, [], [some (.ref (7)), some (.ref (q)), some (.int (iI (((i : Nat) : Int)))), some (.int (iI (((j2 : Nat) : Int))))], [], hpM S fz (m2, p), 0, 0) Qr := by
        refine loop_any (fun j2 hi20 ih20 => ?_)
        intro m2
        intro hI20
        obtain ⟨hFi, hvi⟩ := hI20
        refine rw_blk lk_X4_beTurned_20 ?_
        refine rw_of (fun rr hrr => q_iload_n rfl (q_aload_n rfl (q_getI (PI_pl hP (Or.inl rfl)).1 rfl (ki (hFi 7 (by show ¬ (7 = 9 + i); omega)) h7 (by omega)) hrr))) ?_
        refine rw_icmp_ge ⟨by omega, by omega⟩ ⟨by omega, by omega⟩ (t := 50) rfl (fun hc4 => ?_) (fun hc4 => ?_)
        · skip
          refine rw_blk lk_X4_beTurned_50 ?_
          refine rw_of (fun rr hrr => q_aload_n rfl (q_getR (PI_pl hP (Or.inl rfl)).1 rfl (PI_pl hP (Or.inl rfl)).2.2.1 (q_iload_n rfl (q_aload_n rfl (q_getR (PI_pl hP hq).1 rfl (PI_pl hP hq).2.2.2.1 (q_iload_n rfl (q_iald (j := i) (PI_pl hP hq).2.2.2.2.2.1 rfl (by omega) rfl (q_iast (j := i) (xx := m2 (q + 11) i) (PI_pl hP (Or.inl rfl)).2.2.2.2.1 rfl (by omega) rfl hrr)))))))) ?_
          generalize hm6 : w1 m2 (7 + 10) i (m2 (q + 11) i) = mm5
          refine rw_of (fun rr hrr => q_iinc rfl rfl (q_goto (t := 10) rfl hrr)) ?_
          have hA7 : Fr (fun a_ => 7 ≤ a_ ∧ a_ < 18) m mm5 ∧ (∀ r, r < (i + 1) → ∀ c, c < n → mm5 (9 + r) c = m (q + 2 + c) r) ∧ (∀ r, r < (i + 1) → mm5 17 r = m (q + 11) r) ∧ mm5 7 0 = nF n := by
            refine ⟨fr_w hm6 (Fr_trans hF (Fr_mono hFi (fun a ha => by omega))) (by omega), fun r hr c hc => ?_, fun r hr => ?_, ?_⟩
            · rw [← hm6, w1_a (by omega)]
              by_cases q1 : r = i
              · rw [q1, hvi c, if_pos (by omega), hF (q + 2 + c) (by omega)]
              · rw [hFi _ (by omega)]
                exact hv r (by omega) c hc
            · rw [← hm6]
              by_cases q1 : r = i
              · rw [q1, w1_at, hFi _ (by omega), hF _ (by omega)]
              · rw [w1_ne (fun z => q1 z.2), hFi _ (by omega)]
                exact hb r (by omega)
            · rw [← hm6, w1_a (by omega), hFi 7 (by omega)]
              exact h7
          exact rw_cast (ih10 (by omega) mm5 (some (.int (iI (((j2 : Nat) : Int))))) hA7) (lcons rfl (lcons rfl (lcons (lvI (by omega)) (lcons rfl rfl)))) rfl
        · skip
          refine rw_of (fun rr hrr => q_aload_n rfl (q_getR (PI_pl hP (Or.inl rfl)).1 rfl (PI_pl hP (Or.inl rfl)).2.1 (q_iload_n rfl (q_aald (t := 0) (j := i) (PI_pl hP (Or.inl rfl)).2.2.2.2.2.2.1 (by omega) (by omega) (by omega) ((PI_pl hP (Or.inl rfl)).2.2.2.2.2.2.2.1 i (by omega)) (q_iload_n rfl (q_aload_n rfl (q_getR (PI_pl hP hq).1 rfl (PI_pl hP hq).2.1 (q_iload_n rfl (q_aald (t := 0) (j := j2) (PI_pl hP hq).2.2.2.2.2.2.1 (by omega) (by omega) (by omega) ((PI_pl hP hq).2.2.2.2.2.2.2.1 j2 (by omega)) (q_iload_n rfl (q_iald (j := i) ((PI_pl hP hq).2.2.2.2.2.2.2.2 j2 (by omega)) rfl (by omega) rfl (q_iast (j := j2) (xx := m2 (q + 2 + j2) i) ((PI_pl hP (Or.inl rfl)).2.2.2.2.2.2.2.2 i (by omega)) rfl (by omega) rfl hrr)))))))))))) ?_
          generalize hm9 : w1 m2 (7 + 2 + i) j2 (m2 (q + 2 + j2) i) = mm8
          refine rw_of (fun rr hrr => q_iinc rfl rfl (q_goto (t := 20) rfl hrr)) ?_
          exact rw_cast (ih20 (by omega) mm8 (by exact ⟨fr_w hm9 hFi rfl, fill_w hm9 hvi (by rw [hFi (q + 2 + j2) (by omega)])⟩)) (lcons rfl (lcons rfl (lcons rfl (lcons (lvI (by omega)) rfl)))) rfl
      exact rw_cast (hL20 0 (by omega) m1 (by exact ⟨Fr_rfl, fun j => (if_neg (Nat.not_lt_zero j)).symm⟩)) (lcons rfl (lcons rfl (lcons rfl (lcons (lvI (by omega)) rfl)))) rfl
  exact rw_cast (hL10 0 (by omega) mm1 none (by exact ⟨fr_w hm2 Fr_rfl (by omega), fun r hr => absurd hr (Nat.not_lt_zero r), fun r hr => absurd hr (Nat.not_lt_zero r), by rw [← hm2, w1_at]⟩)) (lcons rfl (lcons rfl (lcons (lvI (by omega)) (lcons rfl rfl)))) rfl
theorem c_X4_beObserved {d : Nat} {S : Env} {fz : Bool} {m : M1} {p : M2} (hd : 2 ≤ d) (t q n : Nat) (hP : PI p) (ht : IsPl t) (hq : IsPl q) (hqt : q + 12 ≤ t ∨ t + 12 ≤ q) (hmq : m q 0 = nF n) (hn : 2 * n ≤ 8) (hz : ∀ r, m (t + 11) r = 0) : Ct d k_X4_beObserved S fz [.ref (t), .ref (q), .ref (33), .ref (34)] m p (fun v m' p' => v = none ∧ p = p' ∧ Fr (fun a_ => t + 2 ≤ a_ ∧ a_ < t + 12) m m' ∧ (∀ r, r < 2 * n → ∀ c, c < 2 * n → m' (t + 2 + r) c = obA n (fun z => m (q + 2 + z)) (m (q + 10)) (m (q + 11)) (m 33) (m 34) r c) ∧ (∀ r, r < n → m' (t + 10) r = m (q + 10) r ∧ m' (t + 10) (n + r) = m (q + 10) r) ∧ ∀ r, m' (t + 11) r = if r < n then m (q + 11) r else 0) := by
  obtain ⟨d, rfl⟩ : ∃ e, d = e + 1 := ⟨d - 1, by omega⟩
  refine ct_go (lv := [some (.ref (t)), some (.ref (q)), some (.ref (33)), some (.ref (34)), none, none, none, none, none, none]) (Nat.le_of_ble_eq_true rfl) (okar_cons rfl (okar_cons rfl (okar_cons rfl (okar_cons rfl okar_nil)))) rfl (fun Qr hQ => ?_)
  have ht' := IsPl_b ht
  have hq' := IsPl_b hq
  refine rw_blk lk_X4_beObserved_0 ?_
  refine rw_of (fun rr hrr => q_aload_n rfl (q_getI (PI_pl hP hq).1 rfl (ki rfl hmq (by omega)) (q_istore (Nat.le_of_ble_eq_true rfl) rfl (q_iconst (q_istore (Nat.le_of_ble_eq_true rfl) rfl hrr))))) ?_
  have hL9 : ∀ i, i ≤ n → ∀ (m1 : M1) (x9_6 : Option Value) (x9_7 : Option Value) (x9_8 : Option Value) (x9_9 : Option Value), (Fr (fun a_ => t + 2 ≤ a_ ∧ a_ < t + 12) m m1 ∧ (∀ r, (r < i ∨ n ≤ r ∧ r < n + i) → ∀ c, c < 2 * n → m1 (t + 2 + r) c = obA n (fun z => m (q + 2 + z)) (m (q + 10)) (m (q + 11)) (m 33) (m 34) r c) ∧ (∀ r, r < i → m1 (t + 10) r = m (q + 10) r ∧ m1 (t + 10) (n + r) = m (q + 10) r) ∧ ∀ r, m1 (t + 11) r = if r < i then m (q + 11) r else 0) → Rw (Ev d) k_X4_beObserved (9, [], [some (.ref (t)), some (.ref (q)), some (.ref (33)), some (.ref (34)), some (.int (iI (((n : Nat) : Int)))), some (.int (iI (((i : Nat) : Int)))), x9_6, x9_7, x9_8, x9_9], [], hpM S fz (m1, p), 0, 0) Qr := by
    refine loop_any (fun i hi9 ih9 => ?_)
    intro m1 x9_6 x9_7 x9_8 x9_9
    intro hI9
    obtain ⟨hF, hv, hb, hc⟩ := hI9
    refine rw_blk lk_X4_beObserved_9 ?_
    refine rw_of (fun rr hrr => q_iload rfl (q_iload rfl hrr)) ?_
    refine rw_icmp_ge ⟨by omega, by omega⟩ ⟨by omega, by omega⟩ (t := 201) rfl (fun hc1 => ?_) (fun hc1 => ?_)
    · skip
      refine rw_blk lk_X4_beObserved_201 ?_
      refine rw_ret hQ (q_return) ?_
      have e9 : n = i := (by omega)
      subst e9
      exact ⟨rfl, rfl, hF, fun r hr => hv r (by omega), hb, hc⟩
      
    · skip
      refine rw_of (fun rr hrr => q_iconst (q_istore (Nat.le_of_ble_eq_true rfl) rfl hrr)) ?_
      have hL19 : ∀ j, j ≤ n → ∀ (m2 : M1) (x19_7 : Option Value) (x19_8 : Option Value) (x19_9 : Option Value), (Fr (fun a_ => a_ = t + 2 + i ∨ a_ = t + 2 + (n + i)) m1 m2 ∧ ∀ c, c < 2 * n → (c < j ∨ n ≤ c ∧ c < n + j → m2 (t + 2 + i) c = obA n (fun z => m (q + 2 + z)) (m (q + 10)) (m (q + 11)) (m 33) (m 34) i c) ∧ (c < j ∨ n ≤ c ∧ c < n + j → m2 (t + 2 + (n + i)) c = obA n (fun z => m (q + 2 + z)) (m (q + 10)) (m (q + 11)) (m 33) (m 34) (n + i) c)) → Rw (Ev d) k_X4_beObserved (19, [], [some (.ref (t)), some (.ref (q)), some (.ref (33)), some (.ref (34)), some (.int (iI (((n : Nat) : Int)))), some (.int (iI (((i : Nat) : Int)))), some (.int (iI (((j : Nat) : Int)))), x19_7, x19_8, x19_9], [], hpM S fz (m2, p), 0, 0) Qr := by
        refine loop_any (fun j hi19 ih19 => ?_)
        intro m2 x19_7 x19_8 x19_9
        intro hI19
        obtain ⟨hFi, hvi⟩ := hI19
        refine rw_blk lk_X4_beObserved_19 ?_
        refine rw_of (fun rr hrr => q_iload rfl (q_iload rfl hrr)) ?_
        refine rw_icmp_ge ⟨by omega, by omega⟩ ⟨by omega, by omega⟩ (t := 150) rfl (fun hc2 => ?_) (fun hc2 => ?_)
        · skip
          refine rw_blk lk_X4_beObserved_150 ?_
          refine rw_of (fun rr hrr => q_aload_n rfl (q_getR (PI_pl hP ht).1 rfl (PI_pl hP ht).2.2.1 (q_iload rfl (q_aload_n rfl (q_getR (PI_pl hP hq).1 rfl (PI_pl hP hq).2.2.1 (q_iload rfl (q_iald (j := i) (PI_pl hP hq).2.2.2.2.1 rfl (by omega) rfl (q_iast (j := i) (xx := m2 (q + 10) i) (PI_pl hP ht).2.2.2.2.1 rfl (by omega) rfl hrr)))))))) ?_
          generalize hm4 : w1 m2 (t + 10) i (m2 (q + 10) i) = mm3
          refine rw_of (fun rr hrr => q_aload_n rfl (q_getR (PI_pl hP ht).1 rfl (PI_pl hP ht).2.2.1 (q_iload rfl (q_iload rfl (q_iadd (q_aload_n rfl (q_getR (PI_pl hP hq).1 rfl (PI_pl hP hq).2.2.1 (q_iload rfl (q_iald (j := i) (PI_pl hP hq).2.2.2.2.1 rfl (by omega) rfl (q_iast (j := n + i) (xx := mm3 (q + 10) i) (PI_pl hP ht).2.2.2.2.1 (by omega) (by omega) rfl hrr)))))))))) ?_
          generalize hm6 : w1 mm3 (t + 10) (n + i) (mm3 (q + 10) i) = mm5
          refine rw_of (fun rr hrr => q_aload_n rfl (q_getR (PI_pl hP ht).1 rfl (PI_pl hP ht).2.2.2.1 (q_iload rfl (q_aload_n rfl (q_getR (PI_pl hP hq).1 rfl (PI_pl hP hq).2.2.2.1 (q_iload rfl (q_iald (j := i) (PI_pl hP hq).2.2.2.2.2.1 rfl (by omega) rfl (q_iast (j := i) (xx := mm5 (q + 11) i) (PI_pl hP ht).2.2.2.2.2.1 rfl (by omega) rfl hrr)))))))) ?_
          generalize hm8 : w1 mm5 (t + 11) i (mm5 (q + 11) i) = mm7
          refine rw_of (fun rr hrr => q_iinc rfl rfl (q_goto (t := 9) rfl hrr)) ?_
          have hA9 : Fr (fun a_ => t + 2 ≤ a_ ∧ a_ < t + 12) m mm7 ∧ (∀ r, (r < (i + 1) ∨ n ≤ r ∧ r < n + (i + 1)) → ∀ c, c < 2 * n → mm7 (t + 2 + r) c = obA n (fun z => m (q + 2 + z)) (m (q + 10)) (m (q + 11)) (m 33) (m 34) r c) ∧ (∀ r, r < (i + 1) → mm7 (t + 10) r = m (q + 10) r ∧ mm7 (t + 10) (n + r) = m (q + 10) r) ∧ ∀ r, mm7 (t + 11) r = if r < (i + 1) then m (q + 11) r else 0 := by
            refine ⟨fr_w hm8 (fr_w hm6 (fr_w hm4 (Fr_trans hF (Fr_mono hFi (fun a ha => by omega))) (by omega)) (by omega)) (by omega), fun r hr c hc => ?_, fun r hr => ?_, ?_⟩
            · rw [← hm8, w1_a (by omega), ← hm6, w1_a (by omega), ← hm4, w1_a (by omega)]
              by_cases q1 : r = i ∨ r = n + i
              · have := hvi c hc
                rcases q1 with q1 | q1
                · rw [q1]; exact this.1 (by omega)
                · rw [q1]; exact this.2 (by omega)
              · rw [hFi _ (by omega)]
                exact hv r (by omega) c hc
            · rw [← hm8, w1_a (by omega), ← hm6, ← hm4]
              by_cases q1 : r = i
              · rw [q1]
                refine ⟨?_, ?_⟩
                · rw [w1_ne (by omega), w1_at, hFi _ (by omega), hF _ (by omega)]
                · rw [w1_at, w1_a (by omega), hFi _ (by omega), hF _ (by omega)]
              · refine ⟨?_, ?_⟩
                · rw [w1_ne (by omega), w1_ne (by omega), hFi _ (by omega)]; exact (hb r (by omega)).1
                · rw [w1_ne (by omega), w1_ne (by omega), hFi _ (by omega)]; exact (hb r (by omega)).2
            · refine filld_w (P' := fun r => r < i + 1) (f := m (q + 11)) (g := fun _ => 0) hm8 (fun r => by rw [← hm6, w1_a (by omega), ← hm4, w1_a (by omega), hFi _ (by omega)]; exact hc r) ?_ (fun r => by omega)
              rw [← hm6, w1_a (by omega), ← hm4, w1_a (by omega), hFi _ (by omega), hF _ (by omega)]
          exact rw_cast (ih9 (by omega) mm7 (some (.int (iI (((j : Nat) : Int))))) x19_7 x19_8 x19_9 hA9) (lcons rfl (lcons rfl (lcons rfl (lcons rfl (lcons rfl (lcons (lvI (by omega)) (lcons rfl (lcons rfl (lcons rfl (lcons rfl rfl)))))))))) rfl
        · skip
          refine rw_of (fun rr hrr => q_aload_n rfl (q_getR (PI_pl hP hq).1 rfl (PI_pl hP hq).2.2.1 (q_iload rfl (q_iald (j := i) (PI_pl hP hq).2.2.2.2.1 rfl (by omega) rfl (q_aload_n rfl (q_iload rfl (q_iald (j := j) (show SH 33 = (1, 8) from rfl) rfl (by omega) rfl hrr))))))) ?_
          obtain ⟨_, mm10, pp11, hV12, rfl, rfl, rfl⟩ := c_X2_times (S := S) (fz := fz) (m := m2) (p := p) (d := d) (by omega) (m2 (q + 10) i) (m2 33 j)
          refine rw_of (fun rr hrr => q_invS hV12 rfl rfl (okar_cons rfl (okar_cons rfl okar_nil)) (Nat.le_of_ble_eq_true rfl) (q_istore (Nat.le_of_ble_eq_true rfl) rfl (q_aload_n rfl (q_iload rfl (q_iald (j := i) (show SH 34 = (1, 8) from rfl) rfl (by omega) rfl (q_aload_n rfl (q_getR (PI_pl hP hq).1 rfl (PI_pl hP hq).2.2.2.1 (q_iload rfl (q_iald (j := j) (PI_pl hP hq).2.2.2.2.2.1 rfl (by omega) rfl hrr))))))))) ?_
          obtain ⟨_, mm13, pp14, hV15, rfl, rfl, rfl⟩ := c_X2_times (S := S) (fz := fz) (m := m2) (p := p) (d := d) (by omega) (m2 34 i) (m2 (q + 11) j)
          refine rw_of (fun rr hrr => q_invS hV15 rfl rfl (okar_cons rfl (okar_cons rfl okar_nil)) (Nat.le_of_ble_eq_true rfl) (q_istore (Nat.le_of_ble_eq_true rfl) rfl (q_aload_n rfl (q_getR (PI_pl hP hq).1 rfl (PI_pl hP hq).2.1 (q_iload rfl (q_aald (t := 0) (j := i) (PI_pl hP hq).2.2.2.2.2.2.1 (by omega) (by omega) (by omega) ((PI_pl hP hq).2.2.2.2.2.2.2.1 i (by omega)) (q_iload rfl (q_iald (j := j) ((PI_pl hP hq).2.2.2.2.2.2.2.2 i (by omega)) rfl (by omega) rfl (q_istore (Nat.le_of_ble_eq_true rfl) rfl (q_aload_n rfl (q_getR (PI_pl hP ht).1 rfl (PI_pl hP ht).2.1 (q_iload rfl (q_aald (t := 0) (j := i) (PI_pl hP ht).2.2.2.2.2.2.1 (by omega) (by omega) (by omega) ((PI_pl hP ht).2.2.2.2.2.2.2.1 i (by omega)) (q_iload rfl (q_iload rfl (q_iast (j := j) (xx := m2 (q + 2 + i) j) ((PI_pl hP ht).2.2.2.2.2.2.2.2 i (by omega)) rfl (by omega) rfl hrr)))))))))))))))) ?_
          generalize hm17 : w1 m2 (t + 2 + i) j (m2 (q + 2 + i) j) = mm16
          refine rw_of (fun rr hrr => q_aload_n rfl (q_getR (PI_pl hP ht).1 rfl (PI_pl hP ht).2.1 (q_iload rfl (q_aald (t := 0) (j := i) (PI_pl hP ht).2.2.2.2.2.2.1 (by omega) (by omega) (by omega) ((PI_pl hP ht).2.2.2.2.2.2.2.1 i (by omega)) (q_iload rfl (q_iload rfl (q_iadd (q_iconst (q_iload rfl hrr))))))))) ?_
          obtain ⟨_, mm18, pp19, hV20, rfl, rfl, rfl⟩ := c_X2_minus (S := S) (fz := fz) (m := mm16) (p := p) (d := d) (by omega) ((0 : F)) ((m2 (q + 10) i) * (m2 33 j))
          refine rw_of (fun rr hrr => q_invS hV20 rfl rfl (okar_cons rfl (okar_cons rfl okar_nil)) (Nat.le_of_ble_eq_true rfl) (q_iast (j := n + j) (xx := ((0 : F)) - ((m2 (q + 10) i) * (m2 33 j))) ((PI_pl hP ht).2.2.2.2.2.2.2.2 i (by omega)) (by omega) (by omega) rfl hrr)) ?_
          generalize hm22 : w1 mm16 (t + 2 + i) (n + j) (((0 : F)) - ((m2 (q + 10) i) * (m2 33 j))) = mm21
          refine rw_of (fun rr hrr => q_aload_n rfl (q_getR (PI_pl hP ht).1 rfl (PI_pl hP ht).2.1 (q_iload rfl (q_iload rfl (q_iadd (q_aald (t := 0) (j := n + i) (PI_pl hP ht).2.2.2.2.2.2.1 (by omega) (by omega) (by omega) ((PI_pl hP ht).2.2.2.2.2.2.2.1 (n + i) (by omega)) (q_iload rfl (q_iload rfl (q_iast (j := j) (xx := (m2 34 i) * (m2 (q + 11) j)) ((PI_pl hP ht).2.2.2.2.2.2.2.2 (n + i) (by omega)) rfl (by omega) rfl hrr))))))))) ?_
          generalize hm24 : w1 mm21 (t + 2 + (n + i)) j ((m2 34 i) * (m2 (q + 11) j)) = mm23
          refine rw_of (fun rr hrr => q_aload_n rfl (q_getR (PI_pl hP ht).1 rfl (PI_pl hP ht).2.1 (q_iload rfl (q_iload rfl (q_iadd (q_aald (t := 0) (j := n + i) (PI_pl hP ht).2.2.2.2.2.2.1 (by omega) (by omega) (by omega) ((PI_pl hP ht).2.2.2.2.2.2.2.1 (n + i) (by omega)) (q_iload rfl (q_iload rfl (q_iadd (q_iload rfl (q_iload rfl hrr))))))))))) ?_
          obtain ⟨_, mm25, pp26, hV27, rfl, rfl, rfl⟩ := c_X2_minus (S := S) (fz := fz) (m := mm23) (p := p) (d := d) (by omega) (m2 (q + 2 + i) j) ((m2 (q + 10) i) * (m2 33 j))
          refine rw_of (fun rr hrr => q_invS hV27 rfl rfl (okar_cons rfl (okar_cons rfl okar_nil)) (Nat.le_of_ble_eq_true rfl) (q_iload rfl hrr)) ?_
          obtain ⟨_, mm28, pp29, hV30, rfl, rfl, rfl⟩ := c_X2_minus (S := S) (fz := fz) (m := mm23) (p := p) (d := d) (by omega) ((m2 (q + 2 + i) j) - ((m2 (q + 10) i) * (m2 33 j))) ((m2 34 i) * (m2 (q + 11) j))
          refine rw_of (fun rr hrr => q_invS hV30 rfl rfl (okar_cons rfl (okar_cons rfl okar_nil)) (Nat.le_of_ble_eq_true rfl) (q_iast (j := n + j) (xx := ((m2 (q + 2 + i) j) - ((m2 (q + 10) i) * (m2 33 j))) - ((m2 34 i) * (m2 (q + 11) j))) ((PI_pl hP ht).2.2.2.2.2.2.2.2 (n + i) (by omega)) (by omega) (by omega) rfl hrr)) ?_
          generalize hm32 : w1 mm23 (t + 2 + (n + i)) (n + j) (((m2 (q + 2 + i) j) - ((m2 (q + 10) i) * (m2 33 j))) - ((m2 34 i) * (m2 (q + 11) j))) = mm31
          refine rw_of (fun rr hrr => q_iinc rfl rfl (q_goto (t := 19) rfl hrr)) ?_
          have hA33 : Fr (fun a_ => a_ = t + 2 + i ∨ a_ = t + 2 + (n + i)) m1 mm31 ∧ ∀ c, c < 2 * n → (c < (j + 1) ∨ n ≤ c ∧ c < n + (j + 1) → mm31 (t + 2 + i) c = obA n (fun z => m (q + 2 + z)) (m (q + 10)) (m (q + 11)) (m 33) (m 34) i c) ∧ (c < (j + 1) ∨ n ≤ c ∧ c < n + (j + 1) → mm31 (t + 2 + (n + i)) c = obA n (fun z => m (q + 2 + z)) (m (q + 10)) (m (q + 11)) (m 33) (m 34) (n + i) c) := by
            have e33 : ∀ c, m2 33 c = m 33 c := fun c => by rw [hFi 33 (by omega), hF 33 (by omega)]
            have e34 : ∀ c, m2 34 c = m 34 c := fun c => by rw [hFi 34 (by omega), hF 34 (by omega)]
            have eq2 : m2 (q + 2 + i) j = m (q + 2 + i) j := by rw [hFi _ (by omega), hF _ (by omega)]
            have eq10 : ∀ c, m2 (q + 10) c = m (q + 10) c := fun c => by rw [hFi _ (by omega), hF _ (by omega)]
            have eq11 : ∀ c, m2 (q + 11) c = m (q + 11) c := fun c => by rw [hFi _ (by omega), hF _ (by omega)]
            refine ⟨fr_w hm32 (fr_w hm24 (fr_w hm22 (fr_w hm17 hFi (by omega)) (by omega)) (by omega)) (by omega), fun c hc => ⟨fun h => ?_, fun h => ?_⟩⟩
            · rw [← hm32, w1_a (by omega), ← hm24, w1_a (by omega), ← hm22, ← hm17]
              by_cases q1 : c = n + j
              · rw [q1, w1_at, eq10, e33]
                unfold obA
                rw [if_pos (by omega), if_neg (by omega), show n + j - n = j by omega]
              · rw [w1_ne (by omega)]
                by_cases q2 : c = j
                · rw [q2, w1_at, eq2]
                  unfold obA
                  rw [if_pos (by omega), if_pos (by omega)]
                · rw [w1_ne (by omega)]
                  exact (hvi c hc).1 (by omega)
            · rw [← hm32, ← hm24]
              by_cases q1 : c = n + j
              · rw [q1, w1_at, eq2, eq10, e33, e34, eq11]
                unfold obA
                rw [if_neg (by omega), if_neg (by omega), show n + j - n = j by omega, show n + i - n = i by omega]
              · rw [w1_ne (by omega)]
                by_cases q2 : c = j
                · rw [q2, w1_at, e34, eq11]
                  unfold obA
                  rw [if_neg (by omega), if_pos (by omega), show n + i - n = i by omega]
                · rw [w1_ne (by omega), ← hm22, w1_a (by omega), ← hm17, w1_a (by omega)]
                  exact (hvi c hc).2 (by omega)
          exact rw_cast (ih19 (by omega) mm31 (some (.int (iI (vF ((m2 (q + 10) i) * (m2 33 j)))))) (some (.int (iI (vF ((m2 34 i) * (m2 (q + 11) j)))))) (some (.int (iI (vF (m2 (q + 2 + i) j))))) hA33) (lcons rfl (lcons rfl (lcons rfl (lcons rfl (lcons rfl (lcons rfl (lcons (lvI (by omega)) (lcons rfl (lcons rfl (lcons rfl rfl)))))))))) rfl
      exact rw_cast (hL19 0 (by omega) m1 x9_7 x9_8 x9_9 (by exact ⟨Fr_rfl, fun c hc => ⟨fun h => absurd h (by omega), fun h => absurd h (by omega)⟩⟩)) (lcons rfl (lcons rfl (lcons rfl (lcons rfl (lcons rfl (lcons rfl (lcons (lvI (by omega)) (lcons rfl (lcons rfl (lcons rfl rfl)))))))))) rfl
  exact rw_cast (hL9 0 (by omega) m none none none none (by exact ⟨Fr_rfl, fun r hr => absurd hr (by omega), fun r hr => absurd hr (Nat.not_lt_zero r), fun r => (hz r).trans (if_neg (Nat.not_lt_zero r)).symm⟩)) (lcons rfl (lcons rfl (lcons rfl (lcons rfl (lcons rfl (lcons (lvI (by omega)) (lcons rfl (lcons rfl (lcons rfl (lcons rfl rfl)))))))))) rfl
