theorem c_X4_putPart {d : Nat} {S : MC} {fz : Bool} {m : M1} {p : M2} (hd : 2 ≤ d) (t f q n : Nat) (x y : F) (hP : PI p) (ht : IsPl t) (hq : IsPl q) (hqt : q + 12 ≤ t ∨ t + 12 ≤ q) (hmq : m q 0 = nF n) (hn : f + n ≤ 8) : Ct d k_X4_putPart S fz [.ref (t), .int (iI (((f : Nat) : Int))), .ref (q), .int (iI (vF (x))), .int (iI (vF (y)))] m p (fun v m' p' => v = none ∧ p = p' ∧ Fr (fun a_ => t + 2 ≤ a_ ∧ a_ < t + 12) m m' ∧ (∀ r, r < 8 → ∀ c, m' (t + 2 + r) c = ptr2 f n (fun z => m (q + 2 + z)) (fun z => m (t + 2 + z)) r c) ∧ (∀ r, m' (t + 10) r = ptr1 f n (fun z => x * m (q + 10) z) (m (t + 10)) r) ∧ ∀ r, m' (t + 11) r = ptr1 f n (fun z => y * m (q + 11) z) (m (t + 11)) r) := by
  obtain ⟨d, rfl⟩ : ∃ e, d = e + 1 := ⟨d - 1, by omega⟩
  refine ct_go (lv := [some (.ref (t)), some (.int (iI (((f : Nat) : Int)))), some (.ref (q)), some (.int (iI (vF (x)))), some (.int (iI (vF (y)))), none, none]) (Nat.le_of_ble_eq_true rfl) (okar_cons rfl (okar_cons rfl (okar_cons rfl (okar_cons rfl (okar_cons rfl okar_nil))))) rfl (fun Qr hQ => ?_)
  have ht' := IsPl_b ht
  have hq' := IsPl_b hq
  refine rw_blk lk_X4_putPart_0 ?_
  refine rw_of (fun rr hrr => q_iconst (q_istore (Nat.le_of_ble_eq_true rfl) rfl hrr)) ?_
  have hL3 : ∀ i, i ≤ n → ∀ (m1 : M1) (x3_6 : Option Value), (Fr (fun a_ => t + 2 ≤ a_ ∧ a_ < t + 12) m m1 ∧ (∀ r, r < 8 → ∀ c, m1 (t + 2 + r) c = if f ≤ r ∧ r < f + i ∧ f ≤ c ∧ c < f + n then m (q + 2 + (r - f)) (c - f) else m (t + 2 + r) c) ∧ (∀ r, m1 (t + 10) r = ptr1 f i (fun z => x * m (q + 10) z) (m (t + 10)) r) ∧ ∀ r, m1 (t + 11) r = ptr1 f i (fun z => y * m (q + 11) z) (m (t + 11)) r) → Rw (Ev d) k_X4_putPart (3, [], [some (.ref (t)), some (.int (iI (((f : Nat) : Int)))), some (.ref (q)), some (.int (iI (vF (x)))), some (.int (iI (vF (y)))), some (.int (iI (((i : Nat) : Int)))), x3_6], [], hpM S fz (m1, p), 0, 0) Qr := by
    refine loop_any (fun i hi3 ih3 => ?_)
    intro m1 x3_6
    intro hI3
    obtain ⟨hF, hv, hb, hc⟩ := hI3
    refine rw_blk lk_X4_putPart_3 ?_
    refine rw_of (fun rr hrr => q_iload rfl (q_aload_n rfl (q_getI (PI_pl hP hq).1 rfl (ki (hF q (by show ¬ (t + 2 ≤ q ∧ q < t + 12); omega)) hmq (by omega)) hrr))) ?_
    refine rw_icmp_ge ⟨by omega, by omega⟩ ⟨by omega, by omega⟩ (t := 101) rfl (fun hc1 => ?_) (fun hc1 => ?_)
    · skip
      refine rw_blk lk_X4_putPart_101 ?_
      refine rw_ret hQ (q_return) ?_
      have e9 : n = i := (by omega)
      subst e9
      exact ⟨rfl, rfl, hF, hv, hb, hc⟩
      
    · skip
      refine rw_of (fun rr hrr => q_iconst (q_istore (Nat.le_of_ble_eq_true rfl) rfl hrr)) ?_
      have hL15 : ∀ j, j ≤ n → ∀ (m2 : M1), (Fr (fun a_ => a_ = t + 2 + (f + i)) m1 m2 ∧ ∀ c, m2 (t + 2 + (f + i)) c = if f ≤ c ∧ c < f + j then m1 (q + 2 + i) (c - f) else m1 (t + 2 + (f + i)) c) → Rw (Ev d) k_X4_putPart (15, [], [some (.ref (t)), some (.int (iI (((f : Nat) : Int)))), some (.ref (q)), some (.int (iI (vF (x)))), some (.int (iI (vF (y)))), some (.int (iI (((i : Nat) : Int)))), some (.int (iI (((j : Nat) : Int))))], [], hpM S fz (m2, p), 0, 0) Qr := by
        refine loop_any (fun j hi15 ih15 => ?_)
        intro m2
        intro hI15
        obtain ⟨hF15, hv15⟩ := hI15
        refine rw_blk lk_X4_putPart_15 ?_
        refine rw_of (fun rr hrr => q_iload rfl (q_aload_n rfl (q_getI (PI_pl hP hq).1 rfl (ki ((hF15 q (by show ¬ (q = t + 2 + (f + i)); omega)).trans (hF q (by show ¬ (t + 2 ≤ q ∧ q < t + 12); omega))) hmq (by omega)) hrr))) ?_
        refine rw_icmp_ge ⟨by omega, by omega⟩ ⟨by omega, by omega⟩ (t := 54) rfl (fun hc2 => ?_) (fun hc2 => ?_)
        · skip
          refine rw_blk lk_X4_putPart_54 ?_
          refine rw_of (fun rr hrr => q_aload_n rfl (q_getR (PI_pl hP ht).1 rfl (PI_pl hP ht).2.2.1 (q_iload_n rfl (q_iload rfl (q_iadd (q_iload_n rfl (q_aload_n rfl (q_getR (PI_pl hP hq).1 rfl (PI_pl hP hq).2.2.1 (q_iload rfl (q_iald (j := i) (PI_pl hP hq).2.2.2.2.1 rfl (by omega) rfl hrr)))))))))) ?_
          obtain ⟨_, mm3, pp4, hV5, rfl, rfl, rfl⟩ := c_X2_times (S := S) (fz := fz) (m := m2) (p := p) (d := d) (by omega) (x) (m2 (q + 10) i)
          refine rw_of (fun rr hrr => q_invS hV5 rfl rfl (okar_cons rfl (okar_cons rfl okar_nil)) (Nat.le_of_ble_eq_true rfl) (q_iast (j := f + i) (xx := x * (m2 (q + 10) i)) (PI_pl hP ht).2.2.2.2.1 (by omega) (by omega) rfl hrr)) ?_
          generalize hm7 : w1 m2 (t + 10) (f + i) (x * (m2 (q + 10) i)) = mm6
          refine rw_of (fun rr hrr => q_aload_n rfl (q_getR (PI_pl hP ht).1 rfl (PI_pl hP ht).2.2.2.1 (q_iload_n rfl (q_iload rfl (q_iadd (q_iload rfl (q_aload_n rfl (q_getR (PI_pl hP hq).1 rfl (PI_pl hP hq).2.2.2.1 (q_iload rfl (q_iald (j := i) (PI_pl hP hq).2.2.2.2.2.1 rfl (by omega) rfl hrr)))))))))) ?_
          obtain ⟨_, mm8, pp9, hV10, rfl, rfl, rfl⟩ := c_X2_times (S := S) (fz := fz) (m := mm6) (p := p) (d := d) (by omega) (y) (mm6 (q + 11) i)
          refine rw_of (fun rr hrr => q_invS hV10 rfl rfl (okar_cons rfl (okar_cons rfl okar_nil)) (Nat.le_of_ble_eq_true rfl) (q_iast (j := f + i) (xx := y * (mm6 (q + 11) i)) (PI_pl hP ht).2.2.2.2.2.1 (by omega) (by omega) rfl hrr)) ?_
          generalize hm12 : w1 mm6 (t + 11) (f + i) (y * (mm6 (q + 11) i)) = mm11
          refine rw_of (fun rr hrr => q_iinc rfl rfl (q_goto (t := 3) rfl hrr)) ?_
          have hA13 : Fr (fun a_ => t + 2 ≤ a_ ∧ a_ < t + 12) m mm11 ∧ (∀ r, r < 8 → ∀ c, mm11 (t + 2 + r) c = if f ≤ r ∧ r < f + (i + 1) ∧ f ≤ c ∧ c < f + n then m (q + 2 + (r - f)) (c - f) else m (t + 2 + r) c) ∧ (∀ r, mm11 (t + 10) r = ptr1 f (i + 1) (fun z => x * m (q + 10) z) (m (t + 10)) r) ∧ ∀ r, mm11 (t + 11) r = ptr1 f (i + 1) (fun z => y * m (q + 11) z) (m (t + 11)) r := by
            refine ⟨fr_w hm12 (fr_w hm7 (Fr_trans hF (Fr_mono hF15 (fun a ha => by omega))) (by omega)) (by omega), fun r hr c => ?_, ?_, ?_⟩
            · rw [← hm12, w1_a (by omega), ← hm7, w1_a (by omega)]
              by_cases q1 : r = f + i
              · rw [q1, hv15 c, hv _ (by omega), if_neg (by omega : ¬ (f ≤ f + i ∧ f + i < f + i ∧ f ≤ c ∧ c < f + n)), hF _ (by omega), show f + i - f = i by omega]
                by_cases q2 : f ≤ c ∧ c < f + n
                · rw [if_pos (by omega), if_pos (by omega)]
                · rw [if_neg (by omega), if_neg (by omega)]
              · rw [hF15 (t + 2 + r) (by omega), hv r hr c]
                by_cases q2 : f ≤ r ∧ r < f + i ∧ f ≤ c ∧ c < f + n
                · rw [if_pos q2, if_pos (by omega)]
                · rw [if_neg q2, if_neg (by omega)]
            · have h2 := filld_w (P' := fun j => f ≤ j ∧ j < f + (i + 1)) (f := fun j => x * m (q + 10) (j - f)) hm7 (fun j => by rw [hF15 _ (by omega)]; exact hb j) (by show _ = x * m (q + 10) (f + i - f); rw [hF15 (q + 10) (by omega), hF (q + 10) (by omega), show f + i - f = i by omega]) (fun j => by omega)
              intro r
              rw [← hm12, w1_a (by omega)]
              exact h2 r
            · have h3 : ∀ j, mm6 (t + 11) j = if f ≤ j ∧ j < f + i then y * m (q + 11) (j - f) else m (t + 11) j := fun j => by rw [← hm7, w1_a (by omega), hF15 _ (by omega)]; exact hc j
              exact filld_w (P' := fun j => f ≤ j ∧ j < f + (i + 1)) (f := fun j => y * m (q + 11) (j - f)) hm12 h3 (by show _ = y * m (q + 11) (f + i - f); rw [← hm7, w1_a (by omega), hF15 (q + 11) (by omega), hF (q + 11) (by omega), show f + i - f = i by omega]) (fun j => by omega)
          exact rw_cast (ih3 (by omega) mm11 (some (.int (iI (((j : Nat) : Int))))) hA13) (lcons rfl (lcons rfl (lcons rfl (lcons rfl (lcons rfl (lcons (lvI (by omega)) (lcons rfl rfl))))))) rfl
        · skip
          refine rw_of (fun rr hrr => q_aload_n rfl (q_getR (PI_pl hP ht).1 rfl (PI_pl hP ht).2.1 (q_iload_n rfl (q_iload rfl (q_iadd (q_aald (t := 0) (j := f + i) (PI_pl hP ht).2.2.2.2.2.2.1 (by omega) (by omega) (by omega) ((PI_pl hP ht).2.2.2.2.2.2.2.1 (f + i) (by omega)) (q_iload_n rfl (q_iload rfl (q_iadd (q_aload_n rfl (q_getR (PI_pl hP hq).1 rfl (PI_pl hP hq).2.1 (q_iload rfl (q_aald (t := 0) (j := i) (PI_pl hP hq).2.2.2.2.2.2.1 (by omega) (by omega) (by omega) ((PI_pl hP hq).2.2.2.2.2.2.2.1 i (by omega)) (q_iload rfl (q_iald (j := j) ((PI_pl hP hq).2.2.2.2.2.2.2.2 i (by omega)) rfl (by omega) rfl (q_iast (j := f + j) (xx := m2 (q + 2 + i) j) ((PI_pl hP ht).2.2.2.2.2.2.2.2 (f + i) (by omega)) (by omega) (by omega) rfl hrr)))))))))))))))) ?_
          generalize hm15 : w1 m2 (t + 2 + (f + i)) (f + j) (m2 (q + 2 + i) j) = mm14
          refine rw_of (fun rr hrr => q_iinc rfl rfl (q_goto (t := 15) rfl hrr)) ?_
          exact rw_cast (ih15 (by omega) mm14 (by exact ⟨fr_w hm15 hF15 rfl, filld_w (P' := fun c => f ≤ c ∧ c < f + (j + 1)) (f := fun c => m1 (q + 2 + i) (c - f)) hm15 hv15 (by show _ = m1 (q + 2 + i) (f + j - f); rw [hF15 (q + 2 + i) (by omega), show f + j - f = j by omega]) (fun c => by omega)⟩)) (lcons rfl (lcons rfl (lcons rfl (lcons rfl (lcons rfl (lcons rfl (lcons (lvI (by omega)) rfl))))))) rfl
      exact rw_cast (hL15 0 (by omega) m1 (by exact ⟨Fr_rfl, fun c => (if_neg (by omega)).symm⟩)) (lcons rfl (lcons rfl (lcons rfl (lcons rfl (lcons rfl (lcons rfl (lcons (lvI (by omega)) rfl))))))) rfl
  exact rw_cast (hL3 0 (by omega) m none (by exact ⟨Fr_rfl, fun r hr c => (if_neg (by omega)).symm, fun r => (if_neg (by omega)).symm, fun r => (if_neg (by omega)).symm⟩)) (lcons rfl (lcons rfl (lcons rfl (lcons rfl (lcons rfl (lcons (lvI (by omega)) (lcons rfl rfl))))))) rfl
