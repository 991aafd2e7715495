theorem c_X10_power {d : Nat} {S : MC} {fz : Bool} {m : M1} {p : M2} (hd : 1 ≤ d) (a : Nat) (ha : SH a = (1, 9)) : Ct d k_X10_power S fz [.ref (a)] m p (fun v m' p' => v = some (.int (iI (((dg (m a) 9 : Nat) : Int) - 1))) ∧ m = m' ∧ p = p') := by
  obtain ⟨d, rfl⟩ : ∃ e, d = e + 1 := ⟨d - 1, by omega⟩
  refine ct_go (lv := [some (.ref (a)), none]) (Nat.le_of_ble_eq_true rfl) (okar_cons rfl okar_nil) rfl (fun Qr hQ => ?_)
  refine rw_blk lk_X10_power_0 ?_
  refine rw_of (fun rr hrr => q_bipush rfl (q_istore_n (Nat.le_of_ble_eq_true rfl) rfl hrr)) ?_
  have hL3 : ∀ t, t ≤ 9 → (dg (m a) (9 - t) = dg (m a) 9) → Rw (Ev d) k_X10_power (3, [], [some (.ref (a)), some (.int (iI (8 - ((t : Nat) : Int))))], [], hpM S fz (m, p), 0, 0) Qr := by
    refine loop_any (fun t hi3 ih3 => ?_)
    intro hz
    refine rw_blk lk_X10_power_3 ?_
    refine rw_of (fun rr hrr => q_iload_n rfl hrr) ?_
    refine rw_if_lt ⟨by omega, by omega⟩ (t := 19) rfl (fun hc1 => ?_) (fun hc1 => ?_)
    · skip
      refine rw_blk lk_X10_power_19 ?_
      refine rw_of (fun rr hrr => q_iload_n rfl hrr) ?_
      refine rw_ret hQ (q_ireturn (Or.inl rfl)) ?_
      refine ⟨lvI ?_, rfl, rfl⟩
      first
        | rw [← hz, show 9 - t = 8 - t + 1 by omega, dg_n (fun z => absurd (vF_eq0.mpr z) (by assumption))]; omega
        | rw [← hz, show 9 - t = 0 by omega]; show _ = ((0 : Nat) : Int) - 1; omega
      
    · skip
      refine rw_of (fun rr hrr => q_aload_n rfl (q_iload_n rfl (q_iald (j := 8 - t) ha (by omega) (by omega) rfl hrr))) ?_
      refine rw_if_ne (rg_vF _) (t := 19) rfl (fun hc2 => ?_) (fun hc2 => ?_)
      · skip
        refine rw_blk lk_X10_power_19 ?_
        refine rw_of (fun rr hrr => q_iload_n rfl hrr) ?_
        refine rw_ret hQ (q_ireturn (Or.inl rfl)) ?_
        refine ⟨lvI ?_, rfl, rfl⟩
        first
          | rw [← hz, show 9 - t = 8 - t + 1 by omega, dg_n (fun z => absurd (vF_eq0.mpr z) (by assumption))]; omega
          | rw [← hz, show 9 - t = 0 by omega]; show _ = ((0 : Nat) : Int) - 1; omega
        
      · skip
        refine rw_of (fun rr hrr => q_iinc rfl rfl (q_goto (t := 3) rfl hrr)) ?_
        have hA3 : dg (m a) (9 - (t + 1)) = dg (m a) 9 := by
          have h0 := vF_eq0.mp (by assumption)
          rw [← hz, show 9 - t = 8 - t + 1 by omega, dg_z h0, show 9 - (t + 1) = 8 - t by omega]
        exact rw_cast (ih3 (by omega) hA3) (lcons rfl (lcons (lvI (by omega)) rfl)) rfl
  exact rw_cast (hL3 0 (by omega) (by rfl)) (lcons rfl (lcons (lvI (by omega)) rfl)) rfl
theorem c_X10_divides {d : Nat} {S : MC} {fz : Bool} {m : M1} {p : M2} (hd : 3 ≤ d) (a b l : Nat) (ha : SH a = (1, 9)) (hb : SH b = (1, 9)) (hab : a ≠ b) (hl : dg (m b) 9 = l + 1) : Ct d k_X10_divides S fz [.ref (a), .ref (b)] m p (fun v m' p' => v = none ∧ p = p' ∧ Fr (fun a_ => a_ = a) m m' ∧ ∀ k, m' a k = mdv (dg (m a) 9 - 1) l (m b) (m a) (dg (m a) 9 - l) k) := by
  obtain ⟨d, rfl⟩ : ∃ e, d = e + 1 := ⟨d - 1, by omega⟩
  refine ct_go (lv := [some (.ref (a)), some (.ref (b)), none, none, none, none, none]) (Nat.le_of_ble_eq_true rfl) (okar_cons rfl (okar_cons rfl okar_nil)) rfl (fun Qr hQ => ?_)
  have hl9 := dg_le (f := m b) 9
  have ha9 := dg_le (f := m a) 9
  refine rw_blk lk_X10_divides_0 ?_
  refine rw_of (fun rr hrr => q_aload_n rfl hrr) ?_
  obtain ⟨_, mm1, pp2, hV3, rfl, rfl, rfl⟩ := c_X10_power (S := S) (fz := fz) (m := m) (p := p) (d := d) (by omega) (b) (hb)
  refine rw_of (fun rr hrr => q_invS hV3 rfl rfl (okar_cons rfl okar_nil) (Nat.le_of_ble_eq_true rfl) (q_istore_n (Nat.le_of_ble_eq_true rfl) rfl (q_aload_n rfl (q_iload_n rfl (q_iald (j := l) hb (by omega) (by omega) rfl hrr))))) ?_
  obtain ⟨_, mm4, pp5, hV6, rfl, rfl, rfl⟩ := c_X10_inverse (S := S) (fz := fz) (m := m) (p := p) (d := d) (by omega) (m b l)
  refine rw_of (fun rr hrr => q_invS hV6 rfl rfl (okar_cons rfl okar_nil) (Nat.le_of_ble_eq_true rfl) (q_istore_n (Nat.le_of_ble_eq_true rfl) rfl (q_aload_n rfl hrr))) ?_
  obtain ⟨_, mm7, pp8, hV9, rfl, rfl, rfl⟩ := c_X10_power (S := S) (fz := fz) (m := m) (p := p) (d := d) (by omega) (a) (ha)
  refine rw_of (fun rr hrr => q_invS hV9 rfl rfl (okar_cons rfl okar_nil) (Nat.le_of_ble_eq_true rfl) (q_istore (Nat.le_of_ble_eq_true rfl) rfl hrr)) ?_
  have hL18 : ∀ t, t ≤ dg (m a) 9 - l → ∀ (m1 : M1) (x18_5 : Option Value) (x18_6 : Option Value), (Fr (fun a_ => a_ = a) m m1 ∧ ∀ k, m1 a k = mdv (dg (m a) 9 - 1) l (m b) (m a) t k) → Rw (Ev d) k_X10_divides (18, [], [some (.ref (a)), some (.ref (b)), some (.int (iI (((dg (m b) 9 : Nat) : Int) - 1))), some (.int (iI (vF (iv (m b l))))), some (.int (iI (((dg (m a) 9 : Nat) : Int) - 1 - ((t : Nat) : Int)))), x18_5, x18_6], [], hpM S fz (m1, p), 0, 0) Qr := by
    refine loop_any (fun t hi18 ih18 => ?_)
    intro m1 x18_5 x18_6
    intro hI18
    obtain ⟨hF, hv1⟩ := hI18
    refine rw_blk lk_X10_divides_18 ?_
    refine rw_of (fun rr hrr => q_iload rfl (q_iload_n rfl hrr)) ?_
    refine rw_icmp_lt ⟨by omega, by omega⟩ ⟨by omega, by omega⟩ (t := 86) rfl (fun hc10 => ?_) (fun hc10 => ?_)
    · skip
      refine rw_blk lk_X10_divides_86 ?_
      refine rw_ret hQ (q_return) ?_
      have e9 : dg (m a) 9 - l = t := (by omega)
      rw [← e9] at hv1
      exact ⟨rfl, rfl, hF, hv1⟩
      
    · skip
      refine rw_of (fun rr hrr => q_aload_n rfl (q_iload rfl (q_iald (j := dg (m a) 9 - 1 - t) ha (by omega) (by omega) rfl (q_iload_n rfl hrr)))) ?_
      obtain ⟨_, mm11, pp12, hV13, rfl, rfl, rfl⟩ := c_X10_times (S := S) (fz := fz) (m := m1) (p := p) (d := d) (by omega) (m1 a (dg (m a) 9 - 1 - t)) (iv (m b l))
      refine rw_of (fun rr hrr => q_invS hV13 rfl rfl (okar_cons rfl (okar_cons rfl okar_nil)) (Nat.le_of_ble_eq_true rfl) (q_istore (Nat.le_of_ble_eq_true rfl) rfl (q_iconst (q_istore (Nat.le_of_ble_eq_true rfl) rfl hrr)))) ?_
      have hL37 : ∀ i, i ≤ l + 1 → ∀ (m2 : M1), (Fr (fun a_ => a_ = a) m1 m2 ∧ ∀ k, m2 a k = if dg (m a) 9 - 1 - l - t ≤ k ∧ k < dg (m a) 9 - 1 - l - t + i then m1 a k - m1 a (dg (m a) 9 - 1 - t) * iv (m b l) * m1 b (k - (dg (m a) 9 - 1 - l - t)) else m1 a k) → Rw (Ev d) k_X10_divides (37, [], [some (.ref (a)), some (.ref (b)), some (.int (iI (((dg (m b) 9 : Nat) : Int) - 1))), some (.int (iI (vF (iv (m b l))))), some (.int (iI (((dg (m a) 9 : Nat) : Int) - 1 - ((t : Nat) : Int)))), some (.int (iI (vF ((m1 a (dg (m a) 9 - 1 - t)) * (iv (m b l)))))), some (.int (iI (((i : Nat) : Int))))], [], hpM S fz (m2, p), 0, 0) Qr := by
        refine loop_any (fun i hi37 ih37 => ?_)
        intro m2
        intro hI37
        obtain ⟨hF37, hv37⟩ := hI37
        refine rw_blk lk_X10_divides_37 ?_
        refine rw_of (fun rr hrr => q_iload rfl (q_iload_n rfl hrr)) ?_
        refine rw_icmp_gt ⟨by omega, by omega⟩ ⟨by omega, by omega⟩ (t := 80) rfl (fun hc14 => ?_) (fun hc14 => ?_)
        · skip
          refine rw_blk lk_X10_divides_80 ?_
          refine rw_of (fun rr hrr => q_iinc rfl rfl (q_goto (t := 18) rfl hrr)) ?_
          have hA15 : Fr (fun a_ => a_ = a) m m2 ∧ ∀ k, m2 a k = mdv (dg (m a) 9 - 1) l (m b) (m a) (t + 1) k := by
            refine ⟨Fr_trans hF hF37, fun k => ?_⟩
            rw [hv37 k]
            show _ = trs l (m b) (mdv (dg (m a) 9 - 1) l (m b) (m a) t) (dg (m a) 9 - 1 - l - t) k
            unfold trs
            by_cases q : dg (m a) 9 - 1 - l - t ≤ k ∧ k < dg (m a) 9 - 1 - l - t + (l + 1)
            · rw [if_pos q, if_pos (by omega), hv1 k, hv1 (dg (m a) 9 - 1 - t), hF b (by omega), show l + (dg (m a) 9 - 1 - l - t) = dg (m a) 9 - 1 - t by omega]
              grind
            · rw [if_neg q, if_neg (by omega), hv1 k]
          exact rw_cast (ih18 (by omega) m2 (some (.int (iI (vF ((m1 a (dg (m a) 9 - 1 - t)) * (iv (m b l))))))) (some (.int (iI (((i : Nat) : Int))))) hA15) (lcons rfl (lcons rfl (lcons rfl (lcons rfl (lcons (lvI (by omega)) (lcons rfl (lcons rfl rfl))))))) rfl
        · skip
          refine rw_of (fun rr hrr => q_aload_n rfl (q_iload rfl (q_iload_n rfl (q_isub (q_iload rfl (q_iadd (q_aload_n rfl (q_iload rfl (q_iload_n rfl (q_isub (q_iload rfl (q_iadd (q_iald (j := (dg (m a) 9 - 1 - t) - (dg (m b) 9 - 1) + i) ha (by omega) (by omega) rfl (q_iload rfl (q_aload_n rfl (q_iload rfl (q_iald (j := i) hb rfl (by omega) rfl hrr))))))))))))))))) ?_
          obtain ⟨_, mm16, pp17, hV18, rfl, rfl, rfl⟩ := c_X10_times (S := S) (fz := fz) (m := m2) (p := p) (d := d) (by omega) ((m1 a (dg (m a) 9 - 1 - t)) * (iv (m b l))) (m2 b i)
          refine rw_of (fun rr hrr => q_invS hV18 rfl rfl (okar_cons rfl (okar_cons rfl okar_nil)) (Nat.le_of_ble_eq_true rfl) (q_isub hrr)) ?_
          obtain ⟨_, mm19, pp20, hV21, rfl, rfl, rfl⟩ := c_X10_rest (S := S) (fz := fz) (m := m2) (p := p) (d := d) (by omega) ((vF (m2 a ((dg (m a) 9 - 1 - t) - (dg (m b) 9 - 1) + i)) - vF (((m1 a (dg (m a) 9 - 1 - t)) * (iv (m b l))) * (m2 b i)))) (by have := vF_ge (m2 a ((dg (m a) 9 - 1 - t) - (dg (m b) 9 - 1) + i)); have := vF_lt (m2 a ((dg (m a) 9 - 1 - t) - (dg (m b) 9 - 1) + i)); have := vF_ge (((m1 a (dg (m a) 9 - 1 - t)) * (iv (m b l))) * (m2 b i)); have := vF_lt (((m1 a (dg (m a) 9 - 1 - t)) * (iv (m b l))) * (m2 b i)); omega)
          refine rw_of (fun rr hrr => q_invS hV21 rfl rfl (okar_cons rfl okar_nil) (Nat.le_of_ble_eq_true rfl) (q_iast (j := (dg (m a) 9 - 1 - t) - (dg (m b) 9 - 1) + i) (xx := toF ((vF (m2 a ((dg (m a) 9 - 1 - t) - (dg (m b) 9 - 1) + i)) - vF (((m1 a (dg (m a) 9 - 1 - t)) * (iv (m b l))) * (m2 b i))))) ha (by omega) (by omega) rfl hrr)) ?_
          generalize hm23 : w1 m2 a ((dg (m a) 9 - 1 - t) - (dg (m b) 9 - 1) + i) (toF ((vF (m2 a ((dg (m a) 9 - 1 - t) - (dg (m b) 9 - 1) + i)) - vF (((m1 a (dg (m a) 9 - 1 - t)) * (iv (m b l))) * (m2 b i))))) = mm22
          refine rw_of (fun rr hrr => q_iinc rfl rfl (q_goto (t := 37) rfl hrr)) ?_
          have hA24 : Fr (fun a_ => a_ = a) m1 mm22 ∧ ∀ k, mm22 a k = if dg (m a) 9 - 1 - l - t ≤ k ∧ k < dg (m a) 9 - 1 - l - t + (i + 1) then m1 a k - m1 a (dg (m a) 9 - 1 - t) * iv (m b l) * m1 b (k - (dg (m a) 9 - 1 - l - t)) else m1 a k := by
            refine ⟨fr_w hm23 hF37 rfl, filld_w (P := fun k => dg (m a) 9 - 1 - l - t ≤ k ∧ k < dg (m a) 9 - 1 - l - t + i) (P' := fun k => dg (m a) 9 - 1 - l - t ≤ k ∧ k < dg (m a) 9 - 1 - l - t + (i + 1)) (f := fun k => m1 a k - m1 a (dg (m a) 9 - 1 - t) * iv (m b l) * m1 b (k - (dg (m a) 9 - 1 - l - t))) hm23 hv37 ?_ (fun j => by omega)⟩
            rw [toF_sub, toF_vF, toF_vF, hv37, if_neg (by omega), hF37 b (by omega), show dg (m a) 9 - 1 - t - (dg (m b) 9 - 1) + i - (dg (m a) 9 - 1 - l - t) = i by omega]
          exact rw_cast (ih37 (by omega) mm22 hA24) (lcons rfl (lcons rfl (lcons rfl (lcons rfl (lcons rfl (lcons rfl (lcons (lvI (by omega)) rfl))))))) rfl
      exact rw_cast (hL37 0 (by omega) m1 (by exact ⟨Fr_rfl, fun k => (if_neg (by omega)).symm⟩)) (lcons rfl (lcons rfl (lcons rfl (lcons rfl (lcons rfl (lcons rfl (lcons (lvI (by omega)) rfl))))))) rfl
  exact rw_cast (hL18 0 (by omega) m none none (by exact ⟨Fr_rfl, fun _ => rfl⟩)) (lcons rfl (lcons rfl (lcons rfl (lcons rfl (lcons (lvI (by omega)) (lcons rfl (lcons rfl rfl))))))) rfl
