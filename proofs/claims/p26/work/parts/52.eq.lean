theorem c_X1_put {d : Nat} {S : Env} {fz : Bool} {m : M1} {p : M2} (hd : 2 ≤ d) (e n k a : Nat) (x : F) (R : Nat → Nat) {wa : Nat} (hE : EQ p e R) (hn : n ≤ 8) (hk : k < 8) (ha : SH a = (1, wa)) (hna : n ≤ wa) (hak : a ≠ R k) : Ct d k_X1_put S fz [.ref (e), .int (iI (((n : Nat) : Int))), .int (iI (((k : Nat) : Int))), .ref (a), .int (iI (vF (x)))] m p (fun v m' p' => v = none ∧ p = p' ∧ Fr (fun a_ => a_ = R k) m m' ∧ m' (R k) n = x ∧ ∀ i, i < n → m' (R k) i = m a i) := by
  obtain ⟨d, rfl⟩ : ∃ e, d = e + 1 := ⟨d - 1, by omega⟩
  refine ct_go (lv := [some (.ref (e)), some (.int (iI (((n : Nat) : Int)))), some (.int (iI (((k : Nat) : Int)))), some (.ref (a)), some (.int (iI (vF (x))))]) (Nat.le_of_ble_eq_true rfl) (okar_cons rfl (okar_cons rfl (okar_cons rfl (okar_cons rfl (okar_cons rfl okar_nil))))) rfl (fun Qr hQ => ?_)
  refine rw_blk lk_X1_put_0 ?_
  refine rw_of (fun rr hrr => q_iload_n rfl (q_aload_n rfl (q_aload_n rfl (q_getR hE.1 rfl hE.2.1 (q_iload_n rfl (q_aald (t := 0) (j := k) hE.2.2.1.1 (by omega) (by omega) (by omega) (hE.2.2.1.2.1 k (by omega)) hrr)))))) ?_
  obtain ⟨_, mm1, pp2, hV3, rfl, rfl, hF3, hv3⟩ := c_X6_copy (S := S) (fz := fz) (m := m) (p := p) (d := d) (by omega) (n) (a) (R k) (by omega) (ha) ((hE.2.2.1.2.2 k (by omega))) (by omega) (by omega) (by omega)
  refine rw_of (fun rr hrr => q_invS hV3 rfl rfl (okar_cons rfl (okar_cons rfl (okar_cons rfl okar_nil))) (Nat.le_of_ble_eq_true rfl) (q_aload_n rfl (q_getR hE.1 rfl hE.2.1 (q_iload_n rfl (q_aald (t := 0) (j := k) hE.2.2.1.1 (by omega) (by omega) (by omega) (hE.2.2.1.2.1 k (by omega)) (q_iload_n rfl (q_iload rfl (q_iast (j := n) (xx := x) (hE.2.2.1.2.2 k (by omega)) rfl (by omega) rfl hrr)))))))) ?_
  generalize hm5 : w1 mm1 (R k) n x = mm4
  refine rw_ret hQ (q_return) ?_
  exact ⟨rfl, rfl, fr_w hm5 hF3 rfl, by rw [← hm5, w1_at], fun i hi => by rw [← hm5, w1_ne (by omega), hv3, if_pos hi]⟩
theorem c_X1_firstWith {d : Nat} {S : Env} {fz : Bool} {m : M1} {p : M2} (hd : 1 ≤ d) (e n f c : Nat) (R : Nat → Nat) (hE : EQ p e R) (hn : n ≤ 8) (hf : f ≤ n) (hc : c ≤ n) : Ct d k_X1_firstWith S fz [.ref (e), .int (iI (((n : Nat) : Int))), .int (iI (((f : Nat) : Int))), .int (iI (((c : Nat) : Int)))] m p (fun v m' p' => ∃ k, v = some (.int (iI ((k : Nat) : Int))) ∧ m = m' ∧ p = p' ∧ f ≤ k ∧ k ≤ n ∧ (k < n → m (R k) c ≠ 0) ∧ ∀ i, f ≤ i → i < k → m (R i) c = 0) := by
  obtain ⟨d, rfl⟩ : ∃ e, d = e + 1 := ⟨d - 1, by omega⟩
  refine ct_go (lv := [some (.ref (e)), some (.int (iI (((n : Nat) : Int)))), some (.int (iI (((f : Nat) : Int)))), some (.int (iI (((c : Nat) : Int)))), none]) (Nat.le_of_ble_eq_true rfl) (okar_cons rfl (okar_cons rfl (okar_cons rfl (okar_cons rfl okar_nil)))) rfl (fun Qr hQ => ?_)
  refine rw_blk lk_X1_firstWith_0 ?_
  refine rw_of (fun rr hrr => q_iload_n rfl (q_istore (Nat.le_of_ble_eq_true rfl) rfl hrr)) ?_
  have hL3 : ∀ t, t ≤ n - f → (∀ i, f ≤ i → i < f + t → m (R i) c = 0) → Rw (Ev d) k_X1_firstWith (3, [], [some (.ref (e)), some (.int (iI (((n : Nat) : Int)))), some (.int (iI (((f : Nat) : Int)))), some (.int (iI (((c : Nat) : Int)))), some (.int (iI (((f + t : Nat) : Int))))], [], hpM S fz (m, p), 0, 0) Qr := by
    refine loop_any (fun t hi3 ih3 => ?_)
    intro hz
    refine rw_blk lk_X1_firstWith_3 ?_
    refine rw_of (fun rr hrr => q_iload rfl (q_iload_n rfl hrr)) ?_
    refine rw_icmp_ge ⟨by omega, by omega⟩ ⟨by omega, by omega⟩ (t := 27) rfl (fun hc1 => ?_) (fun hc1 => ?_)
    · skip
      refine rw_blk lk_X1_firstWith_27 ?_
      refine rw_of (fun rr hrr => q_iload rfl hrr) ?_
      refine rw_ret hQ (q_ireturn (Or.inl rfl)) ?_
      refine ⟨f + t, rfl, rfl, rfl, by omega, by omega, fun hlt => ?_, hz⟩
      first
        | omega
        | exact fun z => absurd (vF_eq0.mpr z) (by assumption)
    · skip
      refine rw_of (fun rr hrr => q_aload_n rfl (q_getR hE.1 rfl hE.2.1 (q_iload rfl (q_aald (t := 0) (j := f + t) hE.2.2.1.1 (by omega) (by omega) (by omega) (hE.2.2.1.2.1 (f + t) (by omega)) (q_iload_n rfl (q_iald (j := c) (hE.2.2.1.2.2 (f + t) (by omega)) rfl (by omega) rfl hrr)))))) ?_
      refine rw_if_ne (rg_vF _) (t := 27) rfl (fun hc2 => ?_) (fun hc2 => ?_)
      · skip
        refine rw_blk lk_X1_firstWith_27 ?_
        refine rw_of (fun rr hrr => q_iload rfl hrr) ?_
        refine rw_ret hQ (q_ireturn (Or.inl rfl)) ?_
        refine ⟨f + t, rfl, rfl, rfl, by omega, by omega, fun hlt => ?_, hz⟩
        first
          | omega
          | exact fun z => absurd (vF_eq0.mpr z) (by assumption)
      · skip
        refine rw_of (fun rr hrr => q_iinc rfl rfl (q_goto (t := 3) rfl hrr)) ?_
        have hA3 : ∀ i, f ≤ i → i < f + (t + 1) → m (R i) c = 0 := by
          intro i h1 h2
          by_cases q : i = f + t
          · rw [q]
            exact vF_eq0.mp (by assumption)
          · exact hz i h1 (by omega)
        exact rw_cast (ih3 (by omega) hA3) (lcons rfl (lcons rfl (lcons rfl (lcons rfl (lcons (lvI (by omega)) rfl))))) rfl
  exact rw_cast (hL3 0 (by omega) (by intro i h1 h2; omega)) (lcons rfl (lcons rfl (lcons rfl (lcons rfl (lcons (lvI (by omega)) rfl))))) rfl
theorem c_X1_swap {d : Nat} {S : Env} {fz : Bool} {m : M1} {p : M2} (hd : 1 ≤ d) (e a b : Nat) (R : Nat → Nat) (hE : EQ p e R) (ha : a < 8) (hb : b < 8) : Ct d k_X1_swap S fz [.ref (e), .int (iI (((a : Nat) : Int))), .int (iI (((b : Nat) : Int)))] m p (fun v m' p' => v = none ∧ m = m' ∧ EQ p' e (swR R a b) ∧ Pk (e + 1) p p') := by
  obtain ⟨d, rfl⟩ : ∃ e, d = e + 1 := ⟨d - 1, by omega⟩
  refine ct_go (lv := [some (.ref (e)), some (.int (iI (((a : Nat) : Int)))), some (.int (iI (((b : Nat) : Int)))), none]) (Nat.le_of_ble_eq_true rfl) (okar_cons rfl (okar_cons rfl (okar_cons rfl okar_nil))) rfl (fun Qr hQ => ?_)
  refine rw_blk lk_X1_swap_0 ?_
  refine rw_of (fun rr hrr => q_aload_n rfl (q_getR hE.1 rfl hE.2.1 (q_iload_n rfl (q_aald (t := 0) (j := a) hE.2.2.1.1 (by omega) (by omega) (by omega) (hE.2.2.1.2.1 a (by omega)) (q_astore_n (Nat.le_of_ble_eq_true rfl) rfl (q_aload_n rfl (q_getR hE.1 rfl hE.2.1 (q_iload_n rfl (q_aload_n rfl (q_getR hE.1 rfl hE.2.1 (q_iload_n rfl (q_aald (t := 0) (j := b) hE.2.2.1.1 (by omega) (by omega) (by omega) (hE.2.2.1.2.1 b (by omega)) (q_aast (j := a) hE.2.2.1.1 (by omega) (by omega) (hE.2.2.1.2.2 b (by omega)) hrr))))))))))))) ?_
  generalize hp2 : w2 p (e + 1) a (some (R b)) = pp1
  refine rw_of (fun rr hrr => q_aload_n rfl (q_getR hE.1 rfl (by rw [← hp2, w2_ne (by omega)]; exact hE.2.1) (q_iload_n rfl (q_aload_n rfl (q_aast (j := b) hE.2.2.1.1 (by omega) (by omega) (hE.2.2.1.2.2 a (by omega)) hrr))))) ?_
  generalize hp4 : w2 pp1 (e + 1) b (some (R a)) = pp3
  refine rw_ret hQ (q_return) ?_
  exact ⟨rfl, rfl, EQ_sw hE ha hb hp2 hp4⟩
theorem c_X1_divide {d : Nat} {S : Env} {fz : Bool} {m : M1} {p : M2} (hd : 2 ≤ d) (e n k : Nat) (x : F) (R : Nat → Nat) (hE : EQ p e R) (hn : n ≤ 8) (hk : k < 8) : Ct d k_X1_divide S fz [.ref (e), .int (iI (((n : Nat) : Int))), .int (iI (((k : Nat) : Int))), .int (iI (vF (x)))] m p (fun v m' p' => v = none ∧ p = p' ∧ Fr (fun a_ => a_ = R k) m m' ∧ ∀ j, m' (R k) j = if j < n + 1 then iv x * m (R k) j else m (R k) j) := by
  obtain ⟨d, rfl⟩ : ∃ e, d = e + 1 := ⟨d - 1, by omega⟩
  refine ct_go (lv := [some (.ref (e)), some (.int (iI (((n : Nat) : Int)))), some (.int (iI (((k : Nat) : Int)))), some (.int (iI (vF (x)))), none, none]) (Nat.le_of_ble_eq_true rfl) (okar_cons rfl (okar_cons rfl (okar_cons rfl (okar_cons rfl okar_nil)))) rfl (fun Qr hQ => ?_)
  refine rw_blk lk_X1_divide_0 ?_
  refine rw_of (fun rr hrr => q_iconst (q_iload_n rfl hrr)) ?_
  obtain ⟨_, mm1, pp2, hV3, rfl, rfl, rfl⟩ := c_X2_quotient (S := S) (fz := fz) (m := m) (p := p) (d := d) (by omega) ((1 : F)) (x)
  refine rw_of (fun rr hrr => q_invS hV3 rfl rfl (okar_cons rfl (okar_cons rfl okar_nil)) (Nat.le_of_ble_eq_true rfl) (q_istore (Nat.le_of_ble_eq_true rfl) rfl (q_iconst (q_istore (Nat.le_of_ble_eq_true rfl) rfl hrr)))) ?_
  have hL10 : ∀ i, i ≤ n + 1 → ∀ (m1 : M1), (Fr (fun a_ => a_ = R k) m m1 ∧ ∀ j, m1 (R k) j = if j < i then iv x * m (R k) j else m (R k) j) → Rw (Ev d) k_X1_divide (10, [], [some (.ref (e)), some (.int (iI (((n : Nat) : Int)))), some (.int (iI (((k : Nat) : Int)))), some (.int (iI (vF (x)))), some (.int (iI (vF (((1 : F)) * iv x)))), some (.int (iI (((i : Nat) : Int))))], [], hpM S fz (m1, p), 0, 0) Qr := by
    refine loop_any (fun i hi10 ih10 => ?_)
    intro m1
    intro hI10
    obtain ⟨hF, hv⟩ := hI10
    refine rw_blk lk_X1_divide_10 ?_
    refine rw_of (fun rr hrr => q_iload rfl (q_iload_n rfl hrr)) ?_
    refine rw_icmp_gt ⟨by omega, by omega⟩ ⟨by omega, by omega⟩ (t := 45) rfl (fun hc4 => ?_) (fun hc4 => ?_)
    · skip
      refine rw_blk lk_X1_divide_45 ?_
      refine rw_ret hQ (q_return) ?_
      have e : i = n + 1 := (by omega)
      subst e
      exact ⟨rfl, rfl, hF, hv⟩
    · skip
      refine rw_of (fun rr hrr => q_aload_n rfl (q_getR hE.1 rfl hE.2.1 (q_iload_n rfl (q_aald (t := 0) (j := k) hE.2.2.1.1 (by omega) (by omega) (by omega) (hE.2.2.1.2.1 k (by omega)) (q_iload rfl (q_iload rfl (q_aload_n rfl (q_getR hE.1 rfl hE.2.1 (q_iload_n rfl (q_aald (t := 0) (j := k) hE.2.2.1.1 (by omega) (by omega) (by omega) (hE.2.2.1.2.1 k (by omega)) (q_iload rfl (q_iald (j := i) (hE.2.2.1.2.2 k (by omega)) rfl (by omega) rfl hrr)))))))))))) ?_
      obtain ⟨_, mm5, pp6, hV7, rfl, rfl, rfl⟩ := c_X2_times (S := S) (fz := fz) (m := m1) (p := p) (d := d) (by omega) (((1 : F)) * iv x) (m1 (R k) i)
      refine rw_of (fun rr hrr => q_invS hV7 rfl rfl (okar_cons rfl (okar_cons rfl okar_nil)) (Nat.le_of_ble_eq_true rfl) (q_iast (j := i) (xx := (((1 : F)) * iv x) * (m1 (R k) i)) (hE.2.2.1.2.2 k (by omega)) rfl (by omega) rfl hrr)) ?_
      generalize hm9 : w1 m1 (R k) i ((((1 : F)) * iv x) * (m1 (R k) i)) = mm8
      refine rw_of (fun rr hrr => q_iinc rfl rfl (q_goto (t := 10) rfl hrr)) ?_
      exact rw_cast (ih10 (by omega) mm8 (by exact ⟨fr_w hm9 hF rfl, fill_w hm9 hv (by rw [hv i, if_neg (by omega)]; grind)⟩)) (lcons rfl (lcons rfl (lcons rfl (lcons rfl (lcons rfl (lcons (lvI (by omega)) rfl)))))) rfl
  exact rw_cast (hL10 0 (by omega) m (by exact ⟨Fr_rfl, fun j => (if_neg (Nat.not_lt_zero j)).symm⟩)) (lcons rfl (lcons rfl (lcons rfl (lcons rfl (lcons rfl (lcons (lvI (by omega)) rfl)))))) rfl
theorem c_X1_takeAway {d : Nat} {S : Env} {fz : Bool} {m : M1} {p : M2} (hd : 2 ≤ d) (e n r c : Nat) (R : Nat → Nat) (hE : EQ p e R) (hn : n ≤ 8) (hr : r < 8) (hc : c ≤ n) : Ct d k_X1_takeAway S fz [.ref (e), .int (iI (((n : Nat) : Int))), .int (iI (((r : Nat) : Int))), .int (iI (((c : Nat) : Int)))] m p (fun v m' p' => v = none ∧ p = p' ∧ Fr (fun a_ => e + 2 ≤ a_ ∧ a_ < e + 10) m m' ∧ ∀ k, k < n → ∀ j, j ≤ n → m' (R k) j = if k = r then m (R k) j else m (R k) j - m (R k) c * m (R r) j) := by
  obtain ⟨d, rfl⟩ : ∃ e, d = e + 1 := ⟨d - 1, by omega⟩
  refine ct_go (lv := [some (.ref (e)), some (.int (iI (((n : Nat) : Int)))), some (.int (iI (((r : Nat) : Int)))), some (.int (iI (((c : Nat) : Int)))), none, none, none]) (Nat.le_of_ble_eq_true rfl) (okar_cons rfl (okar_cons rfl (okar_cons rfl (okar_cons rfl okar_nil)))) rfl (fun Qr hQ => ?_)
  refine rw_blk lk_X1_takeAway_0 ?_
  refine rw_of (fun rr hrr => q_iconst (q_istore (Nat.le_of_ble_eq_true rfl) rfl hrr)) ?_
  have hL3 : ∀ i, i ≤ n → ∀ (m1 : M1) (x3_5 : Option Value) (x3_6 : Option Value), (Fr (fun a_ => e + 2 ≤ a_ ∧ a_ < e + 10) m m1 ∧ (∀ k, k < i → ∀ j, j ≤ n → m1 (R k) j = if k = r then m (R k) j else m (R k) j - m (R k) c * m (R r) j) ∧ (∀ k, i ≤ k → k < 8 → m1 (R k) = m (R k))) → Rw (Ev d) k_X1_takeAway (3, [], [some (.ref (e)), some (.int (iI (((n : Nat) : Int)))), some (.int (iI (((r : Nat) : Int)))), some (.int (iI (((c : Nat) : Int)))), some (.int (iI (((i : Nat) : Int)))), x3_5, x3_6], [], hpM S fz (m1, p), 0, 0) Qr := by
    refine loop_any (fun i hi3 ih3 => ?_)
    intro m1 x3_5 x3_6
    intro hI3
    obtain ⟨hF, h1, h2⟩ := hI3
    have hr' : ∀ j, j ≤ n → i ≤ n → m1 (R r) j = m (R r) j := fun j hj hin => by
      by_cases q : r < i
      · rw [h1 r q j hj, if_pos rfl]
      · rw [h2 r (by omega) hr]
    refine rw_blk lk_X1_takeAway_3 ?_
    refine rw_of (fun rr hrr => q_iload rfl (q_iload_n rfl hrr)) ?_
    refine rw_icmp_ge ⟨by omega, by omega⟩ ⟨by omega, by omega⟩ (t := 89) rfl (fun hc1 => ?_) (fun hc1 => ?_)
    · skip
      refine rw_blk lk_X1_takeAway_89 ?_
      refine rw_ret hQ (q_return) ?_
      have e9 : i = n := (by omega)
      subst e9
      exact ⟨rfl, rfl, hF, h1⟩
    · skip
      refine rw_of (fun rr hrr => q_aload_n rfl (q_getR hE.1 rfl hE.2.1 (q_iload rfl (q_aald (t := 0) (j := i) hE.2.2.1.1 (by omega) (by omega) (by omega) (hE.2.2.1.2.1 i (by omega)) (q_iload_n rfl (q_iald (j := c) (hE.2.2.1.2.2 i (by omega)) rfl (by omega) rfl (q_istore (Nat.le_of_ble_eq_true rfl) rfl (q_iload rfl (q_iload_n rfl hrr))))))))) ?_
      refine rw_icmp_eq ⟨by omega, by omega⟩ ⟨by omega, by omega⟩ (t := 83) rfl (fun hc2 => ?_) (fun hc2 => ?_)
      · skip
        refine rw_blk lk_X1_takeAway_83 ?_
        refine rw_of (fun rr hrr => q_iinc rfl rfl (q_goto (t := 3) rfl hrr)) ?_
        have hA3 : Fr (fun a_ => e + 2 ≤ a_ ∧ a_ < e + 10) m m1 ∧ (∀ k, k < (i + 1) → ∀ j, j ≤ n → m1 (R k) j = if k = r then m (R k) j else m (R k) j - m (R k) c * m (R r) j) ∧ (∀ k, (i + 1) ≤ k → k < 8 → m1 (R k) = m (R k)) := by
          first
            | refine ta_step hF h1 h2 Fr_rfl (fun j hj => ?_) hE.2.2.2.2 (by omega) hE.2.2.2.1
              rw [if_pos (by omega), h2 i (by omega) (by omega)]
            | refine ta_step hF h1 h2 Fr_rfl (fun j hj => ?_) hE.2.2.2.2 (by omega) hE.2.2.2.1
              have hz := vF_eq0.mp (by assumption)
              rw [h2 i (by omega) (by omega)] at hz
              rw [if_neg (by omega), h2 i (by omega) (by omega), hz]
              grind
            | refine ta_step hF h1 h2 hF34 (fun j hj => ?_) hE.2.2.2.2 (by omega) hE.2.2.2.1
              rw [hv34 j, if_pos (by omega), if_neg (by omega), h2 i (by omega) (by omega), hr' j hj (by omega)]
        exact rw_cast (ih3 (by omega) m1 (some (.int (iI (vF (m1 (R i) c))))) x3_6 hA3) (lcons rfl (lcons rfl (lcons rfl (lcons rfl (lcons (lvI (by omega)) (lcons rfl (lcons rfl rfl))))))) rfl
      · skip
        refine rw_of (fun rr hrr => q_iload rfl hrr) ?_
        refine rw_if_eq (rg_vF _) (t := 83) rfl (fun hc4 => ?_) (fun hc4 => ?_)
        · skip
          refine rw_blk lk_X1_takeAway_83 ?_
          refine rw_of (fun rr hrr => q_iinc rfl rfl (q_goto (t := 3) rfl hrr)) ?_
          have hA5 : Fr (fun a_ => e + 2 ≤ a_ ∧ a_ < e + 10) m m1 ∧ (∀ k, k < (i + 1) → ∀ j, j ≤ n → m1 (R k) j = if k = r then m (R k) j else m (R k) j - m (R k) c * m (R r) j) ∧ (∀ k, (i + 1) ≤ k → k < 8 → m1 (R k) = m (R k)) := by
            first
              | refine ta_step hF h1 h2 Fr_rfl (fun j hj => ?_) hE.2.2.2.2 (by omega) hE.2.2.2.1
                rw [if_pos (by omega), h2 i (by omega) (by omega)]
              | refine ta_step hF h1 h2 Fr_rfl (fun j hj => ?_) hE.2.2.2.2 (by omega) hE.2.2.2.1
                have hz := vF_eq0.mp (by assumption)
                rw [h2 i (by omega) (by omega)] at hz
                rw [if_neg (by omega), h2 i (by omega) (by omega), hz]
                grind
              | refine ta_step hF h1 h2 hF34 (fun j hj => ?_) hE.2.2.2.2 (by omega) hE.2.2.2.1
                rw [hv34 j, if_pos (by omega), if_neg (by omega), h2 i (by omega) (by omega), hr' j hj (by omega)]
          exact rw_cast (ih3 (by omega) m1 (some (.int (iI (vF (m1 (R i) c))))) x3_6 hA5) (lcons rfl (lcons rfl (lcons rfl (lcons rfl (lcons (lvI (by omega)) (lcons rfl (lcons rfl rfl))))))) rfl
        · skip
          refine rw_of (fun rr hrr => q_iconst (q_istore (Nat.le_of_ble_eq_true rfl) rfl hrr)) ?_
          have hL34 : ∀ k, k ≤ n + 1 → ∀ (m2 : M1), (Fr (fun a_ => a_ = R i) m1 m2 ∧ ∀ j, m2 (R i) j = if j < k then m1 (R i) j - m1 (R i) c * m1 (R r) j else m1 (R i) j) → Rw (Ev d) k_X1_takeAway (34, [], [some (.ref (e)), some (.int (iI (((n : Nat) : Int)))), some (.int (iI (((r : Nat) : Int)))), some (.int (iI (((c : Nat) : Int)))), some (.int (iI (((i : Nat) : Int)))), some (.int (iI (vF (m1 (R i) c)))), some (.int (iI (((k : Nat) : Int))))], [], hpM S fz (m2, p), 0, 0) Qr := by
            refine loop_any (fun k hi34 ih34 => ?_)
            intro m2
            intro hI34
            obtain ⟨hF34, hv34⟩ := hI34
            refine rw_blk lk_X1_takeAway_34 ?_
            refine rw_of (fun rr hrr => q_iload rfl (q_iload_n rfl hrr)) ?_
            refine rw_icmp_gt ⟨by omega, by omega⟩ ⟨by omega, by omega⟩ (t := 83) rfl (fun hc6 => ?_) (fun hc6 => ?_)
            · skip
              have e34 : k = n + 1 := (by omega)
              rw [e34] at hv34
              refine rw_blk lk_X1_takeAway_83 ?_
              refine rw_of (fun rr hrr => q_iinc rfl rfl (q_goto (t := 3) rfl hrr)) ?_
              have hA7 : Fr (fun a_ => e + 2 ≤ a_ ∧ a_ < e + 10) m m2 ∧ (∀ k, k < (i + 1) → ∀ j, j ≤ n → m2 (R k) j = if k = r then m (R k) j else m (R k) j - m (R k) c * m (R r) j) ∧ (∀ k, (i + 1) ≤ k → k < 8 → m2 (R k) = m (R k)) := by
                first
                  | refine ta_step hF h1 h2 Fr_rfl (fun j hj => ?_) hE.2.2.2.2 (by omega) hE.2.2.2.1
                    rw [if_pos (by omega), h2 i (by omega) (by omega)]
                  | refine ta_step hF h1 h2 Fr_rfl (fun j hj => ?_) hE.2.2.2.2 (by omega) hE.2.2.2.1
                    have hz := vF_eq0.mp (by assumption)
                    rw [h2 i (by omega) (by omega)] at hz
                    rw [if_neg (by omega), h2 i (by omega) (by omega), hz]
                    grind
                  | refine ta_step hF h1 h2 hF34 (fun j hj => ?_) hE.2.2.2.2 (by omega) hE.2.2.2.1
                    rw [hv34 j, if_pos (by omega), if_neg (by omega), h2 i (by omega) (by omega), hr' j hj (by omega)]
              exact rw_cast (ih3 (by omega) m2 (some (.int (iI (vF (m1 (R i) c))))) (some (.int (iI (((k : Nat) : Int))))) hA7) (lcons rfl (lcons rfl (lcons rfl (lcons rfl (lcons (lvI (by omega)) (lcons rfl (lcons rfl rfl))))))) rfl
            · skip
              refine rw_of (fun rr hrr => q_aload_n rfl (q_getR hE.1 rfl hE.2.1 (q_iload rfl (q_aald (t := 0) (j := i) hE.2.2.1.1 (by omega) (by omega) (by omega) (hE.2.2.1.2.1 i (by omega)) (q_iload rfl (q_aload_n rfl (q_getR hE.1 rfl hE.2.1 (q_iload rfl (q_aald (t := 0) (j := i) hE.2.2.1.1 (by omega) (by omega) (by omega) (hE.2.2.1.2.1 i (by omega)) (q_iload rfl (q_iald (j := k) (hE.2.2.1.2.2 i (by omega)) rfl (by omega) rfl (q_iload rfl (q_aload_n rfl (q_getR hE.1 rfl hE.2.1 (q_iload_n rfl (q_aald (t := 0) (j := r) hE.2.2.1.1 (by omega) (by omega) (by omega) (hE.2.2.1.2.1 r (by omega)) (q_iload rfl (q_iald (j := k) (hE.2.2.1.2.2 r (by omega)) rfl (by omega) rfl hrr)))))))))))))))))) ?_
              obtain ⟨_, mm8, pp9, hV10, rfl, rfl, rfl⟩ := c_X2_times (S := S) (fz := fz) (m := m2) (p := p) (d := d) (by omega) (m1 (R i) c) (m2 (R r) k)
              refine rw_of (fun rr hrr => q_invS hV10 rfl rfl (okar_cons rfl (okar_cons rfl okar_nil)) (Nat.le_of_ble_eq_true rfl) hrr) ?_
              obtain ⟨_, mm11, pp12, hV13, rfl, rfl, rfl⟩ := c_X2_minus (S := S) (fz := fz) (m := m2) (p := p) (d := d) (by omega) (m2 (R i) k) ((m1 (R i) c) * (m2 (R r) k))
              refine rw_of (fun rr hrr => q_invS hV13 rfl rfl (okar_cons rfl (okar_cons rfl okar_nil)) (Nat.le_of_ble_eq_true rfl) (q_iast (j := k) (xx := (m2 (R i) k) - ((m1 (R i) c) * (m2 (R r) k))) (hE.2.2.1.2.2 i (by omega)) rfl (by omega) rfl hrr)) ?_
              generalize hm15 : w1 m2 (R i) k ((m2 (R i) k) - ((m1 (R i) c) * (m2 (R r) k))) = mm14
              refine rw_of (fun rr hrr => q_iinc rfl rfl (q_goto (t := 34) rfl hrr)) ?_
              exact rw_cast (ih34 (by omega) mm14 (by exact ⟨fr_w hm15 hF34 rfl, fill_w hm15 hv34 (by rw [hv34 k, if_neg (by omega), hF34 (R r) (fun z => by have := hE.2.2.2.2 r i hr (by omega) z; omega)])⟩)) (lcons rfl (lcons rfl (lcons rfl (lcons rfl (lcons rfl (lcons rfl (lcons (lvI (by omega)) rfl))))))) rfl
          exact rw_cast (hL34 0 (by omega) m1 (by exact ⟨Fr_rfl, fun j => (if_neg (Nat.not_lt_zero j)).symm⟩)) (lcons rfl (lcons rfl (lcons rfl (lcons rfl (lcons rfl (lcons rfl (lcons (lvI (by omega)) rfl))))))) rfl
  exact rw_cast (hL3 0 (by omega) m none none (by exact ⟨Fr_rfl, fun k hk => absurd hk (Nat.not_lt_zero k), fun _ _ _ => rfl⟩)) (lcons rfl (lcons rfl (lcons rfl (lcons rfl (lcons (lvI (by omega)) (lcons rfl (lcons rfl rfl))))))) rfl
theorem c_X1_solve {d : Nat} {S : Env} {fz : Bool} {m : M1} {p : M2} (hd : 3 ≤ d) (e n : Nat) (R : Nat → Nat) (hE : EQ p e R) (hn : n ≤ 8) : Ct d k_X1_solve S fz [.ref (e), .int (iI (((n : Nat) : Int)))] m p (fun v m' p' => ∃ RR, v = some (.int (iI ((rk n (fun i => m (R i)) : Nat) : Int))) ∧ EQ p' e RR ∧ Pk (e + 1) p p' ∧ Fr (fun a_ => e + 2 ≤ a_ ∧ a_ < e + 10) m m' ∧ (rk n (fun i => m (R i)) = n → ∀ x, Sat n (fun i => m (R i)) x ↔ ∀ i, i < n → x i = m' (RR i) n)) := by
  obtain ⟨d, rfl⟩ : ∃ e, d = e + 1 := ⟨d - 1, by omega⟩
  refine ct_go (lv := [some (.ref (e)), some (.int (iI (((n : Nat) : Int)))), none, none, none]) (Nat.le_of_ble_eq_true rfl) (okar_cons rfl (okar_cons rfl okar_nil)) rfl (fun Qr hQ => ?_)
  refine rw_blk lk_X1_solve_0 ?_
  refine rw_of (fun rr hrr => q_iconst (q_istore_n (Nat.le_of_ble_eq_true rfl) rfl (q_iconst (q_istore_n (Nat.le_of_ble_eq_true rfl) rfl hrr)))) ?_
  have hL4 : ∀ j, j ≤ n → ∀ (m1 : M1) (p1 : M2) (R1 : Nat → Nat) (r : Nat) (x4_4 : Option Value), (SI n e (fun i => m (R i)) m p j r m1 p1 R1) → Rw (Ev d) k_X1_solve (4, [], [some (.ref (e)), some (.int (iI (((n : Nat) : Int)))), some (.int (iI (((r : Nat) : Int)))), some (.int (iI (((j : Nat) : Int)))), x4_4], [], hpM S fz (m1, p1), 0, 0) Qr := by
    refine loop_any (fun j hi4 ih4 => ?_)
    intro m1 p1 R1 r x4_4
    intro hS
    have hE1 := hS.2.1
    have hrj : r ≤ j := hS.1 ▸ els_le j hi4
    refine rw_blk lk_X1_solve_4 ?_
    refine rw_of (fun rr hrr => q_iload_n rfl (q_iload_n rfl hrr)) ?_
    refine rw_icmp_ge ⟨by omega, by omega⟩ ⟨by omega, by omega⟩ (t := 61) rfl (fun hc1 => ?_) (fun hc1 => ?_)
    · skip
      refine rw_blk lk_X1_solve_61 ?_
      refine rw_of (fun rr hrr => q_iload_n rfl hrr) ?_
      refine rw_ret hQ (q_ireturn (Or.inl rfl)) ?_
      have e9 : j = n := (by omega)
      subst e9
      have h9 := SI_end hS
      exact ⟨R1, by rw [h9.1], h9.2⟩
    · skip
      refine rw_of (fun rr hrr => q_aload_n rfl (q_iload_n rfl (q_iload_n rfl (q_iload_n rfl hrr)))) ?_
      obtain ⟨_, mm2, pp3, hV4, k4, rfl, rfl, rfl, h14, h24, h34, h44⟩ := c_X1_firstWith (S := S) (fz := fz) (m := m1) (p := p1) (d := d) (by omega) (e) (n) (r) (j) (R1) hE1 (by omega) (by omega) (by omega)
      refine rw_of (fun rr hrr => q_invV hV4 hE.1 rfl rfl (okar_cons rfl (okar_cons rfl (okar_cons rfl okar_nil))) (Nat.le_of_ble_eq_true rfl) (q_istore (Nat.le_of_ble_eq_true rfl) rfl (q_iload rfl (q_iload_n rfl hrr)))) ?_
      refine rw_icmp_ge ⟨by omega, by omega⟩ ⟨by omega, by omega⟩ (t := 55) rfl (fun hc5 => ?_) (fun hc5 => ?_)
      · skip
        refine rw_blk lk_X1_solve_55 ?_
        refine rw_of (fun rr hrr => q_iinc rfl rfl (q_goto (t := 4) rfl hrr)) ?_
        have hA6 : SI n e (fun i => m (R i)) m p (j + 1) r m1 p1 R1 := by
          first
            | exact SI_skip hS (by omega) (k := k4) ⟨h14, h24, h34, h44⟩ (by omega)
            | exact SI_step hS hn (by omega) ⟨h14, h24, h34, h44⟩ (by omega) rfl hE1 sorry_no_X1_swap.hk sorry_no_X1_divide.hF sorry_no_X1_divide.hv sorry_no_X1_takeAway.hF sorry_no_X1_takeAway.hv
        exact rw_cast (ih4 (by omega) m1 p1 R1 r (some (.int (iI (((k4 : Nat) : Int))))) hA6) (lcons rfl (lcons rfl (lcons rfl (lcons (lvI (by omega)) (lcons rfl rfl))))) rfl
      · skip
        refine rw_of (fun rr hrr => q_aload_n rfl (q_iload_n rfl (q_iload rfl hrr))) ?_
        obtain ⟨_, mm7, pp8, hV9, rfl, rfl, hE9, hk9⟩ := c_X1_swap (S := S) (fz := fz) (m := m1) (p := p1) (d := d) (by omega) (e) (r) (k4) (R1) hE1 (by omega) (by omega)
        refine rw_of (fun rr hrr => q_invV hV9 hE.1 rfl rfl (okar_cons rfl (okar_cons rfl okar_nil)) (Nat.le_of_ble_eq_true rfl) (q_aload_n rfl (q_iload_n rfl (q_iload_n rfl (q_aload_n rfl (q_getR hE.1 rfl hE9.2.1 (q_iload_n rfl (q_aald (t := 0) (j := r) hE9.2.2.1.1 (by omega) (by omega) (by omega) (hE9.2.2.1.2.1 r (by omega)) (q_iload_n rfl (q_iald (j := j) (hE9.2.2.1.2.2 r (by omega)) rfl (by omega) rfl hrr)))))))))) ?_
        obtain ⟨_, mm10, pp11, hV12, rfl, rfl, hF12, hv12⟩ := c_X1_divide (S := S) (fz := fz) (m := m1) (p := pp8) (d := d) (by omega) (e) (n) (r) (m1 (swR R1 r k4 r) j) (swR R1 r k4) hE9 (by omega) (by omega)
        refine rw_of (fun rr hrr => q_invV hV12 hE.1 rfl rfl (okar_cons rfl (okar_cons rfl (okar_cons rfl okar_nil))) (Nat.le_of_ble_eq_true rfl) (q_aload_n rfl (q_iload_n rfl (q_iload_n rfl (q_iload_n rfl hrr))))) ?_
        obtain ⟨_, mm13, pp14, hV15, rfl, rfl, hF15, hv15⟩ := c_X1_takeAway (S := S) (fz := fz) (m := mm10) (p := pp8) (d := d) (by omega) (e) (n) (r) (j) (swR R1 r k4) hE9 (by omega) (by omega) (by omega)
        refine rw_of (fun rr hrr => q_invV hV15 hE.1 rfl rfl (okar_cons rfl (okar_cons rfl (okar_cons rfl okar_nil))) (Nat.le_of_ble_eq_true rfl) (q_iinc rfl rfl hrr)) ?_
        refine rw_blk lk_X1_solve_55 ?_
        refine rw_of (fun rr hrr => q_iinc rfl rfl (q_goto (t := 4) rfl hrr)) ?_
        have hA16 : SI n e (fun i => m (R i)) m p (j + 1) (r + 1) mm13 pp8 (swR R1 r k4) := by
          first
            | exact SI_skip hS (by omega) (k := k4) ⟨h14, h24, h34, h44⟩ (by omega)
            | exact SI_step hS hn (by omega) ⟨h14, h24, h34, h44⟩ (by omega) rfl hE9 hk9 hF12 hv12 hF15 hv15
        exact rw_cast (ih4 (by omega) mm13 pp8 (swR R1 r k4) (r + 1) (some (.int (iI (((k4 : Nat) : Int))))) hA16) (lcons rfl (lcons rfl (lcons (lvI (by omega)) (lcons (lvI (by omega)) (lcons rfl rfl))))) rfl
  exact rw_cast (hL4 0 (by omega) m p R 0 none (by exact SI_0 hE)) (lcons rfl (lcons rfl (lcons (lvI (by omega)) (lcons (lvI (by omega)) (lcons rfl rfl))))) rfl
theorem c_X1_readSolution {d : Nat} {S : Env} {fz : Bool} {m : M1} {p : M2} (hd : 1 ≤ d) (e n b : Nat) (R : Nat → Nat) {wb : Nat} (hE : EQ p e R) (hn : n ≤ 8) (hb : SH b = (1, wb)) (hnb : n ≤ wb) (hbr : b < e + 2 ∨ e + 10 ≤ b) : Ct d k_X1_readSolution S fz [.ref (e), .int (iI (((n : Nat) : Int))), .ref (b)] m p (fun v m' p' => v = none ∧ p = p' ∧ Fr (fun a_ => a_ = b) m m' ∧ ∀ i, m' b i = if i < n then m (R i) n else m b i) := by
  obtain ⟨d, rfl⟩ : ∃ e, d = e + 1 := ⟨d - 1, by omega⟩
  refine ct_go (lv := [some (.ref (e)), some (.int (iI (((n : Nat) : Int)))), some (.ref (b)), none]) (Nat.le_of_ble_eq_true rfl) (okar_cons rfl (okar_cons rfl (okar_cons rfl okar_nil))) rfl (fun Qr hQ => ?_)
  refine rw_blk lk_X1_readSolution_0 ?_
  refine rw_of (fun rr hrr => q_iconst (q_istore_n (Nat.le_of_ble_eq_true rfl) rfl hrr)) ?_
  have hL2 : ∀ i, i ≤ n → ∀ (m1 : M1), (Fr (fun a_ => a_ = b) m m1 ∧ ∀ j, m1 b j = if j < i then m (R j) n else m b j) → Rw (Ev d) k_X1_readSolution (2, [], [some (.ref (e)), some (.int (iI (((n : Nat) : Int)))), some (.ref (b)), some (.int (iI (((i : Nat) : Int))))], [], hpM S fz (m1, p), 0, 0) Qr := by
    refine loop_any (fun i hi2 ih2 => ?_)
    intro m1
    intro hI2
    obtain ⟨hF, hv⟩ := hI2
    refine rw_blk lk_X1_readSolution_2 ?_
    refine rw_of (fun rr hrr => q_iload_n rfl (q_iload_n rfl hrr)) ?_
    refine rw_icmp_ge ⟨by omega, by omega⟩ ⟨by omega, by omega⟩ (t := 24) rfl (fun hc1 => ?_) (fun hc1 => ?_)
    · skip
      refine rw_blk lk_X1_readSolution_24 ?_
      refine rw_ret hQ (q_return) ?_
      have e9 : i = n := (by omega)
      subst e9
      exact ⟨rfl, rfl, hF, hv⟩
    · skip
      refine rw_of (fun rr hrr => q_aload_n rfl (q_iload_n rfl (q_aload_n rfl (q_getR hE.1 rfl hE.2.1 (q_iload_n rfl (q_aald (t := 0) (j := i) hE.2.2.1.1 (by omega) (by omega) (by omega) (hE.2.2.1.2.1 i (by omega)) (q_iload_n rfl (q_iald (j := n) (hE.2.2.1.2.2 i (by omega)) rfl (by omega) rfl (q_iast (j := i) (xx := m1 (R i) n) hb rfl (by omega) rfl hrr))))))))) ?_
      generalize hm3 : w1 m1 b i (m1 (R i) n) = mm2
      refine rw_of (fun rr hrr => q_iinc rfl rfl (q_goto (t := 2) rfl hrr)) ?_
      exact rw_cast (ih2 (by omega) mm2 (by exact ⟨fr_w hm3 hF rfl, fill_w hm3 hv (by rw [hF _ (by have := hE.2.2.2.1 i (by omega); omega)])⟩)) (lcons rfl (lcons rfl (lcons rfl (lcons (lvI (by omega)) rfl)))) rfl
  exact rw_cast (hL2 0 (by omega) m (by exact ⟨Fr_rfl, fun j => (if_neg (Nat.not_lt_zero j)).symm⟩)) (lcons rfl (lcons rfl (lcons rfl (lcons (lvI (by omega)) rfl)))) rfl
