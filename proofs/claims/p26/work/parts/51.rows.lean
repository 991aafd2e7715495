theorem c_X6_product {d : Nat} {S : Env} {fz : Bool} {m : M1} {p : M2} (hd : 2 ≤ d) (n a b : Nat) {wa wb : Nat} (hn : n ≤ 8) (ha : SH a = (1, wa)) (hb : SH b = (1, wb)) (hna : n ≤ wa) (hnb : n ≤ wb) : Ct d k_X6_product S fz [.int (iI (((n : Nat) : Int))), .ref (a), .ref (b)] m p (fun v m' p' => v = some (.int (iI (vF (dot n (m a) (m b))))) ∧ m = m' ∧ p = p') := by
  obtain ⟨d, rfl⟩ : ∃ e, d = e + 1 := ⟨d - 1, by omega⟩
  refine ct_go (lv := [some (.int (iI (((n : Nat) : Int)))), some (.ref (a)), some (.ref (b)), none, none]) (Nat.le_of_ble_eq_true rfl) (okar_cons rfl (okar_cons rfl (okar_cons rfl okar_nil))) rfl (fun Qr hQ => ?_)
  refine rw_blk lk_X6_product_0 ?_
  refine rw_of (fun rr hrr => q_iconst (q_istore_n (Nat.le_of_ble_eq_true rfl) rfl (q_iconst (q_istore (Nat.le_of_ble_eq_true rfl) rfl hrr)))) ?_
  have hL5 : ∀ i, i ≤ n → Rw (Ev d) k_X6_product (5, [], [some (.int (iI (((n : Nat) : Int)))), some (.ref (a)), some (.ref (b)), some (.int (iI (vF (dot i (m a) (m b))))), some (.int (iI (((i : Nat) : Int))))], [], hpM S fz (m, p), 0, 0) Qr := by
    refine loop_any (fun i hi5 ih5 => ?_)
    refine rw_blk lk_X6_product_5 ?_
    refine rw_of (fun rr hrr => q_iload rfl (q_iload_n rfl hrr)) ?_
    refine rw_icmp_ge ⟨by omega, by omega⟩ ⟨by omega, by omega⟩ (t := 33) rfl (fun hc1 => ?_) (fun hc1 => ?_)
    · skip
      refine rw_blk lk_X6_product_33 ?_
      refine rw_of (fun rr hrr => q_iload_n rfl hrr) ?_
      exact rw_ret hQ (q_ireturn (Or.inl rfl)) (by exact ⟨lvI (by rw [show i = n by omega]), rfl, rfl⟩)
    · skip
      refine rw_of (fun rr hrr => q_iload_n rfl (q_aload_n rfl (q_iload rfl (q_iald (j := i) ha rfl (by omega) rfl (q_aload_n rfl (q_iload rfl (q_iald (j := i) hb rfl (by omega) rfl hrr))))))) ?_
      obtain ⟨_, mm2, pp3, hV4, rfl, rfl, rfl⟩ := c_X2_times (S := S) (fz := fz) (m := m) (p := p) (d := d) (by omega) (m a i) (m b i)
      refine rw_of (fun rr hrr => q_invS hV4 rfl rfl (okar_cons rfl (okar_cons rfl okar_nil)) (Nat.le_of_ble_eq_true rfl) hrr) ?_
      obtain ⟨_, mm5, pp6, hV7, rfl, rfl, rfl⟩ := c_X2_plus (S := S) (fz := fz) (m := m) (p := p) (d := d) (by omega) (dot i (m a) (m b)) ((m a i) * (m b i))
      refine rw_of (fun rr hrr => q_invS hV7 rfl rfl (okar_cons rfl (okar_cons rfl okar_nil)) (Nat.le_of_ble_eq_true rfl) (q_istore_n (Nat.le_of_ble_eq_true rfl) rfl (q_iinc rfl rfl (q_goto (t := 5) rfl hrr)))) ?_
      exact rw_cast (ih5 (by omega)) (lcons rfl (lcons rfl (lcons rfl (lcons (lvI (by rfl)) (lcons (lvI (by omega)) rfl))))) rfl
  exact rw_cast (hL5 0 (by omega)) (lcons rfl (lcons rfl (lcons rfl (lcons (lvI (by rfl)) (lcons (lvI (by omega)) rfl))))) rfl
theorem c_X6_copy {d : Nat} {S : Env} {fz : Bool} {m : M1} {p : M2} (hd : 1 ≤ d) (n a b : Nat) {wa wb : Nat} (hn : n ≤ 9) (ha : SH a = (1, wa)) (hb : SH b = (1, wb)) (hna : n ≤ wa) (hnb : n ≤ wb) (hab : a ≠ b) : Ct d k_X6_copy S fz [.int (iI (((n : Nat) : Int))), .ref (a), .ref (b)] m p (fun v m' p' => v = none ∧ p = p' ∧ Fr (fun a_ => a_ = b) m m' ∧ ∀ i, m' b i = if i < n then m a i else m b i) := by
  obtain ⟨d, rfl⟩ : ∃ e, d = e + 1 := ⟨d - 1, by omega⟩
  refine ct_go (lv := [some (.int (iI (((n : Nat) : Int)))), some (.ref (a)), some (.ref (b)), none]) (Nat.le_of_ble_eq_true rfl) (okar_cons rfl (okar_cons rfl (okar_cons rfl okar_nil))) rfl (fun Qr hQ => ?_)
  refine rw_blk lk_X6_copy_0 ?_
  refine rw_of (fun rr hrr => q_iconst (q_istore_n (Nat.le_of_ble_eq_true rfl) rfl hrr)) ?_
  have hL2 : ∀ i, i ≤ n → ∀ (m1 : M1), (Fr (fun a_ => a_ = b) m m1 ∧ ∀ j, m1 b j = if j < i then m a j else m b j) → Rw (Ev d) k_X6_copy (2, [], [some (.int (iI (((n : Nat) : Int)))), some (.ref (a)), some (.ref (b)), some (.int (iI (((i : Nat) : Int))))], [], hpM S fz (m1, p), 0, 0) Qr := by
    refine loop_any (fun i hi2 ih2 => ?_)
    intro m1
    intro hI2
    obtain ⟨hF, hv⟩ := hI2
    refine rw_blk lk_X6_copy_2 ?_
    refine rw_of (fun rr hrr => q_iload_n rfl (q_iload_n rfl hrr)) ?_
    refine rw_icmp_ge ⟨by omega, by omega⟩ ⟨by omega, by omega⟩ (t := 19) rfl (fun hc1 => ?_) (fun hc1 => ?_)
    · skip
      refine rw_blk lk_X6_copy_19 ?_
      exact rw_ret hQ (q_return) (by have e : i = n := (by omega); subst e; exact ⟨rfl, rfl, hF, hv⟩)
    · skip
      refine rw_of (fun rr hrr => q_aload_n rfl (q_iload_n rfl (q_aload_n rfl (q_iload_n rfl (q_iald (j := i) ha rfl (by omega) rfl (q_iast (j := i) (xx := m1 a i) hb rfl (by omega) rfl hrr)))))) ?_
      generalize hm3 : w1 m1 b i (m1 a i) = mm2
      refine rw_of (fun rr hrr => q_iinc rfl rfl (q_goto (t := 2) rfl hrr)) ?_
      exact rw_cast (ih2 (by omega) mm2 (by exact ⟨fr_w hm3 hF rfl, fill_w hm3 hv (congrFun (hF a hab) i)⟩)) (lcons rfl (lcons rfl (lcons rfl (lcons (lvI (by omega)) rfl)))) rfl
  exact rw_cast (hL2 0 (by omega) m (by exact ⟨Fr_rfl, fun j => (if_neg (Nat.not_lt_zero j)).symm⟩)) (lcons rfl (lcons rfl (lcons rfl (lcons (lvI (by omega)) rfl)))) rfl
theorem c_X6_fill {d : Nat} {S : Env} {fz : Bool} {m : M1} {p : M2} (hd : 1 ≤ d) (n b : Nat) (x : F) {wb : Nat} (hn : n ≤ 9) (hb : SH b = (1, wb)) (hnb : n ≤ wb) : Ct d k_X6_fill S fz [.int (iI (((n : Nat) : Int))), .ref (b), .int (iI (vF (x)))] m p (fun v m' p' => v = none ∧ p = p' ∧ Fr (fun a_ => a_ = b) m m' ∧ ∀ i, m' b i = if i < n then x else m b i) := by
  obtain ⟨d, rfl⟩ : ∃ e, d = e + 1 := ⟨d - 1, by omega⟩
  refine ct_go (lv := [some (.int (iI (((n : Nat) : Int)))), some (.ref (b)), some (.int (iI (vF (x)))), none]) (Nat.le_of_ble_eq_true rfl) (okar_cons rfl (okar_cons rfl (okar_cons rfl okar_nil))) rfl (fun Qr hQ => ?_)
  refine rw_blk lk_X6_fill_0 ?_
  refine rw_of (fun rr hrr => q_iconst (q_istore_n (Nat.le_of_ble_eq_true rfl) rfl hrr)) ?_
  have hL2 : ∀ i, i ≤ n → ∀ (m1 : M1), (Fr (fun a_ => a_ = b) m m1 ∧ ∀ j, m1 b j = if j < i then x else m b j) → Rw (Ev d) k_X6_fill (2, [], [some (.int (iI (((n : Nat) : Int)))), some (.ref (b)), some (.int (iI (vF (x)))), some (.int (iI (((i : Nat) : Int))))], [], hpM S fz (m1, p), 0, 0) Qr := by
    refine loop_any (fun i hi2 ih2 => ?_)
    intro m1
    intro hI2
    obtain ⟨hF, hv⟩ := hI2
    refine rw_blk lk_X6_fill_2 ?_
    refine rw_of (fun rr hrr => q_iload_n rfl (q_iload_n rfl hrr)) ?_
    refine rw_icmp_ge ⟨by omega, by omega⟩ ⟨by omega, by omega⟩ (t := 17) rfl (fun hc1 => ?_) (fun hc1 => ?_)
    · skip
      refine rw_blk lk_X6_fill_17 ?_
      exact rw_ret hQ (q_return) (by have e : i = n := (by omega); subst e; exact ⟨rfl, rfl, hF, hv⟩)
    · skip
      refine rw_of (fun rr hrr => q_aload_n rfl (q_iload_n rfl (q_iload_n rfl (q_iast (j := i) (xx := x) hb rfl (by omega) rfl hrr)))) ?_
      generalize hm3 : w1 m1 b i x = mm2
      refine rw_of (fun rr hrr => q_iinc rfl rfl (q_goto (t := 2) rfl hrr)) ?_
      exact rw_cast (ih2 (by omega) mm2 (by exact ⟨fr_w hm3 hF rfl, fill_w hm3 hv (rfl)⟩)) (lcons rfl (lcons rfl (lcons rfl (lcons (lvI (by omega)) rfl)))) rfl
  exact rw_cast (hL2 0 (by omega) m (by exact ⟨Fr_rfl, fun j => (if_neg (Nat.not_lt_zero j)).symm⟩)) (lcons rfl (lcons rfl (lcons rfl (lcons (lvI (by omega)) rfl)))) rfl
theorem c_X6_squareByColumn {d : Nat} {S : Env} {fz : Bool} {m : M1} {p : M2} (hd : 3 ≤ d) (n q a b : Nat) (R : Nat → Nat) {wa wb : Nat} (hn : n ≤ 8) (hq : SQ p q R) (ha : SH a = (1, wa)) (hb : SH b = (1, wb)) (hna : n ≤ wa) (hnb : n ≤ wb) (hab : a ≠ b) (hRb : ∀ i, i < n → R i ≠ b) : Ct d k_X6_squareByColumn S fz [.int (iI (((n : Nat) : Int))), .ref (q), .ref (a), .ref (b)] m p (fun v m' p' => v = none ∧ p = p' ∧ Fr (fun a_ => a_ = b) m m' ∧ ∀ i, m' b i = if i < n then dot n (m (R i)) (m a) else m b i) := by
  obtain ⟨d, rfl⟩ : ∃ e, d = e + 1 := ⟨d - 1, by omega⟩
  refine ct_go (lv := [some (.int (iI (((n : Nat) : Int)))), some (.ref (q)), some (.ref (a)), some (.ref (b)), none]) (Nat.le_of_ble_eq_true rfl) (okar_cons rfl (okar_cons rfl (okar_cons rfl (okar_cons rfl okar_nil)))) rfl (fun Qr hQ => ?_)
  refine rw_blk lk_X6_squareByColumn_0 ?_
  refine rw_of (fun rr hrr => q_iconst (q_istore (Nat.le_of_ble_eq_true rfl) rfl hrr)) ?_
  have hL3 : ∀ i, i ≤ n → ∀ (m1 : M1), (Fr (fun a_ => a_ = b) m m1 ∧ ∀ j, m1 b j = if j < i then dot n (m (R j)) (m a) else m b j) → Rw (Ev d) k_X6_squareByColumn (3, [], [some (.int (iI (((n : Nat) : Int)))), some (.ref (q)), some (.ref (a)), some (.ref (b)), some (.int (iI (((i : Nat) : Int))))], [], hpM S fz (m1, p), 0, 0) Qr := by
    refine loop_any (fun i hi3 ih3 => ?_)
    intro m1
    intro hI3
    obtain ⟨hF, hv⟩ := hI3
    refine rw_blk lk_X6_squareByColumn_3 ?_
    refine rw_of (fun rr hrr => q_iload rfl (q_iload_n rfl hrr)) ?_
    refine rw_icmp_ge ⟨by omega, by omega⟩ ⟨by omega, by omega⟩ (t := 28) rfl (fun hc1 => ?_) (fun hc1 => ?_)
    · skip
      refine rw_blk lk_X6_squareByColumn_28 ?_
      exact rw_ret hQ (q_return) (by have e : i = n := (by omega); subst e; exact ⟨rfl, rfl, hF, hv⟩)
    · skip
      refine rw_of (fun rr hrr => q_aload_n rfl (q_iload rfl (q_iload_n rfl (q_aload_n rfl (q_iload rfl (q_aald (t := 0) (j := i) hq.1 (by omega) (by omega) (by omega) (hq.2.1 i (by omega)) (q_aload_n rfl hrr))))))) ?_
      obtain ⟨_, mm2, pp3, hV4, rfl, rfl, rfl⟩ := c_X6_product (S := S) (fz := fz) (m := m1) (p := p) (d := d) (by omega) (n) (R i) (a) (by omega) ((hq.2.2 i (by omega))) (ha) (by omega) (by omega)
      refine rw_of (fun rr hrr => q_invS hV4 rfl rfl (okar_cons rfl (okar_cons rfl (okar_cons rfl okar_nil))) (Nat.le_of_ble_eq_true rfl) (q_iast (j := i) (xx := dot n (m1 (R i)) (m1 a)) hb rfl (by omega) rfl hrr)) ?_
      generalize hm6 : w1 m1 b i (dot n (m1 (R i)) (m1 a)) = mm5
      refine rw_of (fun rr hrr => q_iinc rfl rfl (q_goto (t := 3) rfl hrr)) ?_
      exact rw_cast (ih3 (by omega) mm5 (by exact ⟨fr_w hm6 hF rfl, fill_w hm6 hv (by rw [hF _ hab, hF _ (hRb i (by omega))])⟩)) (lcons rfl (lcons rfl (lcons rfl (lcons rfl (lcons (lvI (by omega)) rfl))))) rfl
  exact rw_cast (hL3 0 (by omega) m (by exact ⟨Fr_rfl, fun j => (if_neg (Nat.not_lt_zero j)).symm⟩)) (lcons rfl (lcons rfl (lcons rfl (lcons rfl (lcons (lvI (by omega)) rfl))))) rfl
theorem c_X6_rowBySquare {d : Nat} {S : Env} {fz : Bool} {m : M1} {p : M2} (hd : 2 ≤ d) (n a q b : Nat) (R : Nat → Nat) {wa wb : Nat} (hn : n ≤ 8) (ha : SH a = (1, wa)) (hq : SQ p q R) (hb : SH b = (1, wb)) (hna : n ≤ wa) (hnb : n ≤ wb) (hab : a ≠ b) (hRb : ∀ i, i < n → R i ≠ b) : Ct d k_X6_rowBySquare S fz [.int (iI (((n : Nat) : Int))), .ref (a), .ref (q), .ref (b)] m p (fun v m' p' => v = none ∧ p = p' ∧ Fr (fun a_ => a_ = b) m m' ∧ ∀ i, m' b i = if i < n then dot n (m a) (fun k => m (R k) i) else m b i) := by
  obtain ⟨d, rfl⟩ : ∃ e, d = e + 1 := ⟨d - 1, by omega⟩
  refine ct_go (lv := [some (.int (iI (((n : Nat) : Int)))), some (.ref (a)), some (.ref (q)), some (.ref (b)), none, none, none]) (Nat.le_of_ble_eq_true rfl) (okar_cons rfl (okar_cons rfl (okar_cons rfl (okar_cons rfl okar_nil)))) rfl (fun Qr hQ => ?_)
  refine rw_blk lk_X6_rowBySquare_0 ?_
  refine rw_of (fun rr hrr => q_iconst (q_istore (Nat.le_of_ble_eq_true rfl) rfl hrr)) ?_
  have hL3 : ∀ i, i ≤ n → ∀ (m1 : M1) (x3_5 : Option Value) (x3_6 : Option Value), (Fr (fun a_ => a_ = b) m m1 ∧ ∀ j, m1 b j = if j < i then dot n (m a) (fun k => m (R k) j) else m b j) → Rw (Ev d) k_X6_rowBySquare (3, [], [some (.int (iI (((n : Nat) : Int)))), some (.ref (a)), some (.ref (q)), some (.ref (b)), some (.int (iI (((i : Nat) : Int)))), x3_5, x3_6], [], hpM S fz (m1, p), 0, 0) Qr := by
    refine loop_any (fun i hi3 ih3 => ?_)
    intro m1 x3_5 x3_6
    intro hI3
    obtain ⟨hF, hv⟩ := hI3
    refine rw_blk lk_X6_rowBySquare_3 ?_
    refine rw_of (fun rr hrr => q_iload rfl (q_iload_n rfl hrr)) ?_
    refine rw_icmp_ge ⟨by omega, by omega⟩ ⟨by omega, by omega⟩ (t := 60) rfl (fun hc1 => ?_) (fun hc1 => ?_)
    · skip
      refine rw_blk lk_X6_rowBySquare_60 ?_
      exact rw_ret hQ (q_return) (by have e : i = n := (by omega); subst e; exact ⟨rfl, rfl, hF, hv⟩)
    · skip
      refine rw_of (fun rr hrr => q_iconst (q_istore (Nat.le_of_ble_eq_true rfl) rfl (q_iconst (q_istore (Nat.le_of_ble_eq_true rfl) rfl hrr)))) ?_
      have hL15 : ∀ k, k ≤ n → Rw (Ev d) k_X6_rowBySquare (15, [], [some (.int (iI (((n : Nat) : Int)))), some (.ref (a)), some (.ref (q)), some (.ref (b)), some (.int (iI (((i : Nat) : Int)))), some (.int (iI (vF (dot k (m1 a) (fun k => m1 (R k) i))))), some (.int (iI (((k : Nat) : Int))))], [], hpM S fz (m1, p), 0, 0) Qr := by
        refine loop_any (fun k hi15 ih15 => ?_)
        refine rw_blk lk_X6_rowBySquare_15 ?_
        refine rw_of (fun rr hrr => q_iload rfl (q_iload_n rfl hrr)) ?_
        refine rw_icmp_ge ⟨by omega, by omega⟩ ⟨by omega, by omega⟩ (t := 48) rfl (fun hc2 => ?_) (fun hc2 => ?_)
        · skip
          refine rw_blk lk_X6_rowBySquare_48 ?_
          refine rw_of (fun rr hrr => q_aload_n rfl (q_iload rfl (q_iload rfl (q_iast (j := i) (xx := dot k (m1 a) (fun k => m1 (R k) i)) hb rfl (by omega) rfl hrr)))) ?_
          generalize hm4 : w1 m1 b i (dot k (m1 a) (fun k => m1 (R k) i)) = mm3
          refine rw_of (fun rr hrr => q_iinc rfl rfl (q_goto (t := 3) rfl hrr)) ?_
          exact rw_cast (ih3 (by omega) mm3 (some (.int (iI (vF (dot k (m1 a) (fun k => m1 (R k) i)))))) (some (.int (iI (((k : Nat) : Int))))) (by exact ⟨fr_w hm4 hF rfl, fill_w hm4 hv (by rw [show k = n by omega]; exact dot_congr (fun _ _ => by rw [hF _ hab]) (fun k hk => by rw [hF _ (hRb k hk)]))⟩)) (lcons rfl (lcons rfl (lcons rfl (lcons rfl (lcons (lvI (by omega)) (lcons rfl (lcons rfl rfl))))))) rfl
        · skip
          refine rw_of (fun rr hrr => q_iload rfl (q_aload_n rfl (q_iload rfl (q_iald (j := k) ha rfl (by omega) rfl (q_aload_n rfl (q_iload rfl (q_aald (t := 0) (j := k) hq.1 (by omega) (by omega) (by omega) (hq.2.1 k (by omega)) (q_iload rfl (q_iald (j := i) (hq.2.2 k (by omega)) rfl (by omega) rfl hrr))))))))) ?_
          obtain ⟨_, mm5, pp6, hV7, rfl, rfl, rfl⟩ := c_X2_times (S := S) (fz := fz) (m := m1) (p := p) (d := d) (by omega) (m1 a k) (m1 (R k) i)
          refine rw_of (fun rr hrr => q_invS hV7 rfl rfl (okar_cons rfl (okar_cons rfl okar_nil)) (Nat.le_of_ble_eq_true rfl) hrr) ?_
          obtain ⟨_, mm8, pp9, hV10, rfl, rfl, rfl⟩ := c_X2_plus (S := S) (fz := fz) (m := m1) (p := p) (d := d) (by omega) (dot k (m1 a) (fun k => m1 (R k) i)) ((m1 a k) * (m1 (R k) i))
          refine rw_of (fun rr hrr => q_invS hV10 rfl rfl (okar_cons rfl (okar_cons rfl okar_nil)) (Nat.le_of_ble_eq_true rfl) (q_istore (Nat.le_of_ble_eq_true rfl) rfl (q_iinc rfl rfl (q_goto (t := 15) rfl hrr)))) ?_
          exact rw_cast (ih15 (by omega)) (lcons rfl (lcons rfl (lcons rfl (lcons rfl (lcons rfl (lcons (lvI (by rfl)) (lcons (lvI (by omega)) rfl))))))) rfl
      exact rw_cast (hL15 0 (by omega)) (lcons rfl (lcons rfl (lcons rfl (lcons rfl (lcons rfl (lcons (lvI (by rfl)) (lcons (lvI (by omega)) rfl))))))) rfl
  exact rw_cast (hL3 0 (by omega) m none none (by exact ⟨Fr_rfl, fun j => (if_neg (Nat.not_lt_zero j)).symm⟩)) (lcons rfl (lcons rfl (lcons rfl (lcons rfl (lcons (lvI (by omega)) (lcons rfl (lcons rfl rfl))))))) rfl
theorem c_X6_squareBySquare {d : Nat} {S : Env} {fz : Bool} {m : M1} {p : M2} (hd : 3 ≤ d) (n q1 q2 q3 lo hi : Nat) (A B T : Nat → Nat) (hn : n ≤ 8) (h1 : SQ p q1 A) (h2 : SQ p q2 B) (h3 : SQ p q3 T) (hT : ∀ i, i < 8 → lo ≤ T i ∧ T i < hi) (hA : ∀ i, i < 8 → A i < lo ∨ hi ≤ A i) (hB : ∀ i, i < 8 → B i < lo ∨ hi ≤ B i) (hinj : ∀ i j, i < 8 → j < 8 → T i = T j → i = j) : Ct d k_X6_squareBySquare S fz [.int (iI (((n : Nat) : Int))), .ref (q1), .ref (q2), .ref (q3)] m p (fun v m' p' => v = none ∧ p = p' ∧ Fr (fun a_ => lo ≤ a_ ∧ a_ < hi) m m' ∧ ∀ k, k < n → ∀ j, j < n → m' (T k) j = dot n (m (A k)) (fun l => m (B l) j)) := by
  obtain ⟨d, rfl⟩ : ∃ e, d = e + 1 := ⟨d - 1, by omega⟩
  refine ct_go (lv := [some (.int (iI (((n : Nat) : Int)))), some (.ref (q1)), some (.ref (q2)), some (.ref (q3)), none]) (Nat.le_of_ble_eq_true rfl) (okar_cons rfl (okar_cons rfl (okar_cons rfl (okar_cons rfl okar_nil)))) rfl (fun Qr hQ => ?_)
  refine rw_blk lk_X6_squareBySquare_0 ?_
  refine rw_of (fun rr hrr => q_iconst (q_istore (Nat.le_of_ble_eq_true rfl) rfl hrr)) ?_
  have hL3 : ∀ i, i ≤ n → ∀ (m1 : M1), (Fr (fun a_ => lo ≤ a_ ∧ a_ < hi) m m1 ∧ ∀ k, k < i → ∀ j, j < n → m1 (T k) j = dot n (m (A k)) (fun l => m (B l) j)) → Rw (Ev d) k_X6_squareBySquare (3, [], [some (.int (iI (((n : Nat) : Int)))), some (.ref (q1)), some (.ref (q2)), some (.ref (q3)), some (.int (iI (((i : Nat) : Int))))], [], hpM S fz (m1, p), 0, 0) Qr := by
    refine loop_any (fun i hi3 ih3 => ?_)
    intro m1
    intro hI3
    obtain ⟨hF, hv⟩ := hI3
    refine rw_blk lk_X6_squareBySquare_3 ?_
    refine rw_of (fun rr hrr => q_iload rfl (q_iload_n rfl hrr)) ?_
    refine rw_icmp_ge ⟨by omega, by omega⟩ ⟨by omega, by omega⟩ (t := 28) rfl (fun hc1 => ?_) (fun hc1 => ?_)
    · skip
      refine rw_blk lk_X6_squareBySquare_28 ?_
      exact rw_ret hQ (q_return) (by have e : i = n := (by omega); subst e; exact ⟨rfl, rfl, hF, hv⟩)
    · skip
      refine rw_of (fun rr hrr => q_iload_n rfl (q_aload_n rfl (q_iload rfl (q_aald (t := 0) (j := i) h1.1 (by omega) (by omega) (by omega) (h1.2.1 i (by omega)) (q_aload_n rfl (q_aload_n rfl (q_iload rfl (q_aald (t := 0) (j := i) h3.1 (by omega) (by omega) (by omega) (h3.2.1 i (by omega)) hrr)))))))) ?_
      obtain ⟨_, mm2, pp3, hV4, rfl, rfl, hF4, hv4⟩ := c_X6_rowBySquare (S := S) (fz := fz) (m := m1) (p := p) (d := d) (by omega) (n) (A i) (q2) (T i) (B) (by omega) ((h1.2.2 i (by omega))) h2 ((h3.2.2 i (by omega))) (by omega) (by omega) (by have := hT i (by omega); have := hA i (by omega); omega) (fun k hk => by have := hT i (by omega); have := hB k (by omega); omega)
      refine rw_of (fun rr hrr => q_invS hV4 rfl rfl (okar_cons rfl (okar_cons rfl (okar_cons rfl (okar_cons rfl okar_nil)))) (Nat.le_of_ble_eq_true rfl) (q_iinc rfl rfl (q_goto (t := 3) rfl hrr))) ?_
      have hA5 : Fr (fun a_ => lo ≤ a_ ∧ a_ < hi) m mm2 ∧ ∀ k, k < (i + 1) → ∀ j, j < n → mm2 (T k) j = dot n (m (A k)) (fun l => m (B l) j) := by
        refine rows_w (n := 8) (PP := fun k f => ∀ j, j < n → f j = dot n (m (A k)) (fun l => m (B l) j)) hF4 (by omega) hinj hv hF (fun j hj => ?_) hT
        rw [hv4 j, if_pos hj]
        exact dot_congr (fun _ _ => by rw [hF (A i) (by have := hA i (by omega); omega)]) (fun k hk => by rw [hF (B k) (by have := hB k (by omega); omega)])
      exact rw_cast (ih3 (by omega) mm2 hA5) (lcons rfl (lcons rfl (lcons rfl (lcons rfl (lcons (lvI (by omega)) rfl))))) rfl
  exact rw_cast (hL3 0 (by omega) m (by exact ⟨Fr_rfl, fun k hk => absurd hk (Nat.not_lt_zero k)⟩)) (lcons rfl (lcons rfl (lcons rfl (lcons rfl (lcons (lvI (by omega)) rfl))))) rfl
