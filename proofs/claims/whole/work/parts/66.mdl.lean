theorem els_zero {n : Nat} {A : Nat → Nat → F} (j : Nat) : j ≤ n → ∀ i, (els n A j).2 ≤ i → i < n → ∀ c, c < j → (els n A j).1 i c = 0 := by
  induction j with
  | zero => intro _ i _ _ c hc; omega
  | succ j ih =>
    intro hj i hi hn c hc
    have ih := ih (by omega)
    have hle := els_le (n := n) (A := A) j (by omega)
    have hff := ff_is (f := fun i => (els n A j).1 i j) (n := n) (r := (els n A j).2) (by omega)
    revert hi
    show (el n (els n A j) j).2 ≤ i → (el n (els n A j) j).1 i c = 0
    by_cases q : ff (fun i => (els n A j).1 i j) n (els n A j).2 < n
    · rw [el_some q]
      intro hi
      have hi : (els n A j).2 + 1 ≤ i := hi
      show (if i ≤ (els n A j).2 then _ else _) = 0
      rw [if_neg (by omega)]
      have hs : ∀ z, (els n A j).2 ≤ z → z < n → ∀ c, c < j → swA (els n A j).1 (els n A j).2 (ff (fun i => (els n A j).1 i j) n (els n A j).2) z c = 0 := fun z h1 h2 c hc => by
        unfold swA
        split
        · exact ih _ (Nat.le_refl _) (by omega) c hc
        · split
          · exact ih _ hff.1 q c hc
          · exact ih z h1 h2 c hc
      by_cases e : c = j
      · subst e
        have hp : swA (els n A c).1 (els n A c).2 (ff (fun i => (els n A c).1 i c) n (els n A c).2) (els n A c).2 c ≠ 0 := by
          unfold swA
          split
          · rename_i h
            rw [h]
            exact hff.2.2.1 q
          · rw [if_pos rfl]
            exact hff.2.2.1 q
        have h1 := iv_l hp
        grind
      · rw [hs i (by omega) hn c (by omega), hs (els n A j).2 (Nat.le_refl _) (by omega) c (by omega)]
        grind
    · rw [el_none q]
      intro hi
      by_cases e : c = j
      · subst e
        exact hff.2.2.2 i hi (by have := hff.2.1; omega)
      · exact ih i hi hn c (by omega)
def MI (n : Nat) (A : Nat → Nat → F) (j r : Nat) (m1 : M1) : Prop := r = (els n A j).2 ∧ ∀ i, r ≤ i → i < n → ∀ c, c < n → m1 271 (8 * i + c) = (els n A j).1 i c
theorem MI_skip {n j r k : Nat} {A : Nat → Nat → F} {m1 : M1} (h : MI n A j r m1) (hj : j < n) (hk : IsF (fun i => m1 271 (8 * i + j)) n r k) (hn : ¬ k < n) : MI n A (j + 1) r m1 := by
  obtain ⟨h1, h2⟩ := h
  subst h1
  have hle := els_le (n := n) (A := A) j (by omega)
  have he : els n A (j + 1) = els n A j := (gj_el (M := fun i c => m1 271 (8 * i + c)) (by omega) hj h2 hk).2 hn
  exact ⟨by rw [he], by rw [he]; exact h2⟩
theorem MI_step {n j r k : Nat} {A : Nat → Nat → F} {m1 m2 m3 : M1} (h : MI n A j r m1) (hn8 : n ≤ 8) (hj : j < n) (hk : IsF (fun i => m1 271 (8 * i + j)) n r k) (hkn : k < n) (hv2 : ∀ i, i < 8 → ∀ c, c < n → m2 271 (8 * i + c) = swA (fun z w => m1 271 (8 * z + w)) r k i c)
    (hv3 : ∀ i, i < 8 → ∀ c, c < 8 → m3 271 (8 * i + c) = if r < i ∧ i < n ∧ j ≤ c ∧ c < n then m2 271 (8 * i + c) - m2 271 (8 * i + j) * iv (m2 271 (8 * r + j)) * m2 271 (8 * r + c) else m2 271 (8 * i + c)) : MI n A (j + 1) (r + 1) m3 := by
  obtain ⟨h1, h2⟩ := h
  have hle := els_le (n := n) (A := A) j (by omega)
  rw [← h1] at hle
  have hg := (gj_el (g := els n A j) (M := fun i c => m1 271 (8 * i + c)) (by omega) hj (by rw [← h1]; exact h2) (by rw [← h1]; exact hk)).1 hkn
  rw [← h1] at hg
  refine ⟨hg.1.symm, fun i hi hin c hc => ?_⟩
  show _ = (el n (els n A j) j).1 i c
  rw [← hg.2 i hi hin c hc, hv3 i (by omega) c (by omega)]
  unfold gj
  rw [if_neg (by omega : ¬ i = r)]
  by_cases q : j ≤ c
  · rw [if_pos (by omega), hv2 i (by omega) c hc, hv2 i (by omega) j hj, hv2 r (by omega) j hj, hv2 r (by omega) c hc]
    grind
  · have hz : ∀ z, r ≤ z → z < n → swA (fun z w => m1 271 (8 * z + w)) r k z c = 0 := fun z h3 h4 => by
      have h5 : ∀ z, r ≤ z → z < n → m1 271 (8 * z + c) = 0 := fun z h3 h4 => by
        rw [h2 z h3 h4 c hc]
        exact els_zero j (by omega) z (by rw [← h1]; exact h3) h4 c (by omega)
      unfold swA
      split
      · exact h5 r (Nat.le_refl r) (by omega)
      · split
        · exact h5 k hk.1 hkn
        · exact h5 z h3 h4
    rw [if_neg (by omega), hv2 i (by omega) c hc, hz i (by omega) hin, hz r (Nat.le_refl r) (by omega)]
    grind
theorem c_X10_swaps {d : Nat} {S : MC} {fz : Bool} {m : M1} {p : M2} (hd : 1 ≤ d) (a b n : Nat) (hP : PI p) (hn : n ≤ 8) (ha : a < n) (hb : b < n) : Ct d k_X10_swaps S fz [.ref (261), .int (iI (((a : Nat) : Int))), .int (iI (((b : Nat) : Int))), .int (iI (((n : Nat) : Int)))] m p (fun v m' p' => v = none ∧ p = p' ∧ Fr (fun a_ => a_ = 271) m m' ∧ ∀ i, i < 8 → ∀ c, c < n → m' 271 (8 * i + c) = swA (fun z w => m 271 (8 * z + w)) a b i c) := by
  obtain ⟨d, rfl⟩ : ∃ e, d = e + 1 := ⟨d - 1, by omega⟩
  refine ct_go (lv := [some (.ref (261)), some (.int (iI (((a : Nat) : Int)))), some (.int (iI (((b : Nat) : Int)))), some (.int (iI (((n : Nat) : Int)))), none, none]) (Nat.le_of_ble_eq_true rfl) (okar_cons rfl (okar_cons rfl (okar_cons rfl (okar_cons rfl okar_nil)))) rfl (fun Qr hQ => ?_)
  refine rw_blk lk_X10_swaps_0 ?_
  refine rw_of (fun rr hrr => q_iconst (q_istore (Nat.le_of_ble_eq_true rfl) rfl hrr)) ?_
  have hL3 : ∀ k, k ≤ n → ∀ (m1 : M1) (x3_5 : Option Value), (Fr (fun a_ => a_ = 271) m m1 ∧ ∀ i, i < 8 → ∀ c, c < 8 → m1 271 (8 * i + c) = if c < k then swA (fun z w => m 271 (8 * z + w)) a b i c else m 271 (8 * i + c)) → Rw (Ev d) k_X10_swaps (3, [], [some (.ref (261)), some (.int (iI (((a : Nat) : Int)))), some (.int (iI (((b : Nat) : Int)))), some (.int (iI (((n : Nat) : Int)))), some (.int (iI (((k : Nat) : Int)))), x3_5], [], hpM S fz (m1, p), 0, 0) Qr := by
    refine loop_any (fun k hi3 ih3 => ?_)
    intro m1 x3_5
    intro hI3
    obtain ⟨hF, hv⟩ := hI3
    refine rw_blk lk_X10_swaps_3 ?_
    refine rw_of (fun rr hrr => q_iload rfl (q_iload_n rfl hrr)) ?_
    refine rw_icmp_ge ⟨by omega, by omega⟩ ⟨by omega, by omega⟩ (t := 67) rfl (fun hc1 => ?_) (fun hc1 => ?_)
    · skip
      refine rw_blk lk_X10_swaps_67 ?_
      refine rw_ret hQ (q_return) ?_
      have e9 : n = k := (by omega)
      subst e9
      exact ⟨rfl, rfl, hF, fun i hi c hc => (hv i hi c (by omega)).trans (if_pos hc)⟩
      
    · skip
      refine rw_of (fun rr hrr => q_aload_n rfl (q_getR (show SH 261 = (18, 0) from rfl) rfl (pt_261_12 hP) (q_bipush rfl (q_iload_n rfl (q_imul (q_iload rfl (q_iadd (q_iald (j := 8 * a + k) (show SH 271 = (1, 64) from rfl) (by omega) (by omega) rfl (q_istore (Nat.le_of_ble_eq_true rfl) rfl (q_aload_n rfl (q_getR (show SH 261 = (18, 0) from rfl) rfl (pt_261_12 hP) (q_bipush rfl (q_iload_n rfl (q_imul (q_iload rfl (q_iadd (q_aload_n rfl (q_getR (show SH 261 = (18, 0) from rfl) rfl (pt_261_12 hP) (q_bipush rfl (q_iload_n rfl (q_imul (q_iload rfl (q_iadd (q_iald (j := 8 * b + k) (show SH 271 = (1, 64) from rfl) (by omega) (by omega) rfl (q_iast (j := 8 * a + k) (xx := m1 271 (8 * b + k)) (show SH 271 = (1, 64) from rfl) (by omega) (by omega) rfl hrr))))))))))))))))))))))))) ?_
      generalize hm3 : w1 m1 271 (8 * a + k) (m1 271 (8 * b + k)) = mm2
      refine rw_of (fun rr hrr => q_aload_n rfl (q_getR (show SH 261 = (18, 0) from rfl) rfl (pt_261_12 hP) (q_bipush rfl (q_iload_n rfl (q_imul (q_iload rfl (q_iadd (q_iload rfl (q_iast (j := 8 * b + k) (xx := m1 271 (8 * a + k)) (show SH 271 = (1, 64) from rfl) (by omega) (by omega) rfl hrr))))))))) ?_
      generalize hm5 : w1 mm2 271 (8 * b + k) (m1 271 (8 * a + k)) = mm4
      refine rw_of (fun rr hrr => q_iinc rfl rfl (q_goto (t := 3) rfl hrr)) ?_
      have hA6 : Fr (fun a_ => a_ = 271) m mm4 ∧ ∀ i, i < 8 → ∀ c, c < 8 → mm4 271 (8 * i + c) = if c < (k + 1) then swA (fun z w => m 271 (8 * z + w)) a b i c else m 271 (8 * i + c) := by
        refine ⟨fr_w hm5 (fr_w hm3 hF rfl) rfl, fun i hi c hc => ?_⟩
        rw [← hm5, ← hm3]
        by_cases e : c = k
        · rw [e, if_pos (by omega)]
          unfold swA
          by_cases q1 : i = b
          · rw [q1, w1_at, if_pos rfl, hv a (by omega) k (by omega), if_neg (by omega)]
          · rw [w1_ne (by omega), if_neg q1]
            by_cases q2 : i = a
            · rw [q2, w1_at, if_pos rfl, hv b (by omega) k (by omega), if_neg (by omega)]
            · rw [w1_ne (by omega), if_neg q2, hv i hi k (by omega), if_neg (by omega)]
        · rw [w1_ne (by omega), w1_ne (by omega), hv i hi c hc]
          by_cases q : c < k
          · rw [if_pos q, if_pos (by omega)]
          · rw [if_neg q, if_neg (by omega)]
      exact rw_cast (ih3 (by omega) mm4 (some (.int (iI (vF (m1 271 (8 * a + k)))))) hA6) (lcons rfl (lcons rfl (lcons rfl (lcons rfl (lcons (lvI (by omega)) (lcons rfl rfl)))))) rfl
  exact rw_cast (hL3 0 (by omega) m none (by exact ⟨Fr_rfl, fun i hi c hc => (if_neg (Nat.not_lt_zero c)).symm⟩)) (lcons rfl (lcons rfl (lcons rfl (lcons rfl (lcons (lvI (by omega)) (lcons rfl rfl)))))) rfl
theorem c_X10_clears {d : Nat} {S : MC} {fz : Bool} {m : M1} {p : M2} (hd : 3 ≤ d) (r j n : Nat) (hP : PI p) (hn : n ≤ 8) (hr : r < n) (hj : j < n) : Ct d k_X10_clears S fz [.ref (261), .int (iI (((r : Nat) : Int))), .int (iI (((j : Nat) : Int))), .int (iI (((n : Nat) : Int)))] m p (fun v m' p' => v = none ∧ p = p' ∧ Fr (fun a_ => a_ = 271) m m' ∧ ∀ i, i < 8 → ∀ c, c < 8 → m' 271 (8 * i + c) = if r < i ∧ i < n ∧ j ≤ c ∧ c < n then m 271 (8 * i + c) - m 271 (8 * i + j) * iv (m 271 (8 * r + j)) * m 271 (8 * r + c) else m 271 (8 * i + c)) := by
  obtain ⟨d, rfl⟩ : ∃ e, d = e + 1 := ⟨d - 1, by omega⟩
  refine ct_go (lv := [some (.ref (261)), some (.int (iI (((r : Nat) : Int)))), some (.int (iI (((j : Nat) : Int)))), some (.int (iI (((n : Nat) : Int)))), none, none, none, none]) (Nat.le_of_ble_eq_true rfl) (okar_cons rfl (okar_cons rfl (okar_cons rfl (okar_cons rfl okar_nil)))) rfl (fun Qr hQ => ?_)
  refine rw_blk lk_X10_clears_0 ?_
  refine rw_of (fun rr hrr => q_aload_n rfl (q_getR (show SH 261 = (18, 0) from rfl) rfl (pt_261_12 hP) (q_bipush rfl (q_iload_n rfl (q_imul (q_iload_n rfl (q_iadd (q_iald (j := 8 * r + j) (show SH 271 = (1, 64) from rfl) (by omega) (by omega) rfl hrr)))))))) ?_
  obtain ⟨_, mm1, pp2, hV3, rfl, rfl, rfl⟩ := c_X10_inverse (S := S) (fz := fz) (m := m) (p := p) (d := d) (by omega) (m 271 (8 * r + j))
  refine rw_of (fun rr hrr => q_invS hV3 rfl rfl (okar_cons rfl okar_nil) (Nat.le_of_ble_eq_true rfl) (q_istore (Nat.le_of_ble_eq_true rfl) rfl (q_iload_n rfl (q_iconst (q_iadd (q_istore (Nat.le_of_ble_eq_true rfl) rfl hrr)))))) ?_
  have hL21 : ∀ t, t ≤ n - r - 1 → ∀ (m1 : M1) (x21_6 : Option Value) (x21_7 : Option Value), (Fr (fun a_ => a_ = 271) m m1 ∧ ∀ i, i < 8 → ∀ c, c < 8 → m1 271 (8 * i + c) = if r < i ∧ i < r + 1 + t ∧ j ≤ c ∧ c < n then m 271 (8 * i + c) - m 271 (8 * i + j) * iv (m 271 (8 * r + j)) * m 271 (8 * r + c) else m 271 (8 * i + c)) → Rw (Ev d) k_X10_clears (21, [], [some (.ref (261)), some (.int (iI (((r : Nat) : Int)))), some (.int (iI (((j : Nat) : Int)))), some (.int (iI (((n : Nat) : Int)))), some (.int (iI (vF (iv (m 271 (8 * r + j)))))), some (.int (iI (((r + 1 + t : Nat) : Int)))), x21_6, x21_7], [], hpM S fz (m1, p), 0, 0) Qr := by
    refine loop_any (fun t hi21 ih21 => ?_)
    intro m1 x21_6 x21_7
    intro hI21
    obtain ⟨hF, hv⟩ := hI21
    refine rw_blk lk_X10_clears_21 ?_
    refine rw_of (fun rr hrr => q_iload rfl (q_iload_n rfl hrr)) ?_
    refine rw_icmp_ge ⟨by omega, by omega⟩ ⟨by omega, by omega⟩ (t := 114) rfl (fun hc4 => ?_) (fun hc4 => ?_)
    · skip
      refine rw_blk lk_X10_clears_114 ?_
      refine rw_ret hQ (q_return) ?_
      
      refine ⟨rfl, rfl, hF, fun i hi c hc => ?_⟩
      rw [hv i hi c hc]
      by_cases q : r < i ∧ i < n ∧ j ≤ c ∧ c < n
      · rw [if_pos q, if_pos (by omega)]
      · rw [if_neg q, if_neg (by omega)]
      
    · skip
      refine rw_of (fun rr hrr => q_aload_n rfl (q_getR (show SH 261 = (18, 0) from rfl) rfl (pt_261_12 hP) (q_bipush rfl (q_iload rfl (q_imul (q_iload_n rfl (q_iadd (q_iald (j := 8 * (r + 1 + t) + j) (show SH 271 = (1, 64) from rfl) (by omega) (by omega) rfl (q_iload rfl hrr))))))))) ?_
      obtain ⟨_, mm5, pp6, hV7, rfl, rfl, rfl⟩ := c_X10_times (S := S) (fz := fz) (m := m1) (p := p) (d := d) (by omega) (m1 271 (8 * (r + 1 + t) + j)) (iv (m 271 (8 * r + j)))
      refine rw_of (fun rr hrr => q_invS hV7 rfl rfl (okar_cons rfl (okar_cons rfl okar_nil)) (Nat.le_of_ble_eq_true rfl) (q_istore (Nat.le_of_ble_eq_true rfl) rfl (q_iload_n rfl (q_istore (Nat.le_of_ble_eq_true rfl) rfl hrr)))) ?_
      have hL49 : ∀ u, u ≤ n - j → ∀ (m2 : M1), (Fr (fun a_ => a_ = 271) m1 m2 ∧ ∀ i, i < 8 → ∀ c, c < 8 → m2 271 (8 * i + c) = if i = r + 1 + t ∧ j ≤ c ∧ c < j + u then m1 271 (8 * i + c) - m1 271 (8 * i + j) * iv (m 271 (8 * r + j)) * m1 271 (8 * r + c) else m1 271 (8 * i + c)) → Rw (Ev d) k_X10_clears (49, [], [some (.ref (261)), some (.int (iI (((r : Nat) : Int)))), some (.int (iI (((j : Nat) : Int)))), some (.int (iI (((n : Nat) : Int)))), some (.int (iI (vF (iv (m 271 (8 * r + j)))))), some (.int (iI (((r + 1 + t : Nat) : Int)))), some (.int (iI (vF ((m1 271 (8 * (r + 1 + t) + j)) * (iv (m 271 (8 * r + j))))))), some (.int (iI (((j + u : Nat) : Int))))], [], hpM S fz (m2, p), 0, 0) Qr := by
        refine loop_any (fun u hi49 ih49 => ?_)
        intro m2
        intro hI49
        obtain ⟨hF49, hv49⟩ := hI49
        refine rw_blk lk_X10_clears_49 ?_
        refine rw_of (fun rr hrr => q_iload rfl (q_iload_n rfl hrr)) ?_
        refine rw_icmp_ge ⟨by omega, by omega⟩ ⟨by omega, by omega⟩ (t := 108) rfl (fun hc8 => ?_) (fun hc8 => ?_)
        · skip
          have e49 : j + u = n := (by omega)
          rw [e49] at hv49
          refine rw_blk lk_X10_clears_108 ?_
          refine rw_of (fun rr hrr => q_iinc rfl rfl (q_goto (t := 21) rfl hrr)) ?_
          have hA9 : Fr (fun a_ => a_ = 271) m m2 ∧ ∀ i, i < 8 → ∀ c, c < 8 → m2 271 (8 * i + c) = if r < i ∧ i < r + 1 + (t + 1) ∧ j ≤ c ∧ c < n then m 271 (8 * i + c) - m 271 (8 * i + j) * iv (m 271 (8 * r + j)) * m 271 (8 * r + c) else m 271 (8 * i + c) := by
            refine ⟨Fr_trans hF hF49, fun i hi c hc => ?_⟩
            rw [hv49 i hi c hc]
            by_cases e : i = r + 1 + t
            · rw [e]
              by_cases q : j ≤ c ∧ c < n
              · rw [if_pos (by omega), if_pos (by omega), hv (r + 1 + t) (by omega) c hc, if_neg (by omega), hv (r + 1 + t) (by omega) j (by omega), if_neg (by omega), hv r (by omega) c hc, if_neg (by omega)]
              · rw [if_neg (by omega), if_neg (by omega), hv (r + 1 + t) (by omega) c hc, if_neg (by omega)]
            · rw [if_neg (by omega), hv i hi c hc]
              by_cases q : r < i ∧ i < r + 1 + t ∧ j ≤ c ∧ c < n
              · rw [if_pos q, if_pos (by omega)]
              · rw [if_neg q, if_neg (by omega)]
          exact rw_cast (ih21 (by omega) m2 (some (.int (iI (vF ((m1 271 (8 * (r + 1 + t) + j)) * (iv (m 271 (8 * r + j)))))))) (some (.int (iI (((j + u : Nat) : Int))))) hA9) (lcons rfl (lcons rfl (lcons rfl (lcons rfl (lcons rfl (lcons (lvI (by omega)) (lcons rfl (lcons rfl rfl)))))))) rfl
        · skip
          refine rw_of (fun rr hrr => q_aload_n rfl (q_getR (show SH 261 = (18, 0) from rfl) rfl (pt_261_12 hP) (q_bipush rfl (q_iload rfl (q_imul (q_iload rfl (q_iadd (q_aload_n rfl (q_getR (show SH 261 = (18, 0) from rfl) rfl (pt_261_12 hP) (q_bipush rfl (q_iload rfl (q_imul (q_iload rfl (q_iadd (q_iald (j := 8 * (r + 1 + t) + (j + u)) (show SH 271 = (1, 64) from rfl) (by omega) (by omega) rfl (q_iload rfl (q_aload_n rfl (q_getR (show SH 261 = (18, 0) from rfl) rfl (pt_261_12 hP) (q_bipush rfl (q_iload_n rfl (q_imul (q_iload rfl (q_iadd (q_iald (j := 8 * r + (j + u)) (show SH 271 = (1, 64) from rfl) (by omega) (by omega) rfl hrr)))))))))))))))))))))))) ?_
          obtain ⟨_, mm10, pp11, hV12, rfl, rfl, rfl⟩ := c_X10_times (S := S) (fz := fz) (m := m2) (p := p) (d := d) (by omega) ((m1 271 (8 * (r + 1 + t) + j)) * (iv (m 271 (8 * r + j)))) (m2 271 (8 * r + (j + u)))
          refine rw_of (fun rr hrr => q_invS hV12 rfl rfl (okar_cons rfl (okar_cons rfl okar_nil)) (Nat.le_of_ble_eq_true rfl) (q_isub hrr)) ?_
          obtain ⟨_, mm13, pp14, hV15, rfl, rfl, rfl⟩ := c_X10_rest (S := S) (fz := fz) (m := m2) (p := p) (d := d) (by omega) ((vF (m2 271 (8 * (r + 1 + t) + (j + u))) - vF (((m1 271 (8 * (r + 1 + t) + j)) * (iv (m 271 (8 * r + j)))) * (m2 271 (8 * r + (j + u)))))) (by have := vF_ge (m2 271 (8 * (r + 1 + t) + (j + u))); have := vF_lt (m2 271 (8 * (r + 1 + t) + (j + u))); have := vF_ge (((m1 271 (8 * (r + 1 + t) + j)) * (iv (m 271 (8 * r + j)))) * (m2 271 (8 * r + (j + u)))); have := vF_lt (((m1 271 (8 * (r + 1 + t) + j)) * (iv (m 271 (8 * r + j)))) * (m2 271 (8 * r + (j + u)))); omega)
          refine rw_of (fun rr hrr => q_invS hV15 rfl rfl (okar_cons rfl okar_nil) (Nat.le_of_ble_eq_true rfl) (q_iast (j := 8 * (r + 1 + t) + (j + u)) (xx := toF ((vF (m2 271 (8 * (r + 1 + t) + (j + u))) - vF (((m1 271 (8 * (r + 1 + t) + j)) * (iv (m 271 (8 * r + j)))) * (m2 271 (8 * r + (j + u))))))) (show SH 271 = (1, 64) from rfl) (by omega) (by omega) rfl hrr)) ?_
          generalize hm17 : w1 m2 271 (8 * (r + 1 + t) + (j + u)) (toF ((vF (m2 271 (8 * (r + 1 + t) + (j + u))) - vF (((m1 271 (8 * (r + 1 + t) + j)) * (iv (m 271 (8 * r + j)))) * (m2 271 (8 * r + (j + u))))))) = mm16
          refine rw_of (fun rr hrr => q_iinc rfl rfl (q_goto (t := 49) rfl hrr)) ?_
          have hA18 : Fr (fun a_ => a_ = 271) m1 mm16 ∧ ∀ i, i < 8 → ∀ c, c < 8 → mm16 271 (8 * i + c) = if i = r + 1 + t ∧ j ≤ c ∧ c < j + (u + 1) then m1 271 (8 * i + c) - m1 271 (8 * i + j) * iv (m 271 (8 * r + j)) * m1 271 (8 * r + c) else m1 271 (8 * i + c) := by
            refine ⟨fr_w hm17 hF49 rfl, fun i hi c hc => ?_⟩
            rw [← hm17]
            by_cases e : i = r + 1 + t ∧ c = j + u
            · obtain ⟨e1, e2⟩ := e
              subst e1
              subst e2
              rw [w1_at, if_pos (by omega), hv49 (r + 1 + t) hi (j + u) hc, if_neg (by omega), hv49 r (by omega) (j + u) hc, if_neg (by omega)]
              simp only [toF_sub, toF_vF]
            · rw [w1_ne (by omega), hv49 i hi c hc]
              by_cases q : i = r + 1 + t ∧ j ≤ c ∧ c < j + u
              · rw [if_pos q, if_pos (by omega)]
              · rw [if_neg q, if_neg (by omega)]
          exact rw_cast (ih49 (by omega) mm16 hA18) (lcons rfl (lcons rfl (lcons rfl (lcons rfl (lcons rfl (lcons rfl (lcons rfl (lcons (lvI (by omega)) rfl)))))))) rfl
      exact rw_cast (hL49 0 (by omega) m1 (by exact ⟨Fr_rfl, fun i hi c hc => (if_neg (by omega)).symm⟩)) (lcons rfl (lcons rfl (lcons rfl (lcons rfl (lcons rfl (lcons rfl (lcons rfl (lcons (lvI (by omega)) rfl)))))))) rfl
  exact rw_cast (hL21 0 (by omega) m none none (by exact ⟨Fr_rfl, fun i hi c hc => (if_neg (by omega)).symm⟩)) (lcons rfl (lcons rfl (lcons rfl (lcons rfl (lcons rfl (lcons (lvI (by omega)) (lcons rfl (lcons rfl rfl)))))))) rfl
theorem c_X10_rankOf {d : Nat} {S : MC} {fz : Bool} {m : M1} {p : M2} (hd : 4 ≤ d) (n : Nat) (hP : PI p) (hn : n ≤ 8) (hn0 : 1 ≤ n) : Ct d k_X10_rankOf S fz [.ref (261), .int (iI (((n : Nat) : Int)))] m p (fun v m' p' => v = some (.int (iI ((rk n (fun z w => m 271 (8 * z + w)) : Nat) : Int))) ∧ p = p' ∧ Fr (fun a_ => a_ = 271) m m') := by
  obtain ⟨d, rfl⟩ : ∃ e, d = e + 1 := ⟨d - 1, by omega⟩
  refine ct_go (lv := [some (.ref (261)), some (.int (iI (((n : Nat) : Int)))), none, none, none]) (Nat.le_of_ble_eq_true rfl) (okar_cons rfl (okar_cons rfl okar_nil)) rfl (fun Qr hQ => ?_)
  refine rw_blk lk_X10_rankOf_0 ?_
  refine rw_of (fun rr hrr => q_iconst (q_istore_n (Nat.le_of_ble_eq_true rfl) rfl (q_iconst (q_istore_n (Nat.le_of_ble_eq_true rfl) rfl hrr)))) ?_
  have hL4 : ∀ j, j ≤ n → ∀ (m1 : M1) (r : Nat) (x4_4 : Option Value), (Fr (fun a_ => a_ = 271) m m1 ∧ MI n (fun z w => m 271 (8 * z + w)) j r m1) → Rw (Ev d) k_X10_rankOf (4, [], [some (.ref (261)), some (.int (iI (((n : Nat) : Int)))), some (.int (iI (((r : Nat) : Int)))), some (.int (iI (((j : Nat) : Int)))), x4_4], [], hpM S fz (m1, p), 0, 0) Qr := by
    refine loop_any (fun j hi4 ih4 => ?_)
    intro m1 r x4_4
    intro hI4
    obtain ⟨hF, hM⟩ := hI4
    have hrj : r ≤ j := hM.1 ▸ els_le j hi4
    refine rw_blk lk_X10_rankOf_4 ?_
    refine rw_of (fun rr hrr => q_iload_n rfl (q_iload_n rfl hrr)) ?_
    refine rw_icmp_ge ⟨by omega, by omega⟩ ⟨by omega, by omega⟩ (t := 69) rfl (fun hc1 => ?_) (fun hc1 => ?_)
    · skip
      refine rw_blk lk_X10_rankOf_69 ?_
      refine rw_of (fun rr hrr => q_iload_n rfl hrr) ?_
      refine rw_ret hQ (q_ireturn (Or.inl rfl)) ?_
      have e9 : n = j := (by omega)
      subst e9
      exact ⟨by rw [hM.1]; rfl, rfl, hF⟩
      
    · skip
      refine rw_of (fun rr hrr => q_iload_n rfl (q_istore (Nat.le_of_ble_eq_true rfl) rfl hrr)) ?_
      have hL12 : ∀ t, t ≤ n - r → (∀ i, r ≤ i → i < r + t → m1 271 (8 * i + j) = 0) → Rw (Ev d) k_X10_rankOf (12, [], [some (.ref (261)), some (.int (iI (((n : Nat) : Int)))), some (.int (iI (((r : Nat) : Int)))), some (.int (iI (((j : Nat) : Int)))), some (.int (iI (((r + t : Nat) : Int))))], [], hpM S fz (m1, p), 0, 0) Qr := by
        refine loop_any (fun t hi12 ih12 => ?_)
        intro hz
        refine rw_blk lk_X10_rankOf_12 ?_
        refine rw_of (fun rr hrr => q_iload rfl (q_iload_n rfl hrr)) ?_
        refine rw_icmp_ge ⟨by omega, by omega⟩ ⟨by omega, by omega⟩ (t := 39) rfl (fun hc2 => ?_) (fun hc2 => ?_)
        · skip
          refine rw_blk lk_X10_rankOf_39 ?_
          refine rw_of (fun rr hrr => q_iload rfl (q_iload_n rfl hrr)) ?_
          refine rw_icmp_ge ⟨by omega, by omega⟩ ⟨by omega, by omega⟩ (t := 63) rfl (fun hc3 => ?_) (fun hc3 => ?_)
          · skip
            refine rw_blk lk_X10_rankOf_63 ?_
            refine rw_of (fun rr hrr => q_iinc rfl rfl (q_goto (t := 4) rfl hrr)) ?_
            have hA4 : Fr (fun a_ => a_ = 271) m m1 ∧ MI n (fun z w => m 271 (8 * z + w)) (j + 1) r m1 := by
              first
                | exact ⟨hF, MI_skip (k := r + t) hM (by omega) ⟨by omega, by omega, fun h9 => absurd h9 (by omega), hz⟩ (by omega)⟩
                | exact ⟨Fr_trans hF (Fr_trans sorry_no_X10_swaps.hF sorry_no_X10_clears.hF), MI_step (k := r + t) hM hn (by omega) ⟨by omega, by omega, fun _ => hpv, hz⟩ (by omega) sorry_no_X10_swaps.hv sorry_no_X10_clears.hv⟩
                | (exfalso; omega)
            exact rw_cast (ih4 (by omega) m1 r (some (.int (iI (((r + t : Nat) : Int))))) hA4) (lcons rfl (lcons rfl (lcons rfl (lcons (lvI (by omega)) (lcons rfl rfl))))) rfl
          · skip
            refine rw_of (fun rr hrr => q_aload_n rfl (q_iload_n rfl (q_iload rfl (q_iload_n rfl hrr)))) ?_
            obtain ⟨_, mm5, pp6, hV7, rfl, rfl, hF7, hv7⟩ := c_X10_swaps (S := S) (fz := fz) (m := m1) (p := p) (d := d) (by omega) (r) (r + t) (n) hP (by omega) (by omega) (by omega)
            refine rw_of (fun rr hrr => q_invV hV7 (show SH 261 = (18, 0) from rfl) rfl rfl (okar_cons rfl (okar_cons rfl (okar_cons rfl okar_nil))) (Nat.le_of_ble_eq_true rfl) (q_aload_n rfl (q_iload_n rfl (q_iload_n rfl (q_iload_n rfl hrr))))) ?_
            obtain ⟨_, mm8, pp9, hV10, rfl, rfl, hF10, hv10⟩ := c_X10_clears (S := S) (fz := fz) (m := mm5) (p := p) (d := d) (by omega) (r) (j) (n) hP (by omega) (by omega) (by omega)
            refine rw_of (fun rr hrr => q_invV hV10 (show SH 261 = (18, 0) from rfl) rfl rfl (okar_cons rfl (okar_cons rfl (okar_cons rfl okar_nil))) (Nat.le_of_ble_eq_true rfl) (q_iinc rfl rfl hrr)) ?_
            refine rw_blk lk_X10_rankOf_63 ?_
            refine rw_of (fun rr hrr => q_iinc rfl rfl (q_goto (t := 4) rfl hrr)) ?_
            have hA11 : Fr (fun a_ => a_ = 271) m mm8 ∧ MI n (fun z w => m 271 (8 * z + w)) (j + 1) (r + 1) mm8 := by
              first
                | exact ⟨hF, MI_skip (k := r + t) hM (by omega) ⟨by omega, by omega, fun h9 => absurd h9 (by omega), hz⟩ (by omega)⟩
                | exact ⟨Fr_trans hF (Fr_trans hF7 hF10), MI_step (k := r + t) hM hn (by omega) ⟨by omega, by omega, fun _ => hpv, hz⟩ (by omega) hv7 hv10⟩
                | (exfalso; omega)
            exact rw_cast (ih4 (by omega) mm8 (r + 1) (some (.int (iI (((r + t : Nat) : Int))))) hA11) (lcons rfl (lcons rfl (lcons (lvI (by omega)) (lcons (lvI (by omega)) (lcons rfl rfl))))) rfl
        · skip
          refine rw_of (fun rr hrr => q_aload_n rfl (q_getR (show SH 261 = (18, 0) from rfl) rfl (pt_261_12 hP) (q_bipush rfl (q_iload rfl (q_imul (q_iload_n rfl (q_iadd (q_iald (j := 8 * (r + t) + j) (show SH 271 = (1, 64) from rfl) (by omega) (by omega) rfl hrr)))))))) ?_
          refine rw_if_ne (rg_vF _) (t := 39) rfl (fun hc12 => ?_) (fun hc12 => ?_)
          · skip
            have hpv : m1 271 (8 * (r + t) + j) ≠ 0 := fun z => absurd (vF_eq0.mpr z) hc12
            refine rw_blk lk_X10_rankOf_39 ?_
            refine rw_of (fun rr hrr => q_iload rfl (q_iload_n rfl hrr)) ?_
            refine rw_icmp_ge ⟨by omega, by omega⟩ ⟨by omega, by omega⟩ (t := 63) rfl (fun hc13 => ?_) (fun hc13 => ?_)
            · skip
              refine rw_blk lk_X10_rankOf_63 ?_
              refine rw_of (fun rr hrr => q_iinc rfl rfl (q_goto (t := 4) rfl hrr)) ?_
              have hA14 : Fr (fun a_ => a_ = 271) m m1 ∧ MI n (fun z w => m 271 (8 * z + w)) (j + 1) r m1 := by
                first
                  | exact ⟨hF, MI_skip (k := r + t) hM (by omega) ⟨by omega, by omega, fun h9 => absurd h9 (by omega), hz⟩ (by omega)⟩
                  | exact ⟨Fr_trans hF (Fr_trans sorry_no_X10_swaps.hF sorry_no_X10_clears.hF), MI_step (k := r + t) hM hn (by omega) ⟨by omega, by omega, fun _ => hpv, hz⟩ (by omega) sorry_no_X10_swaps.hv sorry_no_X10_clears.hv⟩
                  | (exfalso; omega)
              exact rw_cast (ih4 (by omega) m1 r (some (.int (iI (((r + t : Nat) : Int))))) hA14) (lcons rfl (lcons rfl (lcons rfl (lcons (lvI (by omega)) (lcons rfl rfl))))) rfl
            · skip
              refine rw_of (fun rr hrr => q_aload_n rfl (q_iload_n rfl (q_iload rfl (q_iload_n rfl hrr)))) ?_
              obtain ⟨_, mm15, pp16, hV17, rfl, rfl, hF17, hv17⟩ := c_X10_swaps (S := S) (fz := fz) (m := m1) (p := p) (d := d) (by omega) (r) (r + t) (n) hP (by omega) (by omega) (by omega)
              refine rw_of (fun rr hrr => q_invV hV17 (show SH 261 = (18, 0) from rfl) rfl rfl (okar_cons rfl (okar_cons rfl (okar_cons rfl okar_nil))) (Nat.le_of_ble_eq_true rfl) (q_aload_n rfl (q_iload_n rfl (q_iload_n rfl (q_iload_n rfl hrr))))) ?_
              obtain ⟨_, mm18, pp19, hV20, rfl, rfl, hF20, hv20⟩ := c_X10_clears (S := S) (fz := fz) (m := mm15) (p := p) (d := d) (by omega) (r) (j) (n) hP (by omega) (by omega) (by omega)
              refine rw_of (fun rr hrr => q_invV hV20 (show SH 261 = (18, 0) from rfl) rfl rfl (okar_cons rfl (okar_cons rfl (okar_cons rfl okar_nil))) (Nat.le_of_ble_eq_true rfl) (q_iinc rfl rfl hrr)) ?_
              refine rw_blk lk_X10_rankOf_63 ?_
              refine rw_of (fun rr hrr => q_iinc rfl rfl (q_goto (t := 4) rfl hrr)) ?_
              have hA21 : Fr (fun a_ => a_ = 271) m mm18 ∧ MI n (fun z w => m 271 (8 * z + w)) (j + 1) (r + 1) mm18 := by
                first
                  | exact ⟨hF, MI_skip (k := r + t) hM (by omega) ⟨by omega, by omega, fun h9 => absurd h9 (by omega), hz⟩ (by omega)⟩
                  | exact ⟨Fr_trans hF (Fr_trans hF17 hF20), MI_step (k := r + t) hM hn (by omega) ⟨by omega, by omega, fun _ => hpv, hz⟩ (by omega) hv17 hv20⟩
                  | (exfalso; omega)
              exact rw_cast (ih4 (by omega) mm18 (r + 1) (some (.int (iI (((r + t : Nat) : Int))))) hA21) (lcons rfl (lcons rfl (lcons (lvI (by omega)) (lcons (lvI (by omega)) (lcons rfl rfl))))) rfl
          · skip
            refine rw_of (fun rr hrr => q_iinc rfl rfl (q_goto (t := 12) rfl hrr)) ?_
            have hA22 : ∀ i, r ≤ i → i < r + (t + 1) → m1 271 (8 * i + j) = 0 := by
              intro i h1 h2
              by_cases q : i = r + t
              · rw [q]
                exact vF_eq0.mp (by assumption)
              · exact hz i h1 (by omega)
            exact rw_cast (ih12 (by omega) hA22) (lcons rfl (lcons rfl (lcons rfl (lcons rfl (lcons (lvI (by omega)) rfl))))) rfl
      exact rw_cast (hL12 0 (by omega) (by intro i h1 h2; omega)) (lcons rfl (lcons rfl (lcons rfl (lcons rfl (lcons (lvI (by omega)) rfl))))) rfl
  exact rw_cast (hL4 0 (by omega) m 0 none (by exact ⟨Fr_rfl, rfl, fun _ _ _ _ _ => rfl⟩)) (lcons rfl (lcons rfl (lcons (lvI (by omega)) (lcons (lvI (by omega)) (lcons rfl rfl))))) rfl
theorem c_X10_rankFor0 {d : Nat} {S : MC} {fz : Bool} {m : M1} {p : M2} (hd : 5 ≤ d) (s n : Nat) (hP : PI p) (hm : m 262 s = nF n) (hn0 : 1 ≤ n) (hn : n ≤ 8) (hs12 : s ≤ 12) : Ct d k_X10_rankFor S fz [.ref (261), .int (iI (((s : Nat) : Int))), .int (iI (0))] m p (fun v m' p' => v = some (.int (iI ((rk n (kr n (fun z w => m 263 (64 * s + 8 * z + w)) (fun z => m 264 (8 * s + z))) : Nat) : Int))) ∧ p = p' ∧ Fr (fun a_ => 271 ≤ a_ ∧ a_ < 274) m m') := by
  obtain ⟨d, rfl⟩ : ∃ e, d = e + 1 := ⟨d - 1, by omega⟩
  refine ct_go (lv := [some (.ref (261)), some (.int (iI (((s : Nat) : Int)))), some (.int (iI (0)))]) (Nat.le_of_ble_eq_true rfl) (okar_cons rfl (okar_cons rfl (okar_cons rfl okar_nil))) rfl (fun Qr hQ => ?_)
  refine rw_blk lk_X10_rankFor_0 ?_
  refine rw_of (fun rr hrr => q_aload_n rfl (q_iload_n rfl (q_iload_n rfl hrr))) ?_
  obtain ⟨_, mm1, pp2, hV3, rfl, rfl, hF3, hv3⟩ := c_X10_powers0 (S := S) (fz := fz) (m := m) (p := p) (d := d) (by omega) (s) (n) hP hm (by omega) (by omega) (by omega)
  refine rw_of (fun rr hrr => q_invV hV3 (show SH 261 = (18, 0) from rfl) rfl rfl (okar_cons rfl (okar_cons rfl okar_nil)) (Nat.le_of_ble_eq_true rfl) (q_aload_n rfl (q_aload_n rfl (q_getR (show SH 261 = (18, 0) from rfl) rfl (pt_261_1 hP) (q_iload_n rfl (q_iald (j := s) (show SH 262 = (1, 13) from rfl) rfl (by omega) (ki (hF3 262 (by show ¬ (271 ≤ 262 ∧ 262 < 274); omega)) hm (by omega)) hrr)))))) ?_
  obtain ⟨_, mm4, pp5, hV6, rfl, rfl, hF6⟩ := c_X10_rankOf (S := S) (fz := fz) (m := mm1) (p := p) (d := d) (by omega) (n) hP (by omega) (by omega)
  refine rw_of (fun rr hrr => q_invV hV6 (show SH 261 = (18, 0) from rfl) rfl rfl (okar_cons rfl okar_nil) (Nat.le_of_ble_eq_true rfl) hrr) ?_
  refine rw_ret hQ (q_ireturn (Or.inl rfl)) ?_
  refine ⟨?_, rfl, Fr_trans hF3 (Fr_mono hF6 (fun a ha => by omega))⟩
  rw [rk_congr (fun i hi c hc => hv3 i hi c hc)]
  
theorem c_X10_rankFor1 {d : Nat} {S : MC} {fz : Bool} {m : M1} {p : M2} (hd : 5 ≤ d) (s n : Nat) (hP : PI p) (hm : m 262 s = nF n) (hn0 : 1 ≤ n) (hn : n ≤ 8) (hs12 : s ≤ 12) : Ct d k_X10_rankFor S fz [.ref (261), .int (iI (((s : Nat) : Int))), .int (iI (1))] m p (fun v m' p' => v = some (.int (iI ((rk n (kr n (fun z w => m 263 (64 * s + 8 * w + z)) (fun z => m 265 (8 * s + z))) : Nat) : Int))) ∧ p = p' ∧ Fr (fun a_ => 271 ≤ a_ ∧ a_ < 274) m m') := by
  obtain ⟨d, rfl⟩ : ∃ e, d = e + 1 := ⟨d - 1, by omega⟩
  refine ct_go (lv := [some (.ref (261)), some (.int (iI (((s : Nat) : Int)))), some (.int (iI (1)))]) (Nat.le_of_ble_eq_true rfl) (okar_cons rfl (okar_cons rfl (okar_cons rfl okar_nil))) rfl (fun Qr hQ => ?_)
  refine rw_blk lk_X10_rankFor_0 ?_
  refine rw_of (fun rr hrr => q_aload_n rfl (q_iload_n rfl (q_iload_n rfl hrr))) ?_
  obtain ⟨_, mm1, pp2, hV3, rfl, rfl, hF3, hv3⟩ := c_X10_powers1 (S := S) (fz := fz) (m := m) (p := p) (d := d) (by omega) (s) (n) hP hm (by omega) (by omega) (by omega)
  refine rw_of (fun rr hrr => q_invV hV3 (show SH 261 = (18, 0) from rfl) rfl rfl (okar_cons rfl (okar_cons rfl okar_nil)) (Nat.le_of_ble_eq_true rfl) (q_aload_n rfl (q_aload_n rfl (q_getR (show SH 261 = (18, 0) from rfl) rfl (pt_261_1 hP) (q_iload_n rfl (q_iald (j := s) (show SH 262 = (1, 13) from rfl) rfl (by omega) (ki (hF3 262 (by show ¬ (271 ≤ 262 ∧ 262 < 274); omega)) hm (by omega)) hrr)))))) ?_
  obtain ⟨_, mm4, pp5, hV6, rfl, rfl, hF6⟩ := c_X10_rankOf (S := S) (fz := fz) (m := mm1) (p := p) (d := d) (by omega) (n) hP (by omega) (by omega)
  refine rw_of (fun rr hrr => q_invV hV6 (show SH 261 = (18, 0) from rfl) rfl rfl (okar_cons rfl okar_nil) (Nat.le_of_ble_eq_true rfl) hrr) ?_
  refine rw_ret hQ (q_ireturn (Or.inl rfl)) ?_
  refine ⟨?_, rfl, Fr_trans hF3 (Fr_mono hF6 (fun a ha => by omega))⟩
  rw [rk_congr (fun i hi c hc => hv3 i hi c hc)]
  
