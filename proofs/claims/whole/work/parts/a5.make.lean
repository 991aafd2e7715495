/-! WHAT changes, side by side. -/
theorem serA_cg {n n2 : Nat} {A1 A1' A2 A2' : Nat → Nat → F} {b b' c c' : Nat → F} (h1 : ∀ i, i < n → ∀ j, j < n → A1 i j = A1' i j) (hb : ∀ i, i < n2 → b i = b' i) (hc : ∀ i, i < n → c i = c' i) (h2 : ∀ i, i < n2 → ∀ j, j < n2 → A2 i j = A2' i j) (r : Nat) (hr : r < n + n2) (z : Nat) (hz : z < n + n2) : serA n A1 b c A2 r z = serA n A1' b' c' A2' r z := by
  unfold serA
  by_cases q : r < n
  · rw [if_pos q, if_pos q]
    by_cases q2 : z < n
    · rw [if_pos q2, if_pos q2, h1 r q z q2]
    · rw [if_neg q2, if_neg q2]
  · rw [if_neg q, if_neg q]
    by_cases q2 : z < n
    · rw [if_pos q2, if_pos q2, hb _ (by omega), hc z q2]
    · rw [if_neg q2, if_neg q2, h2 _ (by omega) _ (by omega)]
theorem sidA_cg {n n2 : Nat} {A1 A1' A2 A2' : Nat → Nat → F} (h1 : ∀ i, i < n → ∀ j, j < n → A1 i j = A1' i j) (h2 : ∀ i, i < n2 → ∀ j, j < n2 → A2 i j = A2' i j) (r : Nat) (hr : r < n + n2) (z : Nat) (hz : z < n + n2) : sidA n A1 A2 r z = sidA n A1' A2' r z := by
  unfold sidA
  by_cases q : r < n
  · rw [if_pos q, if_pos q]
    by_cases q2 : z < n
    · rw [if_pos q2, if_pos q2, h1 r q z q2]
    · rw [if_neg q2, if_neg q2]
  · rw [if_neg q, if_neg q]
    by_cases q2 : z < n
    · rw [if_pos q2, if_pos q2]
    · rw [if_neg q2, if_neg q2, h2 _ (by omega) _ (by omega)]
theorem twob_cg {n n2 : Nat} {x x' y y' : F} {b b' c c' : Nat → F} (hx : x = x') (hy : y = y') (hb : ∀ i, i < n → b i = b' i) (hc : ∀ i, i < n2 → c i = c' i) (r : Nat) (hr : r < n + n2) : twob n x b y c r = twob n x' b' y' c' r := by
  unfold twob
  by_cases q : r < n
  · rw [if_pos q, if_pos q, hx, hb r q]
  · rw [if_neg q, if_neg q, hy, hc _ (by omega)]
theorem obA_cg {n : Nat} {A A' : Nat → Nat → F} {b b' c c' k k' l l' : Nat → F} (hA : ∀ i, i < n → ∀ j, j < n → A i j = A' i j) (hb : ∀ i, i < n → b i = b' i) (hc : ∀ i, i < n → c i = c' i) (hk : ∀ i, i < n → k i = k' i) (hl : ∀ i, i < n → l i = l' i) (r : Nat) (hr : r < 2 * n) (z : Nat) (hz : z < 2 * n) : obA n A b c k l r z = obA n A' b' c' k' l' r z := by
  unfold obA
  by_cases q : r < n
  · rw [if_pos q, if_pos q]
    by_cases q2 : z < n
    · rw [if_pos q2, if_pos q2, hA r q z q2]
    · rw [if_neg q2, if_neg q2, hb r q, hk _ (by omega)]
  · rw [if_neg q, if_neg q]
    by_cases q2 : z < n
    · rw [if_pos q2, if_pos q2, hl _ (by omega), hc z q2]
    · rw [if_neg q2, if_neg q2, hA _ (by omega) _ (by omega), hb _ (by omega), hk _ (by omega), hl _ (by omega), hc _ (by omega)]
/-- a system more, in both -/
theorem RS_new {k cp ci n : Nat} {m m' m1 m2 : M1} {x : F} {X : Nat → Nat → F} {Y Z : Nat → F} {W : F} (h : RS k cp ci m) (hk1 : k < 12) (hn : 1 ≤ n ∧ n ≤ 8) (fC : ∀ a, ¬ ((7 ≤ a ∧ a < 117) ∨ a = 1 ∨ (117 + 12 * k ≤ a ∧ a < 117 + 12 * k + 12)) → m' a = m a) (c1 : m' 1 1 = nF (k + 1)) (c0 : m' (117 + 12 * k) 0 = nF n) (cA : ∀ i, i < n → ∀ j, j < n → m' (117 + 12 * k + 2 + i) j = X i j) (cb : ∀ i, i < n → m' (117 + 12 * k + 10) i = Y i) (cc : ∀ i, i < n → m' (117 + 12 * k + 11) i = Z i) (cd : m' (117 + 12 * k) 4 = W) (e : w1 m' 280 0 x = m1) (hM : MK k n X Y Z W m1 m2) : RX m2 ∧ m2 280 0 = x ∧ m2 261 21 = 0 := by
  obtain ⟨k1, k2, k3, k4, k5, k6, k7, k8, k9⟩ := hM
  have e1 : ∀ a, a ≠ 280 → m1 a = m' a := fun a ha => by rw [← e, w1_a ha]
  have g : ∀ a, a < 7 ∨ (117 ≤ a ∧ a < 117 + 12 * k) ∨ (117 + 12 * k + 12 ≤ a ∧ a < 280) → a ≠ 1 → m1 a = m a := fun a ha hb => (e1 a (by omega)).trans (fC a (by omega))
  have g2 : ∀ a, a ≠ 261 → a < 262 ∨ 266 < a → a < 269 → m2 a = m1 a := fun a h1 h2 h3 => k1 a h1 h2 (Or.inl h3)
  have e2 : m2 280 0 = x := by rw [k1 280 (by omega) (by omega) (by omega), ← e, w1_at]
  refine ⟨⟨k + 1, cp, ci, by omega, h.2.1, h.2.2.1, ?_, k4, ?_, ?_, ?_, ?_, ?_, ?_, fun i hi => ?_, fun i hi => ?_, fun s hs => ?_, fun c h1 h2 j => ?_⟩, e2, k3⟩
  · rw [g2 1 (by omega) (by omega) (by omega), e1 1 (by omega)]
    exact c1
  · rw [g2 3 (by omega) (by omega) (by omega), g 3 (by omega) (by omega)]
    exact RS_cp h
  · rw [k2 6 (by omega) (by omega), g 261 (by omega) (by omega)]
    exact RS_cp2 h
  · rw [g2 3 (by omega) (by omega) (by omega), g 3 (by omega) (by omega)]
    exact RS_pm h
  · rw [g2 5 (by omega) (by omega) (by omega), g 5 (by omega) (by omega)]
    exact RS_ci h
  · rw [k2 8 (by omega) (by omega), g 261 (by omega) (by omega)]
    exact RS_ci2 h
  · rw [g2 5 (by omega) (by omega) (by omega), g 5 (by omega) (by omega)]
    exact RS_im h
  · rw [g2 4 (by omega) (by omega) (by omega), g 4 (by omega) (by omega), g2 267 (by omega) (by omega) (by omega), g 267 (by omega) (by omega)]
    exact RS_pv h i hi
  · rw [g2 6 (by omega) (by omega) (by omega), g 6 (by omega) (by omega), g2 268 (by omega) (by omega) (by omega), g 268 (by omega) (by omega)]
    exact RS_iv h i hi
  · by_cases q : s = k
    · subst q
      refine ⟨n, hn.1, hn.2, ?_, k6, fun i hi j hj => ?_, fun i hi => ?_, fun i hi => ?_, ?_⟩
      · rw [g2 _ (by omega) (by omega) (by omega), e1 _ (by omega)]
        exact c0
      · rw [g2 _ (by omega) (by omega) (by omega), e1 _ (by omega), cA i hi j hj, k7 i hi j hj]
      · rw [g2 _ (by omega) (by omega) (by omega), e1 _ (by omega), cb i hi, (k8 i hi).1]
      · rw [g2 _ (by omega) (by omega) (by omega), e1 _ (by omega), cc i hi, (k8 i hi).2]
      · rw [g2 _ (by omega) (by omega) (by omega), e1 _ (by omega), cd, k9]
    · obtain ⟨n', hn'⟩ := RS_sys h (s := s) (by omega)
      refine ⟨n', SR_eq hn' (fun a a1 a2 => ?_) ?_ (fun x hx => ?_) (fun x hx => ?_)⟩
      · rw [g2 a (by omega) (by omega) (by omega), g a (by omega) (by omega)]
      · have h9 := k5.2.2 s (by omega)
        rw [h9.1, h9.2, g 262 (by omega) (by omega), g 266 (by omega) (by omega)]
        exact ⟨rfl, rfl⟩
      · rw [k5.1 _ (by omega), g 263 (by omega) (by omega)]
      · have h9 := k5.2.1 (8 * s + x) (by omega)
        rw [h9.1, h9.2, g 264 (by omega) (by omega), g 265 (by omega) (by omega)]
        exact ⟨rfl, rfl⟩
  · rw [g2 c (by omega) (by omega) (by omega), g c (by omega) (by omega)]
    exact RS_z h c (by omega) h2 j
theorem m1_of {m m' m1 : M1} {x : F} {Y : Nat → Prop} (e : w1 m' 280 0 x = m1) (f : ∀ a, ¬ Y a → m' a = m a) {a : Nat} (ha : a ≠ 280) (hY : ¬ Y a) : m1 a = m a := by rw [← e, w1_a ha]; exact f a hY
theorem sm_system {S : MC} {fz : Bool} {m : M1} {p : M2} {k cp ci : Nat} (hR : RS k cp ci m) (hP : PI p) (a : Int) (ha : rg a) : SM S [.ref 1, .int (iI a), .ref 280] [.ref 261, .int (iI a)] k_L_system k_X10_system fz m p := by
  have hk12 := hR.1
  by_cases h : 1 ≤ a ∧ a ≤ 4
  · obtain ⟨n, rfl, hn5⟩ := nat_of (k := 5) (a := a) (by omega)
    by_cases hk1 : k < 12
    · skip
      refine SM_of (w := 0) (by omega) (lr_system (Q := (fun x9 mC p1 => PI p1 ∧ x9 = nF k ∧ w1 (w1 m (117 + 12 * k) 0 (nF n)) 1 1 (nF (k + 1)) = mC)) (Ct_mono (c_X9_system (d := 10) (S := S) (fz := fz) (m := m) (p := p) (hd := by omega) (n := n) (k := k) (hP := hP) (hk := RS_k hR) (hk12 := hR.1) (hn := by omega) (hk1 := hk1)) (fun v m2 p2 h => ⟨nF k, by rw [h.1, vF_nF (by omega)], h.2.1 ▸ hP, rfl, h.2.2⟩))) (fun fz1 m1 p1 hq => ?_)
      obtain ⟨x9, mC, e9, hP1, hx9, eC⟩ := hq
      have fC : ∀ a, ¬ ((7 ≤ a ∧ a < 117) ∨ a = 1 ∨ (117 + 12 * k ≤ a ∧ a < 117 + 12 * k + 12)) → mC a = m a := fun a ha => by rw [← eC, w1_a (by omega), w1_a (by omega)]
      have hk9 : m1 261 0 = nF k := by rw [m1_of e9 fC (a := 261) (by omega) (by omega)]; exact RS_k2 hR
      have z0 := RS_z hR
      refine ⟨hP1, Ct_mono (c_X10_system1 (d := 11) (S := S) (fz := fz1) (m := m1) (p := p1) (hd := by omega) (n := n) (k := k) (hP := hP1) (hk := hk9) (hk12 := hR.1) (hk1 := hk1) (hn := by omega)) (fun v m2 p2 h => ?_)⟩
      obtain ⟨hv, hp2, hM⟩ := h
      
      have h9 := RS_new hR hk1 (n := n) (by omega) fC (by rw [← eC, w1_at]) (by rw [← eC, w1_a (by omega), w1_at]) (fun i hi j hj => by rw [← eC, w1_a (by omega), w1_a (by omega)]; exact z0 _ (by omega) (by omega) j) (fun i hi => by rw [← eC, w1_a (by omega), w1_a (by omega)]; exact z0 _ (by omega) (by omega) i) (fun i hi => by rw [← eC, w1_a (by omega), w1_a (by omega)]; exact z0 _ (by omega) (by omega) i) (by rw [← eC, w1_a (by omega), w1_ne (by omega)]; exact z0 _ (by omega) (by omega) 4) e9 hM
      exact ⟨⟨_, hv, rg_nat (by omega), fun _ => by rw [h9.2.1, hx9, vF_nF (by omega)]⟩, hp2, h9.2.2, h9.1⟩
    · skip
      exact SM_t (w := 2) hR (by omega) (by omega) (lt_system_2 (Tx_same hP (t_X9_systemF (d := 10) (S := S) (fz := fz) (m := m) (p := p) (hd := by omega) (n := n) (k := k) (hP := hP) (hk := RS_k hR) (hk12 := hR.1) (hn := by omega) (hk1 := by omega)))) (fun fz1 m1 p1 hP1 f hR1 => by
        exact (c_X10_systemF (d := 11) (S := S) (fz := fz1) (m := m1) (p := p1) (hd := by omega) (n := n) (k := k) (hP := hP1) (hk := RS_k2 hR1) (hk12 := hR.1) (hk1 := by omega) (hn := by omega)))
  · skip
    exact SM_t (w := 1) hR (by omega) (by omega) (lt_system_1 (Tx_same hP (t_X9_system (d := 10) (S := S) (fz := fz) (m := m) (p := p) (hd := by omega) (x := a) (k := k) (hP := hP) (hk := RS_k hR) (hk12 := hR.1) (hr := ha) (h := by omega)))) (fun fz1 m1 p1 hP1 f hR1 => by
      exact (c_X10_systemN (d := 11) (S := S) (fz := fz1) (m := m1) (p := p1) (hd := by omega) (x := a) (k := k) (hP := hP1) (hk := RS_k2 hR1) (hk12 := hR.1) (hr := ha) (h := by omega)))
