/-! JOINS, loops, placed and joined systems: side by side. -/
theorem c_loopZ_of {m m1 : M1} {s : Nat} {x : Int} {G : Prop} (f : Fr qf m m1) (hd : m 266 s = m (117 + 12 * s) 4) (h : (1 + toF x * m (117 + 12 * s) 4) = 0) (g : (1 + toF x * m1 266 s) = 0 → G) : G := g (by rw [qf_f f (a := 266) (by omega) (by omega), hd]; exact h)
theorem c_loopF_of {m m1 : M1} {s : Nat} {x : Int} {G : Prop} (f : Fr qf m m1) (hd : m 266 s = m (117 + 12 * s) 4) (h : ¬ (1 + toF x * m (117 + 12 * s) 4) = 0) (g : (1 + toF x * m1 266 s) ≠ 0 → G) : G := g (by rw [qf_f f (a := 266) (by omega) (by omega), hd]; exact h)
theorem sm_join0 {S : MC} {fz : Bool} {m : M1} {p : M2} {k cp ci : Nat} (hR : RS k cp ci m) (hP : PI p) (a b : Int) (ha : rg a) (hb : rg b) : SM S [.ref 1, .int (iI a), .int (iI b), .int (iI 0), .ref 280] [.ref 261, .int (iI a), .int (iI b), .int (iI 0)] k_L_join k_X10_join fz m p := by
  have hk12 := hR.1
  by_cases h : 0 ≤ a ∧ a < k
  · obtain ⟨s, rfl, hsk⟩ := nat_of h
    by_cases h2 : 0 ≤ b ∧ b < k
    · obtain ⟨t, rfl, htk⟩ := nat_of h2
      obtain ⟨n, hS⟩ := RS_sys hR hsk
      obtain ⟨n2, hT⟩ := RS_sys hR htk
      have hnn : 1 ≤ n ∧ n ≤ 8 ∧ 1 ≤ n2 ∧ n2 ≤ 8 := ⟨hS.1, hS.2.1, hT.1, hT.2.1⟩
      by_cases hs8 : n + n2 ≤ 8
      · by_cases hk1 : k < 12
        · skip
          refine SM_of (w := 0) (by omega) (lr_join (Q := (fun x9 m' p' => PI p' ∧ x9 = nF k ∧ (Fr (fun a_ => a_ = 1 ∨ (117 + 12 * k ≤ a_ ∧ a_ < 117 + 12 * k + 12)) m m' ∧ m' 1 1 = nF (k + 1) ∧ m' (117 + 12 * k) 0 = nF (n + n2) ∧ (∀ r, r < n + n2 → ∀ c, c < n + n2 → m' (117 + 12 * k + 2 + r) c = sidA n (fun z => m (117 + 12 * s + 2 + z)) (fun z => m (117 + 12 * t + 2 + z)) r c) ∧ (∀ r, r < n + n2 → m' (117 + 12 * k + 10) r = twob n 1 (m (117 + 12 * s + 10)) 1 (m (117 + 12 * t + 10)) r) ∧ (∀ r, r < n + n2 → m' (117 + 12 * k + 11) r = twob n 1 (m (117 + 12 * s + 11)) 1 (m (117 + 12 * t + 11)) r) ∧ m' (117 + 12 * k) 4 = m (117 + 12 * s) 4 + m (117 + 12 * t) 4))) (Ct_mono (c_X9_join0 (d := 10) (S := S) (fz := fz) (m := m) (p := p) (hd := by omega) (a := s) (b := t) (k := k) (n := n) (n2 := n2) (hP := hP) (hk := RS_k hR) (hk12 := hR.1) (ha := hsk) (hb := htk) (hma := hS.2.2.1) (hmb := hT.2.2.1) (hn := hnn) (hs := hs8) (hk1 := hk1) (hz := fun c h1 h2 j => RS_z hR c h1 (by omega) j)) (fun v m2 p2 h => by
            obtain ⟨h1, h2, h3⟩ := h
            exact ⟨nF k, by rw [h1, vF_nF (by omega)], h2 ▸ hP, rfl, h3⟩))) (fun fz1 m1 p1 hq => ?_)
          obtain ⟨x9, mC, e9, hP1, hx9, fC0, c1, c0, cA, cb, cc, cd⟩ := hq
          have fC : ∀ a, ¬ ((7 ≤ a ∧ a < 117) ∨ a = 1 ∨ (117 + 12 * k ≤ a ∧ a < 117 + 12 * k + 12)) → mC a = m a := fun a ha => fC0 a (fun z => ha (by omega))
          have f261 : m1 261 = m 261 := m1_of e9 fC (a := 261) (by omega) (by omega)
          have f262 : m1 262 = m 262 := m1_of e9 fC (a := 262) (by omega) (by omega)
          have f263 : m1 263 = m 263 := m1_of e9 fC (a := 263) (by omega) (by omega)
          have f264 : m1 264 = m 264 := m1_of e9 fC (a := 264) (by omega) (by omega)
          have f265 : m1 265 = m 265 := m1_of e9 fC (a := 265) (by omega) (by omega)
          have f266 : m1 266 = m 266 := m1_of e9 fC (a := 266) (by omega) (by omega)
          have f267 : m1 267 = m 267 := m1_of e9 fC (a := 267) (by omega) (by omega)
          have hk9 : m1 261 0 = nF k := by rw [f261]; exact RS_k2 hR
          have hAs : ∀ i, i < n → ∀ j, j < n → (fun z => m (117 + 12 * s + 2 + z)) i j = (fun z w => m1 263 (64 * s + 8 * z + w)) i j := fun i hi j hj => by
            show m (117 + 12 * s + 2 + i) j = m1 263 (64 * s + 8 * i + j)
            rw [f263]
            exact (SR_A hS i hi j hj).symm
          have hbs : ∀ i, i < n → m (117 + 12 * s + 10) i = (fun z => m1 264 (8 * s + z)) i := fun i hi => by
            show _ = m1 264 (8 * s + i)
            rw [f264]
            exact (SR_b hS i hi).symm
          have hcs : ∀ i, i < n → m (117 + 12 * s + 11) i = (fun z => m1 265 (8 * s + z)) i := fun i hi => by
            show _ = m1 265 (8 * s + i)
            rw [f265]
            exact (SR_c hS i hi).symm
          have hds : m (117 + 12 * s) 4 = m1 266 s := by
            rw [f266]
            exact (SR_d hS).symm
          have hns : m1 262 s = nF n := by
            rw [f262]
            exact hS.2.2.2.1
          have hAt : ∀ i, i < n2 → ∀ j, j < n2 → (fun z => m (117 + 12 * t + 2 + z)) i j = (fun z w => m1 263 (64 * t + 8 * z + w)) i j := fun i hi j hj => by
            show m (117 + 12 * t + 2 + i) j = m1 263 (64 * t + 8 * i + j)
            rw [f263]
            exact (SR_A hT i hi j hj).symm
          have hbt : ∀ i, i < n2 → m (117 + 12 * t + 10) i = (fun z => m1 264 (8 * t + z)) i := fun i hi => by
            show _ = m1 264 (8 * t + i)
            rw [f264]
            exact (SR_b hT i hi).symm
          have hct : ∀ i, i < n2 → m (117 + 12 * t + 11) i = (fun z => m1 265 (8 * t + z)) i := fun i hi => by
            show _ = m1 265 (8 * t + i)
            rw [f265]
            exact (SR_c hT i hi).symm
          have hdt : m (117 + 12 * t) 4 = m1 266 t := by
            rw [f266]
            exact (SR_d hT).symm
          have hnt : m1 262 t = nF n2 := by
            rw [f262]
            exact hT.2.2.2.1
          refine ⟨hP1, Ct_mono (c_X10_join0 (d := 11) (S := S) (fz := fz1) (m := m1) (p := p1) (hd := by omega) (a := s) (b := t) (k := k) (n := n) (n2 := n2) (hP := hP1) (hk := hk9) (hk12 := hR.1) (ha := hsk) (hb := htk) (hma := hns) (hmb := hnt) (hn := hnn) (hs := hs8) (hk1 := hk1)) (fun v m2 p2 h => ?_)⟩
          obtain ⟨hv, hp2, hM⟩ := h
          have h9 := RS_new hR hk1 (by omega) fC c1 c0 (fun i hi j hj => (cA i hi j hj).trans (sidA_cg hAs hAt i hi j hj)) (fun i hi => (cb i hi).trans (twob_cg rfl rfl hbs hbt i hi)) (fun i hi => (cc i hi).trans (twob_cg rfl rfl hcs hct i hi)) (cd.trans (by rw [hds, hdt])) e9 hM
          exact ⟨⟨_, hv, rg_nat (by omega), fun _ => by rw [h9.2.1, hx9, vF_nF (by omega)]⟩, hp2, h9.2.2, h9.1⟩
        · skip
          exact SM_t (w := 2) hR (by omega) (by omega) (lt_join_2 (Tx_same hP (t_X9_joinF (d := 10) (S := S) (fz := fz) (m := m) (p := p) (hd := by omega) (a := s) (b := t) (k := k) (n := n) (n2 := n2) (x := 0) (hP := hP) (hk := RS_k hR) (hk12 := hR.1) (ha := hsk) (hb := htk) (hma := hS.2.2.1) (hmb := hT.2.2.1) (hn := hnn) (hs := hs8) (hk1 := by omega)))) (fun fz1 m1 p1 hP1 f hR1 => by
            have hm1 := hm1_of f hS
            have hm2 := hm1_of f hT; exact (c_X10_joinF (d := 11) (S := S) (fz := fz1) (m := m1) (p := p1) (hd := by omega) (a := s) (b := t) (k := k) (n := n) (n2 := n2) (x := 0) (hP := hP1) (hk := RS_k2 hR1) (hk12 := hR.1) (ha := hsk) (hb := htk) (hma := hm1) (hmb := hm2) (hn := hnn) (hs := hs8) (hk1 := by omega)))
      · skip
        exact SM_t (w := 2) hR (by omega) (by omega) (lt_join_2 (Tx_same hP (t_X9_joinO (d := 10) (S := S) (fz := fz) (m := m) (p := p) (hd := by omega) (a := s) (b := t) (k := k) (n := n) (n2 := n2) (x := 0) (hP := hP) (hk := RS_k hR) (hk12 := hR.1) (ha := hsk) (hb := htk) (hma := hS.2.2.1) (hmb := hT.2.2.1) (hn := hnn) (hs := by omega)))) (fun fz1 m1 p1 hP1 f hR1 => by
          have hm1 := hm1_of f hS
          have hm2 := hm1_of f hT; exact (c_X10_joinO (d := 11) (S := S) (fz := fz1) (m := m1) (p := p1) (hd := by omega) (a := s) (b := t) (k := k) (n := n) (n2 := n2) (x := 0) (hP := hP1) (hk := RS_k2 hR1) (hk12 := hR.1) (ha := hsk) (hb := htk) (hma := hm1) (hmb := hm2) (hn := hnn) (hs := by omega)))
    · skip
      exact SM_t (w := 1) hR (by omega) (by omega) (lt_join_1 (Tx_same hP (t_X9_joinB (d := 10) (S := S) (fz := fz) (m := m) (p := p) (hd := by omega) (a := s) (s := b) (x := 0) (k := k) (hP := hP) (hk := RS_k hR) (hk12 := hR.1) (ha := hsk) (hs := ⟨hb, h2⟩)))) (fun fz1 m1 p1 hP1 f hR1 => by
        exact (c_X10_joinB (d := 11) (S := S) (fz := fz1) (m := m1) (p := p1) (hd := by omega) (a := s) (b := b) (x := 0) (k := k) (hP := hP1) (hk := RS_k2 hR1) (hk12 := hR.1) (ha := hsk) (hrb := hb) (h := h2)))
  · skip
    exact SM_t (w := 1) hR (by omega) (by omega) (lt_join_1 (Tx_same hP (t_X9_joinA (d := 10) (S := S) (fz := fz) (m := m) (p := p) (hd := by omega) (s := a) (b := b) (x := 0) (k := k) (hP := hP) (hk := RS_k hR) (hk12 := hR.1) (hs := ⟨ha, h⟩)))) (fun fz1 m1 p1 hP1 f hR1 => by
      exact (c_X10_joinA (d := 11) (S := S) (fz := fz1) (m := m1) (p := p1) (hd := by omega) (a := a) (b := b) (x := 0) (k := k) (hP := hP1) (hk := RS_k2 hR1) (hk12 := hR.1) (hra := ha) (h := h)))
theorem sm_join1 {S : MC} {fz : Bool} {m : M1} {p : M2} {k cp ci : Nat} (hR : RS k cp ci m) (hP : PI p) (a b : Int) (ha : rg a) (hb : rg b) : SM S [.ref 1, .int (iI a), .int (iI b), .int (iI 1), .ref 280] [.ref 261, .int (iI a), .int (iI b), .int (iI 1)] k_L_join k_X10_join fz m p := by
  have hk12 := hR.1
  by_cases h : 0 ≤ a ∧ a < k
  · obtain ⟨s, rfl, hsk⟩ := nat_of h
    by_cases h2 : 0 ≤ b ∧ b < k
    · obtain ⟨t, rfl, htk⟩ := nat_of h2
      obtain ⟨n, hS⟩ := RS_sys hR hsk
      obtain ⟨n2, hT⟩ := RS_sys hR htk
      have hnn : 1 ≤ n ∧ n ≤ 8 ∧ 1 ≤ n2 ∧ n2 ≤ 8 := ⟨hS.1, hS.2.1, hT.1, hT.2.1⟩
      by_cases hs8 : n + n2 ≤ 8
      · by_cases hk1 : k < 12
        · skip
          refine SM_of (w := 0) (by omega) (lr_join (Q := (fun x9 m' p' => PI p' ∧ x9 = nF k ∧ (Fr (fun a_ => a_ = 1 ∨ (117 + 12 * k ≤ a_ ∧ a_ < 117 + 12 * k + 12)) m m' ∧ m' 1 1 = nF (k + 1) ∧ m' (117 + 12 * k) 0 = nF (n + n2) ∧ (∀ r, r < n + n2 → ∀ c, c < n + n2 → m' (117 + 12 * k + 2 + r) c = serA n (fun z => m (117 + 12 * s + 2 + z)) (m (117 + 12 * t + 10)) (m (117 + 12 * s + 11)) (fun z => m (117 + 12 * t + 2 + z)) r c) ∧ (∀ r, r < n + n2 → m' (117 + 12 * k + 10) r = twob n 1 (m (117 + 12 * s + 10)) (m (117 + 12 * s) 4) (m (117 + 12 * t + 10)) r) ∧ (∀ r, r < n + n2 → m' (117 + 12 * k + 11) r = twob n (m (117 + 12 * t) 4) (m (117 + 12 * s + 11)) 1 (m (117 + 12 * t + 11)) r) ∧ m' (117 + 12 * k) 4 = m (117 + 12 * t) 4 * m (117 + 12 * s) 4))) (Ct_mono (c_X9_join1 (d := 10) (S := S) (fz := fz) (m := m) (p := p) (hd := by omega) (a := s) (b := t) (k := k) (n := n) (n2 := n2) (x := 1) (hP := hP) (hk := RS_k hR) (hk12 := hR.1) (ha := hsk) (hb := htk) (hma := hS.2.2.1) (hmb := hT.2.2.1) (hn := hnn) (hs := hs8) (hk1 := hk1) (hz := fun c h1 h2 j => RS_z hR c h1 (by omega) j) (hx := ⟨⟨by omega, by omega⟩, by omega⟩)) (fun v m2 p2 h => by
            obtain ⟨h1, h2, h3⟩ := h
            exact ⟨nF k, by rw [h1, vF_nF (by omega)], h2 ▸ hP, rfl, h3⟩))) (fun fz1 m1 p1 hq => ?_)
          obtain ⟨x9, mC, e9, hP1, hx9, fC0, c1, c0, cA, cb, cc, cd⟩ := hq
          have fC : ∀ a, ¬ ((7 ≤ a ∧ a < 117) ∨ a = 1 ∨ (117 + 12 * k ≤ a ∧ a < 117 + 12 * k + 12)) → mC a = m a := fun a ha => fC0 a (fun z => ha (by omega))
          have f261 : m1 261 = m 261 := m1_of e9 fC (a := 261) (by omega) (by omega)
          have f262 : m1 262 = m 262 := m1_of e9 fC (a := 262) (by omega) (by omega)
          have f263 : m1 263 = m 263 := m1_of e9 fC (a := 263) (by omega) (by omega)
          have f264 : m1 264 = m 264 := m1_of e9 fC (a := 264) (by omega) (by omega)
          have f265 : m1 265 = m 265 := m1_of e9 fC (a := 265) (by omega) (by omega)
          have f266 : m1 266 = m 266 := m1_of e9 fC (a := 266) (by omega) (by omega)
          have f267 : m1 267 = m 267 := m1_of e9 fC (a := 267) (by omega) (by omega)
          have hk9 : m1 261 0 = nF k := by rw [f261]; exact RS_k2 hR
          have hAs : ∀ i, i < n → ∀ j, j < n → (fun z => m (117 + 12 * s + 2 + z)) i j = (fun z w => m1 263 (64 * s + 8 * z + w)) i j := fun i hi j hj => by
            show m (117 + 12 * s + 2 + i) j = m1 263 (64 * s + 8 * i + j)
            rw [f263]
            exact (SR_A hS i hi j hj).symm
          have hbs : ∀ i, i < n → m (117 + 12 * s + 10) i = (fun z => m1 264 (8 * s + z)) i := fun i hi => by
            show _ = m1 264 (8 * s + i)
            rw [f264]
            exact (SR_b hS i hi).symm
          have hcs : ∀ i, i < n → m (117 + 12 * s + 11) i = (fun z => m1 265 (8 * s + z)) i := fun i hi => by
            show _ = m1 265 (8 * s + i)
            rw [f265]
            exact (SR_c hS i hi).symm
          have hds : m (117 + 12 * s) 4 = m1 266 s := by
            rw [f266]
            exact (SR_d hS).symm
          have hns : m1 262 s = nF n := by
            rw [f262]
            exact hS.2.2.2.1
          have hAt : ∀ i, i < n2 → ∀ j, j < n2 → (fun z => m (117 + 12 * t + 2 + z)) i j = (fun z w => m1 263 (64 * t + 8 * z + w)) i j := fun i hi j hj => by
            show m (117 + 12 * t + 2 + i) j = m1 263 (64 * t + 8 * i + j)
            rw [f263]
            exact (SR_A hT i hi j hj).symm
          have hbt : ∀ i, i < n2 → m (117 + 12 * t + 10) i = (fun z => m1 264 (8 * t + z)) i := fun i hi => by
            show _ = m1 264 (8 * t + i)
            rw [f264]
            exact (SR_b hT i hi).symm
          have hct : ∀ i, i < n2 → m (117 + 12 * t + 11) i = (fun z => m1 265 (8 * t + z)) i := fun i hi => by
            show _ = m1 265 (8 * t + i)
            rw [f265]
            exact (SR_c hT i hi).symm
          have hdt : m (117 + 12 * t) 4 = m1 266 t := by
            rw [f266]
            exact (SR_d hT).symm
          have hnt : m1 262 t = nF n2 := by
            rw [f262]
            exact hT.2.2.2.1
          refine ⟨hP1, Ct_mono (c_X10_join1 (d := 11) (S := S) (fz := fz1) (m := m1) (p := p1) (hd := by omega) (a := s) (b := t) (k := k) (n := n) (n2 := n2) (hP := hP1) (hk := hk9) (hk12 := hR.1) (ha := hsk) (hb := htk) (hma := hns) (hmb := hnt) (hn := hnn) (hs := hs8) (hk1 := hk1)) (fun v m2 p2 h => ?_)⟩
          obtain ⟨hv, hp2, hM⟩ := h
          have h9 := RS_new hR hk1 (by omega) fC c1 c0 (fun i hi j hj => (cA i hi j hj).trans (serA_cg hAs hbt hcs hAt i hi j hj)) (fun i hi => (cb i hi).trans (twob_cg rfl hds hbs hbt i hi)) (fun i hi => (cc i hi).trans (twob_cg hdt rfl hcs hct i hi)) (cd.trans (by rw [hds, hdt])) e9 hM
          exact ⟨⟨_, hv, rg_nat (by omega), fun _ => by rw [h9.2.1, hx9, vF_nF (by omega)]⟩, hp2, h9.2.2, h9.1⟩
        · skip
          exact SM_t (w := 2) hR (by omega) (by omega) (lt_join_2 (Tx_same hP (t_X9_joinF (d := 10) (S := S) (fz := fz) (m := m) (p := p) (hd := by omega) (a := s) (b := t) (k := k) (n := n) (n2 := n2) (x := 1) (hP := hP) (hk := RS_k hR) (hk12 := hR.1) (ha := hsk) (hb := htk) (hma := hS.2.2.1) (hmb := hT.2.2.1) (hn := hnn) (hs := hs8) (hk1 := by omega)))) (fun fz1 m1 p1 hP1 f hR1 => by
            have hm1 := hm1_of f hS
            have hm2 := hm1_of f hT; exact (c_X10_joinF (d := 11) (S := S) (fz := fz1) (m := m1) (p := p1) (hd := by omega) (a := s) (b := t) (k := k) (n := n) (n2 := n2) (x := 1) (hP := hP1) (hk := RS_k2 hR1) (hk12 := hR.1) (ha := hsk) (hb := htk) (hma := hm1) (hmb := hm2) (hn := hnn) (hs := hs8) (hk1 := by omega)))
      · skip
        exact SM_t (w := 2) hR (by omega) (by omega) (lt_join_2 (Tx_same hP (t_X9_joinO (d := 10) (S := S) (fz := fz) (m := m) (p := p) (hd := by omega) (a := s) (b := t) (k := k) (n := n) (n2 := n2) (x := 1) (hP := hP) (hk := RS_k hR) (hk12 := hR.1) (ha := hsk) (hb := htk) (hma := hS.2.2.1) (hmb := hT.2.2.1) (hn := hnn) (hs := by omega)))) (fun fz1 m1 p1 hP1 f hR1 => by
          have hm1 := hm1_of f hS
          have hm2 := hm1_of f hT; exact (c_X10_joinO (d := 11) (S := S) (fz := fz1) (m := m1) (p := p1) (hd := by omega) (a := s) (b := t) (k := k) (n := n) (n2 := n2) (x := 1) (hP := hP1) (hk := RS_k2 hR1) (hk12 := hR.1) (ha := hsk) (hb := htk) (hma := hm1) (hmb := hm2) (hn := hnn) (hs := by omega)))
    · skip
      exact SM_t (w := 1) hR (by omega) (by omega) (lt_join_1 (Tx_same hP (t_X9_joinB (d := 10) (S := S) (fz := fz) (m := m) (p := p) (hd := by omega) (a := s) (s := b) (x := 1) (k := k) (hP := hP) (hk := RS_k hR) (hk12 := hR.1) (ha := hsk) (hs := ⟨hb, h2⟩)))) (fun fz1 m1 p1 hP1 f hR1 => by
        exact (c_X10_joinB (d := 11) (S := S) (fz := fz1) (m := m1) (p := p1) (hd := by omega) (a := s) (b := b) (x := 1) (k := k) (hP := hP1) (hk := RS_k2 hR1) (hk12 := hR.1) (ha := hsk) (hrb := hb) (h := h2)))
  · skip
    exact SM_t (w := 1) hR (by omega) (by omega) (lt_join_1 (Tx_same hP (t_X9_joinA (d := 10) (S := S) (fz := fz) (m := m) (p := p) (hd := by omega) (s := a) (b := b) (x := 1) (k := k) (hP := hP) (hk := RS_k hR) (hk12 := hR.1) (hs := ⟨ha, h⟩)))) (fun fz1 m1 p1 hP1 f hR1 => by
      exact (c_X10_joinA (d := 11) (S := S) (fz := fz1) (m := m1) (p := p1) (hd := by omega) (a := a) (b := b) (x := 1) (k := k) (hP := hP1) (hk := RS_k2 hR1) (hk12 := hR.1) (hra := ha) (h := h)))
theorem sm_loop {S : MC} {fz : Bool} {m : M1} {p : M2} {k cp ci : Nat} (hR : RS k cp ci m) (hP : PI p) (a : Int) (x : Int) (ha : rg a) (hx : rg x) : SM S [.ref 1, .int (iI a), .int (iI x), .ref 280] [.ref 261, .int (iI a), .int (iI x)] k_L_loop k_X10_loop fz m p := by
  have ha9 : -2147483648 ≤ a ∧ a < 2147483648 := ha
  have hx9 : -2147483648 ≤ x ∧ x < 2147483648 := hx
  by_cases h : 0 ≤ a ∧ a < k
  · obtain ⟨s, rfl, hsk⟩ := nat_of h
    obtain ⟨n, hS⟩ := RS_sys hR hsk
    have hn0 := hS.1
    have hn8 := hS.2.1
    have hk12 := hR.1
    have hd8 := SR_d hS
    by_cases x8 : -10007 < x ∧ x < 10007
    · by_cases hs0 : (1 + toF x * m (117 + 12 * s) 4) = 0
      · skip
        exact SM_t (w := 3) hR (by omega) (by omega) (lt_loop_3 (Tx_same hP (t_X9_loopS (d := 10) (S := S) (fz := fz) (m := m) (p := p) (hd := by omega) (s := s) (k := k) (n := n) (x := x) (hP := hP) (hk := RS_k hR) (hk12 := hR.1) (hsk := hsk) (hm := hS.2.2.1) (hn0 := hS.1) (hn := hS.2.1) (hx := x8) (hs0 := hs0)))) (fun fz1 m1 p1 hP1 f hR1 => by
          have hm1 := hm1_of f hS
          exact (c_loopZ_of f hd8 hs0 (fun hs1 => (c_X10_loopZ (d := 11) (S := S) (fz := fz1) (m := m1) (p := p1) (hd := by omega) (s := s) (k := k) (n := n) (x := x) (hP := hP1) (hk := RS_k2 hR1) (hk12 := hR.1) (hsk := hsk) (hm := hm1) (hn0 := hS.1) (hn := hS.2.1) (hx := x8) (hs0 := hs1)))))
      · by_cases hk1 : k < 12
        · skip
          refine SM_of (w := 0) (by omega) (lr_loop (Q := (fun x9 m' p' => PI p' ∧ x9 = nF k ∧ (Fr (fun a_ => a_ = 1 ∨ (117 + 12 * k ≤ a_ ∧ a_ < 117 + 12 * k + 12)) m m' ∧ m' 1 1 = nF (k + 1) ∧ m' (117 + 12 * k) 0 = nF (n) ∧ (∀ r, r < n → ∀ c, c < n → m' (117 + 12 * k + 2 + r) c = m (117 + 12 * s + 2 + r) c - toF x * iv (1 + toF x * m (117 + 12 * s) 4) * m (117 + 12 * s + 10) r * m (117 + 12 * s + 11) c) ∧ (∀ r, r < n → m' (117 + 12 * k + 10) r = 1 * iv (1 + toF x * m (117 + 12 * s) 4) * m (117 + 12 * s + 10) r ∧ m' (117 + 12 * k + 11) r = 1 * iv (1 + toF x * m (117 + 12 * s) 4) * m (117 + 12 * s + 11) r) ∧ m' (117 + 12 * k) 4 = 1 * iv (1 + toF x * m (117 + 12 * s) 4) * m (117 + 12 * s) 4))) (Ct_mono (c_X9_loop (d := 10) (S := S) (fz := fz) (m := m) (p := p) (hd := by omega) (s := s) (k := k) (n := n) (x := x) (hP := hP) (hk := RS_k hR) (hk12 := hR.1) (hsk := hsk) (hm := hS.2.2.1) (hn0 := hS.1) (hn := hS.2.1) (hx := x8) (hs0 := hs0) (hk1 := hk1)) (fun v m2 p2 h => by
            obtain ⟨h1, h2, h3⟩ := h
            exact ⟨nF k, by rw [h1, vF_nF (by omega)], h2, rfl, h3⟩))) (fun fz1 m1 p1 hq => ?_)
          obtain ⟨x9, mC, e9, hP1, hx9, fC0, c1, c0, cA, cbc, cd⟩ := hq
          have fC : ∀ a, ¬ ((7 ≤ a ∧ a < 117) ∨ a = 1 ∨ (117 + 12 * k ≤ a ∧ a < 117 + 12 * k + 12)) → mC a = m a := fun a ha => fC0 a (fun z => ha (by omega))
          have f261 : m1 261 = m 261 := m1_of e9 fC (a := 261) (by omega) (by omega)
          have f262 : m1 262 = m 262 := m1_of e9 fC (a := 262) (by omega) (by omega)
          have f263 : m1 263 = m 263 := m1_of e9 fC (a := 263) (by omega) (by omega)
          have f264 : m1 264 = m 264 := m1_of e9 fC (a := 264) (by omega) (by omega)
          have f265 : m1 265 = m 265 := m1_of e9 fC (a := 265) (by omega) (by omega)
          have f266 : m1 266 = m 266 := m1_of e9 fC (a := 266) (by omega) (by omega)
          have f267 : m1 267 = m 267 := m1_of e9 fC (a := 267) (by omega) (by omega)
          have hk9 : m1 261 0 = nF k := by rw [f261]; exact RS_k2 hR
          have hAs : ∀ i, i < n → ∀ j, j < n → (fun z => m (117 + 12 * s + 2 + z)) i j = (fun z w => m1 263 (64 * s + 8 * z + w)) i j := fun i hi j hj => by
            show m (117 + 12 * s + 2 + i) j = m1 263 (64 * s + 8 * i + j)
            rw [f263]
            exact (SR_A hS i hi j hj).symm
          have hbs : ∀ i, i < n → m (117 + 12 * s + 10) i = (fun z => m1 264 (8 * s + z)) i := fun i hi => by
            show _ = m1 264 (8 * s + i)
            rw [f264]
            exact (SR_b hS i hi).symm
          have hcs : ∀ i, i < n → m (117 + 12 * s + 11) i = (fun z => m1 265 (8 * s + z)) i := fun i hi => by
            show _ = m1 265 (8 * s + i)
            rw [f265]
            exact (SR_c hS i hi).symm
          have hds : m (117 + 12 * s) 4 = m1 266 s := by
            rw [f266]
            exact (SR_d hS).symm
          have hns : m1 262 s = nF n := by
            rw [f262]
            exact hS.2.2.2.1
          have hs1 : (1 + toF x * m1 266 s) ≠ 0 := by rw [← hds]; exact hs0
          refine ⟨hP1, Ct_mono (c_X10_loop1 (d := 11) (S := S) (fz := fz1) (m := m1) (p := p1) (hd := by omega) (s := s) (k := k) (n := n) (x := x) (hP := hP1) (hk := hk9) (hk12 := hR.1) (hsk := hsk) (hm := hns) (hn0 := hS.1) (hn := hS.2.1) (hx := x8) (hs0 := hs1) (hk1 := hk1)) (fun v m2 p2 h => ?_)⟩
          obtain ⟨hv, hp2, hM⟩ := h
          have h9 := RS_new hR hk1 ⟨hn0, hn8⟩ fC c1 c0 (fun i hi j hj => by
            rw [cA i hi j hj]
            have g1 := hAs i hi j hj
            have g2 := hbs i hi
            have g3 := hcs j hj
            simp only at g1 g2 g3
            rw [g1, g2, g3, hds]
            grind) (fun i hi => by
            have g2 := hbs i hi
            simp only at g2
            rw [(cbc i hi).1, g2, hds]
            grind) (fun i hi => by
            have g3 := hcs i hi
            simp only at g3
            rw [(cbc i hi).2, g3, hds]
            grind) (by
            rw [cd, hds]
            grind) e9 hM
          exact ⟨⟨_, hv, rg_nat (by omega), fun _ => by rw [h9.2.1, hx9, vF_nF (by omega)]⟩, hp2, h9.2.2, h9.1⟩
        · skip
          exact SM_t (w := 3) hR (by omega) (by omega) (lt_loop_3 (Tx_same hP (t_X9_loopF (d := 10) (S := S) (fz := fz) (m := m) (p := p) (hd := by omega) (s := s) (k := k) (n := n) (x := x) (hP := hP) (hk := RS_k hR) (hk12 := hR.1) (hsk := hsk) (hm := hS.2.2.1) (hn0 := hS.1) (hn := hS.2.1) (hx := x8) (hs0 := hs0) (hk1 := by omega)))) (fun fz1 m1 p1 hP1 f hR1 => by
            have hm1 := hm1_of f hS
            exact (c_loopF_of f hd8 hs0 (fun hs1 => (c_X10_loopF (d := 11) (S := S) (fz := fz1) (m := m1) (p := p1) (hd := by omega) (s := s) (k := k) (n := n) (x := x) (hP := hP1) (hk := RS_k2 hR1) (hk12 := hR.1) (hsk := hsk) (hm := hm1) (hn0 := hS.1) (hn := hS.2.1) (hx := x8) (hs0 := hs1) (hk1 := by omega)))))
    · skip
      exact SM_t (w := 2) hR (by omega) (by omega) (lt_loop_2 (Tx_same hP (t_X9_loopX (d := 10) (S := S) (fz := fz) (m := m) (p := p) (hd := by omega) (s := s) (k := k) (n := n) (x := x) (hP := hP) (hk := RS_k hR) (hk12 := hR.1) (hsk := hsk) (hm := hS.2.2.1) (hn0 := hS.1) (hn := hS.2.1) (hr := hx) (h := by omega)))) (fun fz1 m1 p1 hP1 f hR1 => by
        have hm1 := hm1_of f hS
        exact (c_X10_loopX (d := 11) (S := S) (fz := fz1) (m := m1) (p := p1) (hd := by omega) (s := s) (k := k) (n := n) (x := x) (hP := hP1) (hk := RS_k2 hR1) (hk12 := hR.1) (hsk := hsk) (hm := hm1) (hn0 := hS.1) (hn := hS.2.1) (hrx := hx) (hx := by omega)))
  · by_cases x8 : -10007 < x ∧ x < 10007
    · skip
      exact SM_t (w := 1) hR (by omega) (by omega) (lt_loop_1 (Tx_same hP (t_X9_loop (d := 10) (S := S) (fz := fz) (m := m) (p := p) (hd := by omega) (s := a) (a1 := x) (k := k) (hP := hP) (hk := RS_k hR) (hk12 := hR.1) (hs := ⟨ha, h⟩)))) (fun fz1 m1 p1 hP1 f hR1 => by
        exact (c_X10_loopS1 (d := 11) (S := S) (fz := fz1) (m := m1) (p := p1) (hd := by omega) (s := a) (x := x) (k := k) (hP := hP1) (hk := RS_k2 hR1) (hk12 := hR.1) (hr := ha) (h := h) (hrx := hx) (hx := x8)))
    · skip
      exact SM_t (w := 1) hR (by omega) (by omega) (lt_loop_1 (Tx_same hP (t_X9_loop (d := 10) (S := S) (fz := fz) (m := m) (p := p) (hd := by omega) (s := a) (a1 := x) (k := k) (hP := hP) (hk := RS_k hR) (hk12 := hR.1) (hs := ⟨ha, h⟩)))) (fun fz1 m1 p1 hP1 f hR1 => by
        exact (c_X10_loopS0 (d := 11) (S := S) (fz := fz1) (m := m1) (p := p1) (hd := by omega) (s := a) (x := x) (k := k) (hP := hP1) (hk := RS_k2 hR1) (hk12 := hR.1) (hr := ha) (h := h) (hrx := hx) (hx := by omega)))
theorem sm_placed {S : MC} {fz : Bool} {m : M1} {p : M2} {k cp ci : Nat} (hR : RS k cp ci m) (hP : PI p) (a : Int) (ha : rg a) : SM S [.ref 1, .int (iI a), .ref 280] [.ref 261, .int (iI a)] k_L_placed k_X10_placed fz m p := by
  have ha9 : -2147483648 ≤ a ∧ a < 2147483648 := ha
  by_cases h : 0 ≤ a ∧ a < k
  · obtain ⟨s, rfl, hsk⟩ := nat_of h
    obtain ⟨n, hS⟩ := RS_sys hR hsk
    have hn0 := hS.1
    have hn8 := hS.2.1
    have hk12 := hR.1
    have hcp16 := hR.2.1
    by_cases hcp : n ≤ cp
    · by_cases hrk : rk n (kr n (fun z => m (117 + 12 * s + 2 + z)) (m (117 + 12 * s + 10))) = n
      · by_cases hk1 : k < 12
        · skip
          refine SM_of (w := 0) (by omega) (lr_placed (Q := (fun x9 m' p' => PI p' ∧ x9 = nF k ∧ (∃ x, Fr (fun a_ => (7 ≤ a_ ∧ a_ < 117) ∨ a_ = 1 ∨ (117 + 12 * k ≤ a_ ∧ a_ < 117 + 12 * k + 12)) m m' ∧ m' 1 1 = nF (k + 1) ∧ m' (117 + 12 * k) 0 = nF (n) ∧ (∀ r, r < n → ∀ c, c < n → m' (117 + 12 * k + 2 + r) c = m (117 + 12 * s + 2 + r) c - m (117 + 12 * s + 10) r * av n (fun z => m (117 + 12 * s + 2 + z)) (m 4) x n c) ∧ (∀ r, r < n → m' (117 + 12 * k + 10) r = m (117 + 12 * s + 10) r ∧ m' (117 + 12 * k + 11) r = m (117 + 12 * s + 11) r) ∧ m' (117 + 12 * k) 4 = m (117 + 12 * s) 4 ∧ (∀ i, i < n → dot n ((kr n (fun z => m (117 + 12 * s + 2 + z)) (m (117 + 12 * s + 10))) i) x = if i + 1 = n then 1 else 0)))) (Ct_mono (c_X9_placed (d := 10) (S := S) (fz := fz) (m := m) (p := p) (hd := by omega) (s := s) (k := k) (n := n) (cp := cp) (hP := hP) (hk := RS_k hR) (hk12 := hR.1) (hsk := hsk) (hm := hS.2.2.1) (hn0 := hS.1) (hn := hS.2.1) (hcp := RS_cp hR) (hcpl := hR.2.1) (h := hcp) (hr := hrk) (hk1 := hk1)) (fun v m2 p2 h => by
            obtain ⟨x, h1, h2, h3⟩ := h
            exact ⟨nF k, by rw [h1, vF_nF (by omega)], h2, rfl, x, h3⟩))) (fun fz1 m1 p1 hq => ?_)
          obtain ⟨x9, mC, e9, hP1, hx9, x, fC0, c1, c0, cA, cbc, cd, hx⟩ := hq
          have fC : ∀ a, ¬ ((7 ≤ a ∧ a < 117) ∨ a = 1 ∨ (117 + 12 * k ≤ a ∧ a < 117 + 12 * k + 12)) → mC a = m a := fun a ha => fC0 a (fun z => ha (by omega))
          have f261 : m1 261 = m 261 := m1_of e9 fC (a := 261) (by omega) (by omega)
          have f262 : m1 262 = m 262 := m1_of e9 fC (a := 262) (by omega) (by omega)
          have f263 : m1 263 = m 263 := m1_of e9 fC (a := 263) (by omega) (by omega)
          have f264 : m1 264 = m 264 := m1_of e9 fC (a := 264) (by omega) (by omega)
          have f265 : m1 265 = m 265 := m1_of e9 fC (a := 265) (by omega) (by omega)
          have f266 : m1 266 = m 266 := m1_of e9 fC (a := 266) (by omega) (by omega)
          have f267 : m1 267 = m 267 := m1_of e9 fC (a := 267) (by omega) (by omega)
          have hk9 : m1 261 0 = nF k := by rw [f261]; exact RS_k2 hR
          have hAs : ∀ i, i < n → ∀ j, j < n → (fun z => m (117 + 12 * s + 2 + z)) i j = (fun z w => m1 263 (64 * s + 8 * z + w)) i j := fun i hi j hj => by
            show m (117 + 12 * s + 2 + i) j = m1 263 (64 * s + 8 * i + j)
            rw [f263]
            exact (SR_A hS i hi j hj).symm
          have hbs : ∀ i, i < n → m (117 + 12 * s + 10) i = (fun z => m1 264 (8 * s + z)) i := fun i hi => by
            show _ = m1 264 (8 * s + i)
            rw [f264]
            exact (SR_b hS i hi).symm
          have hcs : ∀ i, i < n → m (117 + 12 * s + 11) i = (fun z => m1 265 (8 * s + z)) i := fun i hi => by
            show _ = m1 265 (8 * s + i)
            rw [f265]
            exact (SR_c hS i hi).symm
          have hds : m (117 + 12 * s) 4 = m1 266 s := by
            rw [f266]
            exact (SR_d hS).symm
          have hns : m1 262 s = nF n := by
            rw [f262]
            exact hS.2.2.2.1
          have hp6 : m1 261 6 = nF cp := by rw [f261]; exact RS_cp2 hR
          have er : rk n (kr n (fun z w => m1 263 (64 * s + 8 * z + w)) (fun z => m1 264 (8 * s + z))) = rk n (kr n (fun z => m (117 + 12 * s + 2 + z)) (m (117 + 12 * s + 10))) := (rk_congr (fun i hi c hc => kr_congr hAs hbs i c hc)).symm
          refine ⟨hP1, Ct_mono (c_X10_placed1 (d := 11) (S := S) (fz := fz1) (m := m1) (p := p1) (hd := by omega) (s := s) (k := k) (n := n) (cp := cp) (hP := hP1) (hk := hk9) (hk12 := hR.1) (hsk := hsk) (hm := hns) (hn0 := hS.1) (hn := hS.2.1) (hcp := hp6) (hcpl := hR.2.1) (h := ⟨hcp, er.trans hrk⟩) (hk1 := hk1)) (fun v m2 p2 h => ?_)⟩
          obtain ⟨y, hv, hp2, hy, hM⟩ := h
          have ey : ∀ c, c < n → x c = y c := rk_uniq hrk (fun i hi => (hx i hi).trans ((dot_congr (fun c hc => kr_congr hAs hbs i c hc) (fun _ _ => rfl)).trans (hy i hi)).symm)
          have hPs : ∀ i, i < n → m 4 i = (fun z => m1 267 (0 + z)) i := fun i hi => by
            show m 4 i = m1 267 (0 + i)
            rw [f267, Nat.zero_add]
            exact RS_pv hR i (by omega)
          have hav : ∀ j, j < n → av n (fun z => m (117 + 12 * s + 2 + z)) (m 4) x n j = av n (fun z w => m1 263 (64 * s + 8 * z + w)) (fun z => m1 267 (0 + z)) y n j := fun j hj => (av_x ey n j hj).trans (av_cg hAs hPs n (Nat.le_refl n) j hj)
          have h9 := RS_new hR hk1 ⟨hn0, hn8⟩ fC c1 c0 (fun i hi j hj => by
            rw [cA i hi j hj, hav j hj]
            have g1 := hAs i hi j hj
            have g2 := hbs i hi
            simp only at g1 g2
            rw [g1, g2]) (fun i hi => (cbc i hi).1.trans (hbs i hi)) (fun i hi => (cbc i hi).2.trans (hcs i hi)) (cd.trans hds) e9 hM
          exact ⟨⟨_, hv, rg_nat (by omega), fun _ => by rw [h9.2.1, hx9, vF_nF (by omega)]⟩, hp2, h9.2.2, h9.1⟩
        · skip
          exact SM_t (w := 2) hR (by omega) (by omega) (lt_placed_2 ((t_X9_placedF (d := 10) (S := S) (fz := fz) (m := m) (p := p) (hd := by omega) (s := s) (k := k) (n := n) (cp := cp) (hP := hP) (hk := RS_k hR) (hk12 := hR.1) (hsk := hsk) (hm := hS.2.2.1) (hn0 := hS.1) (hn := hS.2.1) (hcp := RS_cp hR) (hcpl := hR.2.1) (h := hcp) (hr := hrk) (hk1 := by omega)))) (fun fz1 m1 p1 hP1 f hR1 => by
            have hm1 := hm1_of f hS
            exact (by have f263 := qf_f f (a := 263) (by omega) (by omega); have f264 := qf_f f (a := 264) (by omega) (by omega); have f265 := qf_f f (a := 265) (by omega) (by omega); have er : rk n (kr n (fun z w => m1 263 (64 * s + 8 * z + w)) (fun z => m1 264 (8 * s + z))) = rk n (kr n (fun z => m (117 + 12 * s + 2 + z)) (m (117 + 12 * s + 10))) := rk_congr (fun i hi c hc => kr_congr (fun i hi j hj => by rw [f263]; exact SR_A hS i hi j hj) (fun i hi => by rw [f264]; exact SR_b hS i hi) i c hc); exact (c_X10_placedF (d := 11) (S := S) (fz := fz1) (m := m1) (p := p1) (hd := by omega) (s := s) (k := k) (n := n) (cp := cp) (hP := hP1) (hk := RS_k2 hR1) (hk12 := hR.1) (hsk := hsk) (hm := hm1) (hn0 := hS.1) (hn := hS.2.1) (hcp := RS_cp2 hR1) (hcpl := hR.2.1) (h := ⟨hcp, er.trans hrk⟩) (hk1 := by omega))))
      · skip
        exact SM_t (w := 2) hR (by omega) (by omega) (lt_placed_2 ((t_X9_placedR (d := 10) (S := S) (fz := fz) (m := m) (p := p) (hd := by omega) (s := s) (k := k) (n := n) (cp := cp) (hP := hP) (hk := RS_k hR) (hk12 := hR.1) (hsk := hsk) (hm := hS.2.2.1) (hn0 := hS.1) (hn := hS.2.1) (hcp := RS_cp hR) (hcpl := hR.2.1) (h := hcp) (hr := hrk)))) (fun fz1 m1 p1 hP1 f hR1 => by
          have hm1 := hm1_of f hS
          exact (by have f263 := qf_f f (a := 263) (by omega) (by omega); have f264 := qf_f f (a := 264) (by omega) (by omega); have f265 := qf_f f (a := 265) (by omega) (by omega); have er : rk n (kr n (fun z w => m1 263 (64 * s + 8 * z + w)) (fun z => m1 264 (8 * s + z))) = rk n (kr n (fun z => m (117 + 12 * s + 2 + z)) (m (117 + 12 * s + 10))) := rk_congr (fun i hi c hc => kr_congr (fun i hi j hj => by rw [f263]; exact SR_A hS i hi j hj) (fun i hi => by rw [f264]; exact SR_b hS i hi) i c hc); exact (c_X10_placedC (d := 11) (S := S) (fz := fz1) (m := m1) (p := p1) (hd := by omega) (s := s) (k := k) (n := n) (cp := cp) (hP := hP1) (hk := RS_k2 hR1) (hk12 := hR.1) (hsk := hsk) (hm := hm1) (hn0 := hS.1) (hn := hS.2.1) (hcp := RS_cp2 hR1) (hcpl := hR.2.1) (h := Or.inr (fun e => hrk (er.symm.trans e))))))
    · skip
      exact SM_t (w := 2) hR (by omega) (by omega) (lt_placed_2 (Tx_same hP (t_X9_placedC (d := 10) (S := S) (fz := fz) (m := m) (p := p) (hd := by omega) (s := s) (k := k) (n := n) (cp := cp) (hP := hP) (hk := RS_k hR) (hk12 := hR.1) (hsk := hsk) (hm := hS.2.2.1) (hn0 := hS.1) (hn := hS.2.1) (hcp := RS_cp hR) (hcpl := hR.2.1) (h := by omega)))) (fun fz1 m1 p1 hP1 f hR1 => by
        have hm1 := hm1_of f hS
        exact (c_X10_placedC (d := 11) (S := S) (fz := fz1) (m := m1) (p := p1) (hd := by omega) (s := s) (k := k) (n := n) (cp := cp) (hP := hP1) (hk := RS_k2 hR1) (hk12 := hR.1) (hsk := hsk) (hm := hm1) (hn0 := hS.1) (hn := hS.2.1) (hcp := RS_cp2 hR1) (hcpl := hR.2.1) (h := Or.inl (by omega))))
  · skip
    exact SM_t (w := 1) hR (by omega) (by omega) (lt_placed_1 (Tx_same hP (t_X9_placed (d := 10) (S := S) (fz := fz) (m := m) (p := p) (hd := by omega) (s := a) (k := k) (hP := hP) (hk := RS_k hR) (hk12 := hR.1) (hs := ⟨ha, h⟩)))) (fun fz1 m1 p1 hP1 f hR1 => by
      exact (c_X10_placedS (d := 11) (S := S) (fz := fz1) (m := m1) (p := p1) (hd := by omega) (s := a) (k := k) (hP := hP1) (hk := RS_k2 hR1) (hk12 := hR.1) (hr := ha) (h := h)))
theorem sm_joined {S : MC} {fz : Bool} {m : M1} {p : M2} {k cp ci : Nat} (hR : RS k cp ci m) (hP : PI p) (a : Int) (ha : rg a) : SM S [.ref 1, .int (iI a), .ref 280] [.ref 261, .int (iI a)] k_L_joined k_X10_joined fz m p := by
  have ha9 : -2147483648 ≤ a ∧ a < 2147483648 := ha
  by_cases h : 0 ≤ a ∧ a < k
  · obtain ⟨s, rfl, hsk⟩ := nat_of h
    obtain ⟨n, hS⟩ := RS_sys hR hsk
    have hn0 := hS.1
    have hn8 := hS.2.1
    have hk12 := hR.1
    have hcp16 := hR.2.1
    have hd8 := SR_d hS
    by_cases hn4 : n ≤ 4
    · by_cases hd0 : m (117 + 12 * s) 4 = 0
      · by_cases hcp : n ≤ cp
        · by_cases hrk : rk n (kr n (fun z => m (117 + 12 * s + 2 + z)) (m (117 + 12 * s + 10))) = n
          · by_cases hcp2 : 2 * n ≤ cp
            · by_cases hrk2 : rk n (kr n (fun z c => m (117 + 12 * s + 2 + c) z) (m (117 + 12 * s + 11))) = n
              · by_cases hk1 : k < 12
                · skip
                  refine SM_of (w := 0) (by omega) (lr_joined (Q := (fun x9 m' p' => PI p' ∧ x9 = nF k ∧ (∃ x y, Fr (fun a_ => (7 ≤ a_ ∧ a_ < 117) ∨ a_ = 1 ∨ (117 + 12 * k ≤ a_ ∧ a_ < 117 + 12 * k + 12)) m m' ∧ m' 1 1 = nF (k + 1) ∧ m' (117 + 12 * k) 0 = nF (2 * n) ∧ (∀ r, r < 2 * n → ∀ c, c < 2 * n → m' (117 + 12 * k + 2 + r) c = obA n (fun z => m (117 + 12 * s + 2 + z)) (m (117 + 12 * s + 10)) (m (117 + 12 * s + 11)) (fun z => av n (fun z => m (117 + 12 * s + 2 + z)) (m 4) x n z) (fun z => av n (fun z c => m (117 + 12 * s + 2 + c) z) (fun i => m 4 (n + i)) y n z) r c) ∧ (∀ r, r < n → m' (117 + 12 * k + 10) r = m (117 + 12 * s + 10) r ∧ m' (117 + 12 * k + 10) (n + r) = m (117 + 12 * s + 10) r) ∧ (∀ r, m' (117 + 12 * k + 11) r = if r < n then m (117 + 12 * s + 11) r else 0) ∧ m' (117 + 12 * k) 4 = 0 ∧ (∀ i, i < n → dot n ((kr n (fun z => m (117 + 12 * s + 2 + z)) (m (117 + 12 * s + 10))) i) x = if i + 1 = n then 1 else 0) ∧ (∀ i, i < n → dot n ((kr n (fun z c => m (117 + 12 * s + 2 + c) z) (m (117 + 12 * s + 11))) i) y = if i + 1 = n then 1 else 0)))) (Ct_mono (c_X9_joined (d := 10) (S := S) (fz := fz) (m := m) (p := p) (hd := by omega) (s := s) (k := k) (n := n) (cp := cp) (hP := hP) (hk := RS_k hR) (hk12 := hR.1) (hsk := hsk) (hm := hS.2.2.1) (hn0 := hS.1) (hn := hS.2.1) (hn4 := hn4) (hd0 := hd0) (hcp := RS_cp hR) (hcpl := hR.2.1) (h := hcp2) (hr := hrk) (hr2 := hrk2) (hk1 := hk1) (hz := fun c h1 h2 j => RS_z hR c h1 (by omega) j)) (fun v m2 p2 h => by
                    obtain ⟨x, y, h1, h2, h3⟩ := h
                    exact ⟨nF k, by rw [h1, vF_nF (by omega)], h2, rfl, x, y, h3⟩))) (fun fz1 m1 p1 hq => ?_)
                  obtain ⟨x9, mC, e9, hP1, hx9, x, y, fC0, c1, c0, cA, cb, cc, cd, hx, hy⟩ := hq
                  have fC : ∀ a, ¬ ((7 ≤ a ∧ a < 117) ∨ a = 1 ∨ (117 + 12 * k ≤ a ∧ a < 117 + 12 * k + 12)) → mC a = m a := fun a ha => fC0 a (fun z => ha (by omega))
                  have f261 : m1 261 = m 261 := m1_of e9 fC (a := 261) (by omega) (by omega)
                  have f262 : m1 262 = m 262 := m1_of e9 fC (a := 262) (by omega) (by omega)
                  have f263 : m1 263 = m 263 := m1_of e9 fC (a := 263) (by omega) (by omega)
                  have f264 : m1 264 = m 264 := m1_of e9 fC (a := 264) (by omega) (by omega)
                  have f265 : m1 265 = m 265 := m1_of e9 fC (a := 265) (by omega) (by omega)
                  have f266 : m1 266 = m 266 := m1_of e9 fC (a := 266) (by omega) (by omega)
                  have f267 : m1 267 = m 267 := m1_of e9 fC (a := 267) (by omega) (by omega)
                  have hk9 : m1 261 0 = nF k := by rw [f261]; exact RS_k2 hR
                  have hAs : ∀ i, i < n → ∀ j, j < n → (fun z => m (117 + 12 * s + 2 + z)) i j = (fun z w => m1 263 (64 * s + 8 * z + w)) i j := fun i hi j hj => by
                    show m (117 + 12 * s + 2 + i) j = m1 263 (64 * s + 8 * i + j)
                    rw [f263]
                    exact (SR_A hS i hi j hj).symm
                  have hbs : ∀ i, i < n → m (117 + 12 * s + 10) i = (fun z => m1 264 (8 * s + z)) i := fun i hi => by
                    show _ = m1 264 (8 * s + i)
                    rw [f264]
                    exact (SR_b hS i hi).symm
                  have hcs : ∀ i, i < n → m (117 + 12 * s + 11) i = (fun z => m1 265 (8 * s + z)) i := fun i hi => by
                    show _ = m1 265 (8 * s + i)
                    rw [f265]
                    exact (SR_c hS i hi).symm
                  have hds : m (117 + 12 * s) 4 = m1 266 s := by
                    rw [f266]
                    exact (SR_d hS).symm
                  have hns : m1 262 s = nF n := by
                    rw [f262]
                    exact hS.2.2.2.1
                  have hTs : ∀ i, i < n → ∀ j, j < n → (fun z c => m (117 + 12 * s + 2 + c) z) i j = (fun z w => m1 263 (64 * s + 8 * w + z)) i j := fun i hi j hj => hAs j hj i hi
                  have hp6 : m1 261 6 = nF cp := by rw [f261]; exact RS_cp2 hR
                  have er : rk n (kr n (fun z w => m1 263 (64 * s + 8 * z + w)) (fun z => m1 264 (8 * s + z))) = rk n (kr n (fun z => m (117 + 12 * s + 2 + z)) (m (117 + 12 * s + 10))) := (rk_congr (fun i hi c hc => kr_congr hAs hbs i c hc)).symm
                  have er2 : rk n (kr n (fun z w => m1 263 (64 * s + 8 * w + z)) (fun z => m1 265 (8 * s + z))) = rk n (kr n (fun z c => m (117 + 12 * s + 2 + c) z) (m (117 + 12 * s + 11))) := (rk_congr (fun i hi c hc => kr_congr hTs hcs i c hc)).symm
                  refine ⟨hP1, Ct_mono (c_X10_joined1 (d := 11) (S := S) (fz := fz1) (m := m1) (p := p1) (hd := by omega) (s := s) (k := k) (n := n) (cp := cp) (hP := hP1) (hk := hk9) (hk12 := hR.1) (hsk := hsk) (hm := hns) (hn0 := hS.1) (hn := hS.2.1) (hcp := hp6) (hcpl := hR.2.1) (hn4 := hn4) (hd0 := hds.symm.trans hd0) (h := ⟨hcp, er.trans hrk⟩) (h2 := ⟨hcp2, er2.trans hrk2⟩) (hk1 := hk1)) (fun v m2 p2 h => ?_)⟩
                  obtain ⟨x', y', hv, hp2, hx', hy', hM⟩ := h
                  have ex : ∀ c, c < n → x c = x' c := rk_uniq hrk (fun i hi => (hx i hi).trans ((dot_congr (fun c hc => kr_congr hAs hbs i c hc) (fun _ _ => rfl)).trans (hx' i hi)).symm)
                  have ey : ∀ c, c < n → y c = y' c := rk_uniq hrk2 (fun i hi => (hy i hi).trans ((dot_congr (fun c hc => kr_congr hTs hcs i c hc) (fun _ _ => rfl)).trans (hy' i hi)).symm)
                  have hPs : ∀ i, i < n → m 4 i = (fun z => m1 267 (0 + z)) i := fun i hi => by
                    show m 4 i = m1 267 (0 + i)
                    rw [f267, Nat.zero_add]
                    exact RS_pv hR i (by omega)
                  have hQs : ∀ i, i < n → (fun i => m 4 (n + i)) i = (fun z => m1 267 (n + z)) i := fun i hi => by
                    show m 4 (n + i) = m1 267 (n + i)
                    rw [f267]
                    exact RS_pv hR (n + i) (by omega)
                  have hk9' : ∀ j, j < n → (fun z => av n (fun z => m (117 + 12 * s + 2 + z)) (m 4) x n z) j = (fun z => av n (fun z w => m1 263 (64 * s + 8 * z + w)) (fun z => m1 267 (0 + z)) x' n z) j := fun j hj => (av_x ex n j hj).trans (av_cg hAs hPs n (Nat.le_refl n) j hj)
                  have hl9' : ∀ j, j < n → (fun z => av n (fun z c => m (117 + 12 * s + 2 + c) z) (fun i => m 4 (n + i)) y n z) j = (fun z => av n (fun z w => m1 263 (64 * s + 8 * w + z)) (fun z => m1 267 (n + z)) y' n z) j := fun j hj => (av_x ey n j hj).trans (av_cg hTs hQs n (Nat.le_refl n) j hj)
                  have h9 := RS_new hR hk1 (by omega) fC c1 c0 (fun i hi j hj => (cA i hi j hj).trans (obA_cg hAs hbs hcs hk9' hl9' i hi j hj)) (fun i hi => by
                    show _ = if i < n then m1 264 (8 * s + i) else m1 264 (8 * s + (i - n))
                    by_cases q : i < n
                    · rw [if_pos q, (cb i q).1]
                      exact hbs i q
                    · rw [if_neg q]
                      have g := (cb (i - n) (by omega)).2
                      rw [show n + (i - n) = i by omega] at g
                      rw [g]
                      exact hbs (i - n) (by omega)) (fun i hi => by
                    show _ = if i < n then m1 265 (8 * s + i) else 0
                    rw [cc i]
                    by_cases q : i < n
                    · rw [if_pos q, if_pos q]
                      exact hcs i q
                    · rw [if_neg q, if_neg q]) cd e9 hM
                  exact ⟨⟨_, hv, rg_nat (by omega), fun _ => by rw [h9.2.1, hx9, vF_nF (by omega)]⟩, hp2, h9.2.2, h9.1⟩
                · skip
                  exact SM_t (w := 2) hR (by omega) (by omega) (lt_joined_2 ((t_X9_joinedF (d := 10) (S := S) (fz := fz) (m := m) (p := p) (hd := by omega) (s := s) (k := k) (n := n) (cp := cp) (hP := hP) (hk := RS_k hR) (hk12 := hR.1) (hsk := hsk) (hm := hS.2.2.1) (hn0 := hS.1) (hn := hS.2.1) (hn4 := hn4) (hd0 := hd0) (hcp := RS_cp hR) (hcpl := hR.2.1) (h := hcp2) (hr := hrk) (hr2 := hrk2) (hk1 := by omega)))) (fun fz1 m1 p1 hP1 f hR1 => by
                    have hm1 := hm1_of f hS
                    exact (by have f263 := qf_f f (a := 263) (by omega) (by omega); have f264 := qf_f f (a := 264) (by omega) (by omega); have f265 := qf_f f (a := 265) (by omega) (by omega); have er : rk n (kr n (fun z w => m1 263 (64 * s + 8 * z + w)) (fun z => m1 264 (8 * s + z))) = rk n (kr n (fun z => m (117 + 12 * s + 2 + z)) (m (117 + 12 * s + 10))) := rk_congr (fun i hi c hc => kr_congr (fun i hi j hj => by rw [f263]; exact SR_A hS i hi j hj) (fun i hi => by rw [f264]; exact SR_b hS i hi) i c hc); have er2 : rk n (kr n (fun z w => m1 263 (64 * s + 8 * w + z)) (fun z => m1 265 (8 * s + z))) = rk n (kr n (fun z c => m (117 + 12 * s + 2 + c) z) (m (117 + 12 * s + 11))) := rk_congr (fun i hi c hc => kr_congr (fun i hi j hj => by rw [f263]; exact SR_T hS i hi j hj) (fun i hi => by rw [f265]; exact SR_c hS i hi) i c hc); exact (c_X10_joinedF (d := 11) (S := S) (fz := fz1) (m := m1) (p := p1) (hd := by omega) (s := s) (k := k) (n := n) (cp := cp) (hP := hP1) (hk := RS_k2 hR1) (hk12 := hR.1) (hsk := hsk) (hm := hm1) (hn0 := hS.1) (hn := hS.2.1) (hcp := RS_cp2 hR1) (hcpl := hR.2.1) (hn4 := hn4) (hd0 := by rw [qf_f f (a := 266) (by omega) (by omega)]; exact hd8.trans hd0) (h := ⟨hcp, er.trans hrk⟩) (h2 := ⟨hcp2, er2.trans hrk2⟩) (hk1 := by omega))))
              · skip
                exact SM_t (w := 2) hR (by omega) (by omega) (lt_joined_2 ((t_X9_joinedW (d := 10) (S := S) (fz := fz) (m := m) (p := p) (hd := by omega) (s := s) (k := k) (n := n) (cp := cp) (hP := hP) (hk := RS_k hR) (hk12 := hR.1) (hsk := hsk) (hm := hS.2.2.1) (hn0 := hS.1) (hn := hS.2.1) (hn4 := hn4) (hd0 := hd0) (hcp := RS_cp hR) (hcpl := hR.2.1) (h := hcp2) (hr := hrk) (hr2 := hrk2)))) (fun fz1 m1 p1 hP1 f hR1 => by
                  have hm1 := hm1_of f hS
                  exact (by have f263 := qf_f f (a := 263) (by omega) (by omega); have f264 := qf_f f (a := 264) (by omega) (by omega); have f265 := qf_f f (a := 265) (by omega) (by omega); have er : rk n (kr n (fun z w => m1 263 (64 * s + 8 * z + w)) (fun z => m1 264 (8 * s + z))) = rk n (kr n (fun z => m (117 + 12 * s + 2 + z)) (m (117 + 12 * s + 10))) := rk_congr (fun i hi c hc => kr_congr (fun i hi j hj => by rw [f263]; exact SR_A hS i hi j hj) (fun i hi => by rw [f264]; exact SR_b hS i hi) i c hc); have er2 : rk n (kr n (fun z w => m1 263 (64 * s + 8 * w + z)) (fun z => m1 265 (8 * s + z))) = rk n (kr n (fun z c => m (117 + 12 * s + 2 + c) z) (m (117 + 12 * s + 11))) := rk_congr (fun i hi c hc => kr_congr (fun i hi j hj => by rw [f263]; exact SR_T hS i hi j hj) (fun i hi => by rw [f265]; exact SR_c hS i hi) i c hc); exact (c_X10_joinedE (d := 11) (S := S) (fz := fz1) (m := m1) (p := p1) (hd := by omega) (s := s) (k := k) (n := n) (cp := cp) (hP := hP1) (hk := RS_k2 hR1) (hk12 := hR.1) (hsk := hsk) (hm := hm1) (hn0 := hS.1) (hn := hS.2.1) (hcp := RS_cp2 hR1) (hcpl := hR.2.1) (hn4 := hn4) (hd0 := by rw [qf_f f (a := 266) (by omega) (by omega)]; exact hd8.trans hd0) (h := ⟨hcp, er.trans hrk⟩) (h2 := Or.inr (fun e => hrk2 (er2.symm.trans e))))))
            · skip
              exact SM_t (w := 2) hR (by omega) (by omega) (lt_joined_2 ((t_X9_joinedE (d := 10) (S := S) (fz := fz) (m := m) (p := p) (hd := by omega) (s := s) (k := k) (n := n) (cp := cp) (hP := hP) (hk := RS_k hR) (hk12 := hR.1) (hsk := hsk) (hm := hS.2.2.1) (hn0 := hS.1) (hn := hS.2.1) (hn4 := hn4) (hd0 := hd0) (hcp := RS_cp hR) (hcpl := hR.2.1) (h := ⟨hcp, by omega⟩) (hr := hrk)))) (fun fz1 m1 p1 hP1 f hR1 => by
                have hm1 := hm1_of f hS
                exact (by have f263 := qf_f f (a := 263) (by omega) (by omega); have f264 := qf_f f (a := 264) (by omega) (by omega); have f265 := qf_f f (a := 265) (by omega) (by omega); have er : rk n (kr n (fun z w => m1 263 (64 * s + 8 * z + w)) (fun z => m1 264 (8 * s + z))) = rk n (kr n (fun z => m (117 + 12 * s + 2 + z)) (m (117 + 12 * s + 10))) := rk_congr (fun i hi c hc => kr_congr (fun i hi j hj => by rw [f263]; exact SR_A hS i hi j hj) (fun i hi => by rw [f264]; exact SR_b hS i hi) i c hc); exact (c_X10_joinedE (d := 11) (S := S) (fz := fz1) (m := m1) (p := p1) (hd := by omega) (s := s) (k := k) (n := n) (cp := cp) (hP := hP1) (hk := RS_k2 hR1) (hk12 := hR.1) (hsk := hsk) (hm := hm1) (hn0 := hS.1) (hn := hS.2.1) (hcp := RS_cp2 hR1) (hcpl := hR.2.1) (hn4 := hn4) (hd0 := by rw [qf_f f (a := 266) (by omega) (by omega)]; exact hd8.trans hd0) (h := ⟨hcp, er.trans hrk⟩) (h2 := Or.inl (by omega)))))
          · skip
            exact SM_t (w := 2) hR (by omega) (by omega) (lt_joined_2 ((t_X9_joinedR (d := 10) (S := S) (fz := fz) (m := m) (p := p) (hd := by omega) (s := s) (k := k) (n := n) (cp := cp) (hP := hP) (hk := RS_k hR) (hk12 := hR.1) (hsk := hsk) (hm := hS.2.2.1) (hn0 := hS.1) (hn := hS.2.1) (hn4 := hn4) (hd0 := hd0) (hcp := RS_cp hR) (hcpl := hR.2.1) (h := hcp) (hr := hrk)))) (fun fz1 m1 p1 hP1 f hR1 => by
              have hm1 := hm1_of f hS
              exact (by have f263 := qf_f f (a := 263) (by omega) (by omega); have f264 := qf_f f (a := 264) (by omega) (by omega); have f265 := qf_f f (a := 265) (by omega) (by omega); have er : rk n (kr n (fun z w => m1 263 (64 * s + 8 * z + w)) (fun z => m1 264 (8 * s + z))) = rk n (kr n (fun z => m (117 + 12 * s + 2 + z)) (m (117 + 12 * s + 10))) := rk_congr (fun i hi c hc => kr_congr (fun i hi j hj => by rw [f263]; exact SR_A hS i hi j hj) (fun i hi => by rw [f264]; exact SR_b hS i hi) i c hc); exact (c_X10_joinedC (d := 11) (S := S) (fz := fz1) (m := m1) (p := p1) (hd := by omega) (s := s) (k := k) (n := n) (cp := cp) (hP := hP1) (hk := RS_k2 hR1) (hk12 := hR.1) (hsk := hsk) (hm := hm1) (hn0 := hS.1) (hn := hS.2.1) (hcp := RS_cp2 hR1) (hcpl := hR.2.1) (hn4 := hn4) (hd0 := by rw [qf_f f (a := 266) (by omega) (by omega)]; exact hd8.trans hd0) (h := Or.inr (fun e => hrk (er.symm.trans e))))))
        · skip
          exact SM_t (w := 2) hR (by omega) (by omega) (lt_joined_2 (Tx_same hP (t_X9_joinedC (d := 10) (S := S) (fz := fz) (m := m) (p := p) (hd := by omega) (s := s) (k := k) (n := n) (cp := cp) (hP := hP) (hk := RS_k hR) (hk12 := hR.1) (hsk := hsk) (hm := hS.2.2.1) (hn0 := hS.1) (hn := hS.2.1) (hn4 := hn4) (hd0 := hd0) (hcp := RS_cp hR) (hcpl := hR.2.1) (h := by omega)))) (fun fz1 m1 p1 hP1 f hR1 => by
            have hm1 := hm1_of f hS
            exact (c_X10_joinedC (d := 11) (S := S) (fz := fz1) (m := m1) (p := p1) (hd := by omega) (s := s) (k := k) (n := n) (cp := cp) (hP := hP1) (hk := RS_k2 hR1) (hk12 := hR.1) (hsk := hsk) (hm := hm1) (hn0 := hS.1) (hn := hS.2.1) (hcp := RS_cp2 hR1) (hcpl := hR.2.1) (hn4 := hn4) (hd0 := by rw [qf_f f (a := 266) (by omega) (by omega)]; exact hd8.trans hd0) (h := Or.inl (by omega))))
      · skip
        exact SM_t (w := 2) hR (by omega) (by omega) (lt_joined_2 (Tx_same hP (t_X9_joinedD (d := 10) (S := S) (fz := fz) (m := m) (p := p) (hd := by omega) (s := s) (k := k) (n := n) (cp := cp) (hP := hP) (hk := RS_k hR) (hk12 := hR.1) (hsk := hsk) (hm := hS.2.2.1) (hn0 := hS.1) (hn := hS.2.1) (hcp := RS_cp hR) (hcpl := hR.2.1) (hn4 := hn4) (hd0 := hd0)))) (fun fz1 m1 p1 hP1 f hR1 => by
          have hm1 := hm1_of f hS
          exact (c_X10_joinedD (d := 11) (S := S) (fz := fz1) (m := m1) (p := p1) (hd := by omega) (s := s) (k := k) (n := n) (hP := hP1) (hk := RS_k2 hR1) (hk12 := hR.1) (hsk := hsk) (hm := hm1) (hn0 := hS.1) (hn := hS.2.1) (hn4 := hn4) (hd0 := fun e => hd0 (hd8.symm.trans (by rw [← qf_f f (a := 266) (by omega) (by omega)]; exact e)))))
    · skip
      exact SM_t (w := 2) hR (by omega) (by omega) (lt_joined_2 (Tx_same hP (t_X9_joinedO (d := 10) (S := S) (fz := fz) (m := m) (p := p) (hd := by omega) (s := s) (k := k) (n := n) (cp := cp) (hP := hP) (hk := RS_k hR) (hk12 := hR.1) (hsk := hsk) (hm := hS.2.2.1) (hn0 := hS.1) (hn := hS.2.1) (hcp := RS_cp hR) (hcpl := hR.2.1) (h := by omega)))) (fun fz1 m1 p1 hP1 f hR1 => by
        have hm1 := hm1_of f hS
        exact (c_X10_joinedO (d := 11) (S := S) (fz := fz1) (m := m1) (p := p1) (hd := by omega) (s := s) (k := k) (n := n) (hP := hP1) (hk := RS_k2 hR1) (hk12 := hR.1) (hsk := hsk) (hm := hm1) (hn0 := hS.1) (hn := hS.2.1) (hn4 := by omega)))
  · skip
    exact SM_t (w := 1) hR (by omega) (by omega) (lt_joined_1 (Tx_same hP (t_X9_joined (d := 10) (S := S) (fz := fz) (m := m) (p := p) (hd := by omega) (s := a) (k := k) (hP := hP) (hk := RS_k hR) (hk12 := hR.1) (hs := ⟨ha, h⟩)))) (fun fz1 m1 p1 hP1 f hR1 => by
      exact (c_X10_joinedS (d := 11) (S := S) (fz := fz1) (m := m1) (p := p1) (hd := by omega) (s := a) (k := k) (hP := hP1) (hk := RS_k2 hR1) (hk12 := hR.1) (hr := ha) (h := h)))
