/-! QUESTIONS with more ways to end. -/
theorem sm_gain {S : MC} {fz : Bool} {m : M1} {p : M2} {k cp ci : Nat} (hR : RS k cp ci m) (hP : PI p) (a : Int) (b : Int) (ha : rg a) (hb : rg b) : SM S [.ref 1, .int (iI a), .int (iI b), .ref 280] [.ref 261, .int (iI a), .int (iI b)] k_L_gain k_X10_gain fz m p := by
  have ha9 : -2147483648 ≤ a ∧ a < 2147483648 := ha
  have hb9 : -2147483648 ≤ b ∧ b < 2147483648 := hb
  by_cases h : 0 ≤ a ∧ a < k
  · obtain ⟨s, rfl, hsk⟩ := nat_of h
    obtain ⟨n, hS⟩ := RS_sys hR hsk
    have hn0 := hS.1
    have hn8 := hS.2.1
    have hk12 := hR.1
    have hcp16 := hR.2.1
    by_cases hl : 0 ≤ b ∧ b < (n : Int)
    · obtain ⟨g, rfl, hg⟩ := nat_of hl
      by_cases hcp : n ≤ cp
      · by_cases hrk : rk n (kr n (fun z => m (117 + 12 * s + 2 + z)) (m (117 + 12 * s + 10))) = n
        · obtain ⟨x0, hx0⟩ := rk_ex hrk (fun i => if i + 1 = n then 1 else 0)
          refine SM_q (w := 0) (x := av n (fun z => m (117 + 12 * s + 2 + z)) (m 4) x0 n g) hR (by omega) (WO_q (lr_gain (Ct_mono (c_X9_gain (d := 10) (S := S) (fz := fz) (m := m) (p := p) (hd := by omega) (s := s) (k := k) (n := n) (g := g) (cp := cp) (hP := hP) (hk := RS_k hR) (hk12 := hR.1) (hsk := hsk) (hm := hS.2.2.1) (hn0 := hS.1) (hn := hS.2.1) (hcp := RS_cp hR) (hcpl := hR.2.1) (hg := hg) (h := hcp) (hr := hrk)) (fun v m2 p2 h => by
            obtain ⟨x, h1, hx, h2, h3⟩ := h
            exact ⟨_, h1, av_x (fun c hc => rk_uniq hrk (fun i hi => (hx i hi).trans (hx0 i hi).symm) c hc) n g hg, h2, h3⟩)))) (fun fz1 m1 p1 hP1 f hR1 => ?_)
          have hm1 := hm1_of f hS
          have f263 := qf_f f (a := 263) (by omega) (by omega)
          have f264 := qf_f f (a := 264) (by omega) (by omega)
          have f265 := qf_f f (a := 265) (by omega) (by omega)
          have f267 := qf_f f (a := 267) (by omega) (by omega)
          have hA9 : ∀ i, i < n → ∀ j, j < n → (fun z w => m1 263 (64 * s + 8 * z + w)) i j = (fun z => m (117 + 12 * s + 2 + z)) i j := (fun i hi j hj => by rw [f263]; exact SR_A hS i hi j hj)
          have hT9 : ∀ i, i < n → ∀ j, j < n → (fun z w => m1 263 (64 * s + 8 * w + z)) i j = (fun z c => m (117 + 12 * s + 2 + c) z) i j := (fun i hi j hj => by rw [f263]; exact SR_T hS i hi j hj)
          have hb9 : ∀ i, i < n → (fun z => m1 264 (8 * s + z)) i = (m (117 + 12 * s + 10)) i := (fun i hi => by rw [f264]; exact SR_b hS i hi)
          have hc9 : ∀ i, i < n → (fun z => m1 265 (8 * s + z)) i = (m (117 + 12 * s + 11)) i := (fun i hi => by rw [f265]; exact SR_c hS i hi)
          have hP9 : ∀ i, i < n → (fun z => m1 267 (0 + z)) i = (m 4) i := fun i hi => by
            show m1 267 (0 + i) = m 4 i
            rw [f267, Nat.zero_add]
            exact (RS_pv hR _ (by omega)).symm
          have er := rk_congr (n := n) (fun i hi c hc => kr_congr hA9 hb9 i c hc)
          refine Ct_mono (c_X10_gain1 (d := 11) (S := S) (fz := fz1) (m := m1) (p := p1) (hd := by omega) (s := s) (k := k) (n := n) (g := g) (cp := cp) (hP := hP1) (hk := RS_k2 hR1) (hk12 := hR.1) (hsk := hsk) (hm := hm1) (hn0 := hS.1) (hn := hS.2.1) (hcp := RS_cp2 hR1) (hcpl := hR.2.1) (hg := hg) (h := ⟨hcp, er.trans hrk⟩)) (fun v m2 p2 h => ?_)
          obtain ⟨y, h1, h2, h3, hy⟩ := h
          refine ⟨⟨_, h1, rg_vF _, fun _ => congrArg vF ?_⟩, h2, h3⟩
          have ey : ∀ c, c < n → y c = x0 c := rk_uniq hrk (fun i hi => ((dot_congr (fun c hc => (kr_congr hA9 hb9 i c hc).symm) (fun _ _ => rfl)).trans (hy i hi)).trans (hx0 i hi).symm)
          exact (av_cg hA9 hP9 n (Nat.le_refl n) g hg).trans (av_x ey n g hg)
        · skip
          refine SM_t (w := 2) hR (by omega) (by omega) (lt_gain_2 (t_X9_gainR (d := 10) (S := S) (fz := fz) (m := m) (p := p) (hd := by omega) (s := s) (k := k) (n := n) (g := g) (cp := cp) (hP := hP) (hk := RS_k hR) (hk12 := hR.1) (hsk := hsk) (hm := hS.2.2.1) (hn0 := hS.1) (hn := hS.2.1) (hcp := RS_cp hR) (hcpl := hR.2.1) (hg := hg) (h := hcp) (hr := hrk))) (fun fz1 m1 p1 hP1 f hR1 => ?_)
          have hm1 := hm1_of f hS
          have f263 := qf_f f (a := 263) (by omega) (by omega)
          have f264 := qf_f f (a := 264) (by omega) (by omega)
          have f265 := qf_f f (a := 265) (by omega) (by omega)
          have f267 := qf_f f (a := 267) (by omega) (by omega)
          have hA9 : ∀ i, i < n → ∀ j, j < n → (fun z w => m1 263 (64 * s + 8 * z + w)) i j = (fun z => m (117 + 12 * s + 2 + z)) i j := (fun i hi j hj => by rw [f263]; exact SR_A hS i hi j hj)
          have hT9 : ∀ i, i < n → ∀ j, j < n → (fun z w => m1 263 (64 * s + 8 * w + z)) i j = (fun z c => m (117 + 12 * s + 2 + c) z) i j := (fun i hi j hj => by rw [f263]; exact SR_T hS i hi j hj)
          have hb9 : ∀ i, i < n → (fun z => m1 264 (8 * s + z)) i = (m (117 + 12 * s + 10)) i := (fun i hi => by rw [f264]; exact SR_b hS i hi)
          have hc9 : ∀ i, i < n → (fun z => m1 265 (8 * s + z)) i = (m (117 + 12 * s + 11)) i := (fun i hi => by rw [f265]; exact SR_c hS i hi)
          have er := rk_congr (n := n) (fun i hi c hc => kr_congr hA9 hb9 i c hc)
          exact (c_X10_gainC (d := 11) (S := S) (fz := fz1) (m := m1) (p := p1) (hd := by omega) (s := s) (k := k) (n := n) (g := g) (cp := cp) (hP := hP1) (hk := RS_k2 hR1) (hk12 := hR.1) (hsk := hsk) (hm := hm1) (hn0 := hS.1) (hn := hS.2.1) (hcp := RS_cp2 hR1) (hcpl := hR.2.1) (hg := hg) (h := Or.inr (fun e => hrk (er.symm.trans e))))
      · skip
        exact SM_t (w := 2) hR (by omega) (by omega) (lt_gain_2 (Tx_same hP (t_X9_gainC (d := 10) (S := S) (fz := fz) (m := m) (p := p) (hd := by omega) (s := s) (k := k) (n := n) (g := g) (cp := cp) (hP := hP) (hk := RS_k hR) (hk12 := hR.1) (hsk := hsk) (hm := hS.2.2.1) (hn0 := hS.1) (hn := hS.2.1) (hcp := RS_cp hR) (hcpl := hR.2.1) (hg := hg) (h := by omega)))) (fun fz1 m1 p1 hP1 f hR1 => by
          have hm1 := hm1_of f hS
          exact (c_X10_gainC (d := 11) (S := S) (fz := fz1) (m := m1) (p := p1) (hd := by omega) (s := s) (k := k) (n := n) (g := g) (cp := cp) (hP := hP1) (hk := RS_k2 hR1) (hk12 := hR.1) (hsk := hsk) (hm := hm1) (hn0 := hS.1) (hn := hS.2.1) (hcp := RS_cp2 hR1) (hcpl := hR.2.1) (hg := hg) (h := Or.inl (by omega))))
    · skip
      exact SM_t (w := 1) hR (by omega) (by omega) (lt_gain_1 (Tx_same hP (t_X9_gainP (d := 10) (S := S) (fz := fz) (m := m) (p := p) (hd := by omega) (s := s) (k := k) (n := n) (cp := cp) (x := b) (hP := hP) (hk := RS_k hR) (hk12 := hR.1) (hsk := hsk) (hm := hS.2.2.1) (hn0 := hS.1) (hn := hS.2.1) (hcp := RS_cp hR) (hcpl := hR.2.1) (hrx := hb) (h := by omega)))) (fun fz1 m1 p1 hP1 f hR1 => by
        have hm1 := hm1_of f hS
        exact (c_X10_gainP (d := 11) (S := S) (fz := fz1) (m := m1) (p := p1) (hd := by omega) (s := s) (k := k) (n := n) (x := b) (hP := hP1) (hk := RS_k2 hR1) (hk12 := hR.1) (hsk := hsk) (hm := hm1) (hn0 := hS.1) (hn := hS.2.1) (hr := hb) (h := by omega)))
  · skip
    exact SM_t (w := 1) hR (by omega) (by omega) (lt_gain_1 (Tx_same hP (t_X9_gain (d := 10) (S := S) (fz := fz) (m := m) (p := p) (hd := by omega) (s := a) (a1 := b) (k := k) (hP := hP) (hk := RS_k hR) (hk12 := hR.1) (hs := ⟨ha, h⟩)))) (fun fz1 m1 p1 hP1 f hR1 => by
      exact (c_X10_gainS (d := 11) (S := S) (fz := fz1) (m := m1) (p := p1) (hd := by omega) (s := a) (x := b) (k := k) (hP := hP1) (hk := RS_k2 hR1) (hk12 := hR.1) (hr := ha) (h := h)))
theorem sm_gainAnew {S : MC} {fz : Bool} {m : M1} {p : M2} {k cp ci : Nat} (hR : RS k cp ci m) (hP : PI p) (a : Int) (b : Int) (ha : rg a) (hb : rg b) : SM S [.ref 1, .int (iI a), .int (iI b), .ref 280] [.ref 261, .int (iI a), .int (iI b)] k_L_gainAnew k_X10_gainAnew fz m p := by
  have ha9 : -2147483648 ≤ a ∧ a < 2147483648 := ha
  have hb9 : -2147483648 ≤ b ∧ b < 2147483648 := hb
  by_cases h : 0 ≤ a ∧ a < k
  · obtain ⟨s, rfl, hsk⟩ := nat_of h
    obtain ⟨n, hS⟩ := RS_sys hR hsk
    have hn0 := hS.1
    have hn8 := hS.2.1
    have hk12 := hR.1
    have hcp16 := hR.2.1
    by_cases hl : 0 ≤ b ∧ b < (n : Int)
    · obtain ⟨g, rfl, hg⟩ := nat_of hl
      by_cases hcp : n ≤ cp
      · by_cases hrk : rk n (kr n (fun z => m (117 + 12 * s + 2 + z)) (m (117 + 12 * s + 10))) = n
        · obtain ⟨x0, hx0⟩ := rk_ex hrk (fun i => if i + 1 = n then 1 else 0)
          refine SM_q (w := 0) (x := av n (fun z => m (117 + 12 * s + 2 + z)) (m 4) x0 n g) hR (by omega) (WO_q (lr_gainAnew (Ct_mono (c_X9_gainAnew (d := 10) (S := S) (fz := fz) (m := m) (p := p) (hd := by omega) (s := s) (k := k) (n := n) (g := g) (cp := cp) (hP := hP) (hk := RS_k hR) (hk12 := hR.1) (hsk := hsk) (hm := hS.2.2.1) (hn0 := hS.1) (hn := hS.2.1) (hcp := RS_cp hR) (hcpl := hR.2.1) (hg := hg) (h := hcp) (hr := cf_full.mpr hrk)) (fun v m2 p2 h => by
            obtain ⟨x, h1, hx, h2, h3⟩ := h
            exact ⟨_, h1, rk_uniq (cf_full.mpr hrk) (fun i hi => (hx i hi).trans (gain_eq hS.2.1 hrk hx0 hi).symm) g hg, h2, h3⟩)))) (fun fz1 m1 p1 hP1 f hR1 => ?_)
          have hm1 := hm1_of f hS
          have f263 := qf_f f (a := 263) (by omega) (by omega)
          have f264 := qf_f f (a := 264) (by omega) (by omega)
          have f265 := qf_f f (a := 265) (by omega) (by omega)
          have f267 := qf_f f (a := 267) (by omega) (by omega)
          have hA9 : ∀ i, i < n → ∀ j, j < n → (fun z w => m1 263 (64 * s + 8 * z + w)) i j = (fun z => m (117 + 12 * s + 2 + z)) i j := (fun i hi j hj => by rw [f263]; exact SR_A hS i hi j hj)
          have hT9 : ∀ i, i < n → ∀ j, j < n → (fun z w => m1 263 (64 * s + 8 * w + z)) i j = (fun z c => m (117 + 12 * s + 2 + c) z) i j := (fun i hi j hj => by rw [f263]; exact SR_T hS i hi j hj)
          have hb9 : ∀ i, i < n → (fun z => m1 264 (8 * s + z)) i = (m (117 + 12 * s + 10)) i := (fun i hi => by rw [f264]; exact SR_b hS i hi)
          have hc9 : ∀ i, i < n → (fun z => m1 265 (8 * s + z)) i = (m (117 + 12 * s + 11)) i := (fun i hi => by rw [f265]; exact SR_c hS i hi)
          have hP9 : ∀ i, i < n → (fun z => m1 267 (0 + z)) i = (m 4) i := fun i hi => by
            show m1 267 (0 + i) = m 4 i
            rw [f267, Nat.zero_add]
            exact (RS_pv hR _ (by omega)).symm
          have er := rk_congr (n := n) (fun i hi c hc => kr_congr hA9 hb9 i c hc)
          refine Ct_mono (c_X10_gainAnew1 (d := 11) (S := S) (fz := fz1) (m := m1) (p := p1) (hd := by omega) (s := s) (k := k) (n := n) (g := g) (cp := cp) (hP := hP1) (hk := RS_k2 hR1) (hk12 := hR.1) (hsk := hsk) (hm := hm1) (hn0 := hS.1) (hn := hS.2.1) (hcp := RS_cp2 hR1) (hcpl := hR.2.1) (hg := hg) (h := ⟨hcp, er.trans hrk⟩)) (fun v m2 p2 h => ?_)
          obtain ⟨y, h1, h2, h3, hy⟩ := h
          refine ⟨⟨_, h1, rg_vF _, fun _ => congrArg vF ?_⟩, h2, h3⟩
          have ey : ∀ c, c < n → y c = x0 c := rk_uniq hrk (fun i hi => ((dot_congr (fun c hc => (kr_congr hA9 hb9 i c hc).symm) (fun _ _ => rfl)).trans (hy i hi)).trans (hx0 i hi).symm)
          exact (av_cg hA9 hP9 n (Nat.le_refl n) g hg).trans (av_x ey n g hg)
        · skip
          refine SM_t (w := 2) hR (by omega) (by omega) (lt_gainAnew_2 (t_X9_gainAnewR (d := 10) (S := S) (fz := fz) (m := m) (p := p) (hd := by omega) (s := s) (k := k) (n := n) (g := g) (cp := cp) (hP := hP) (hk := RS_k hR) (hk12 := hR.1) (hsk := hsk) (hm := hS.2.2.1) (hn0 := hS.1) (hn := hS.2.1) (hcp := RS_cp hR) (hcpl := hR.2.1) (hg := hg) (h := hcp) (hr := fun e => hrk (cf_full.mp e)))) (fun fz1 m1 p1 hP1 f hR1 => ?_)
          have hm1 := hm1_of f hS
          have f263 := qf_f f (a := 263) (by omega) (by omega)
          have f264 := qf_f f (a := 264) (by omega) (by omega)
          have f265 := qf_f f (a := 265) (by omega) (by omega)
          have f267 := qf_f f (a := 267) (by omega) (by omega)
          have hA9 : ∀ i, i < n → ∀ j, j < n → (fun z w => m1 263 (64 * s + 8 * z + w)) i j = (fun z => m (117 + 12 * s + 2 + z)) i j := (fun i hi j hj => by rw [f263]; exact SR_A hS i hi j hj)
          have hT9 : ∀ i, i < n → ∀ j, j < n → (fun z w => m1 263 (64 * s + 8 * w + z)) i j = (fun z c => m (117 + 12 * s + 2 + c) z) i j := (fun i hi j hj => by rw [f263]; exact SR_T hS i hi j hj)
          have hb9 : ∀ i, i < n → (fun z => m1 264 (8 * s + z)) i = (m (117 + 12 * s + 10)) i := (fun i hi => by rw [f264]; exact SR_b hS i hi)
          have hc9 : ∀ i, i < n → (fun z => m1 265 (8 * s + z)) i = (m (117 + 12 * s + 11)) i := (fun i hi => by rw [f265]; exact SR_c hS i hi)
          have er := rk_congr (n := n) (fun i hi c hc => kr_congr hA9 hb9 i c hc)
          exact (c_X10_gainAnewC (d := 11) (S := S) (fz := fz1) (m := m1) (p := p1) (hd := by omega) (s := s) (k := k) (n := n) (g := g) (cp := cp) (hP := hP1) (hk := RS_k2 hR1) (hk12 := hR.1) (hsk := hsk) (hm := hm1) (hn0 := hS.1) (hn := hS.2.1) (hcp := RS_cp2 hR1) (hcpl := hR.2.1) (hg := hg) (h := Or.inr (fun e => hrk (er.symm.trans e))))
      · skip
        exact SM_t (w := 2) hR (by omega) (by omega) (lt_gainAnew_2 (Tx_same hP (t_X9_gainAnewC (d := 10) (S := S) (fz := fz) (m := m) (p := p) (hd := by omega) (s := s) (k := k) (n := n) (g := g) (cp := cp) (hP := hP) (hk := RS_k hR) (hk12 := hR.1) (hsk := hsk) (hm := hS.2.2.1) (hn0 := hS.1) (hn := hS.2.1) (hcp := RS_cp hR) (hcpl := hR.2.1) (hg := hg) (h := by omega)))) (fun fz1 m1 p1 hP1 f hR1 => by
          have hm1 := hm1_of f hS
          exact (c_X10_gainAnewC (d := 11) (S := S) (fz := fz1) (m := m1) (p := p1) (hd := by omega) (s := s) (k := k) (n := n) (g := g) (cp := cp) (hP := hP1) (hk := RS_k2 hR1) (hk12 := hR.1) (hsk := hsk) (hm := hm1) (hn0 := hS.1) (hn := hS.2.1) (hcp := RS_cp2 hR1) (hcpl := hR.2.1) (hg := hg) (h := Or.inl (by omega))))
    · skip
      exact SM_t (w := 1) hR (by omega) (by omega) (lt_gainAnew_1 (Tx_same hP (t_X9_gainAnewP (d := 10) (S := S) (fz := fz) (m := m) (p := p) (hd := by omega) (s := s) (k := k) (n := n) (cp := cp) (x := b) (hP := hP) (hk := RS_k hR) (hk12 := hR.1) (hsk := hsk) (hm := hS.2.2.1) (hn0 := hS.1) (hn := hS.2.1) (hcp := RS_cp hR) (hcpl := hR.2.1) (hrx := hb) (h := by omega)))) (fun fz1 m1 p1 hP1 f hR1 => by
        have hm1 := hm1_of f hS
        exact (c_X10_gainAnewP (d := 11) (S := S) (fz := fz1) (m := m1) (p := p1) (hd := by omega) (s := s) (k := k) (n := n) (x := b) (hP := hP1) (hk := RS_k2 hR1) (hk12 := hR.1) (hsk := hsk) (hm := hm1) (hn0 := hS.1) (hn := hS.2.1) (hr := hb) (h := by omega)))
  · skip
    exact SM_t (w := 1) hR (by omega) (by omega) (lt_gainAnew_1 (Tx_same hP (t_X9_gainAnew (d := 10) (S := S) (fz := fz) (m := m) (p := p) (hd := by omega) (s := a) (a1 := b) (k := k) (hP := hP) (hk := RS_k hR) (hk12 := hR.1) (hs := ⟨ha, h⟩)))) (fun fz1 m1 p1 hP1 f hR1 => by
      exact (c_X10_gainAnewS (d := 11) (S := S) (fz := fz1) (m := m1) (p := p1) (hd := by omega) (s := a) (x := b) (k := k) (hP := hP1) (hk := RS_k2 hR1) (hk12 := hR.1) (hr := ha) (h := h)))
theorem sm_observer {S : MC} {fz : Bool} {m : M1} {p : M2} {k cp ci : Nat} (hR : RS k cp ci m) (hP : PI p) (a : Int) (b : Int) (ha : rg a) (hb : rg b) : SM S [.ref 1, .int (iI a), .int (iI b), .ref 280] [.ref 261, .int (iI a), .int (iI b)] k_L_observer k_X10_observer fz m p := by
  have ha9 : -2147483648 ≤ a ∧ a < 2147483648 := ha
  have hb9 : -2147483648 ≤ b ∧ b < 2147483648 := hb
  by_cases h : 0 ≤ a ∧ a < k
  · obtain ⟨s, rfl, hsk⟩ := nat_of h
    obtain ⟨n, hS⟩ := RS_sys hR hsk
    have hn0 := hS.1
    have hn8 := hS.2.1
    have hk12 := hR.1
    have hcp16 := hR.2.1
    by_cases hl : 0 ≤ b ∧ b < (n : Int)
    · obtain ⟨g, rfl, hg⟩ := nat_of hl
      by_cases hcp : 2 * n ≤ cp
      · by_cases hrk : rk n (kr n (fun z c => m (117 + 12 * s + 2 + c) z) (m (117 + 12 * s + 11))) = n
        · obtain ⟨x0, hx0⟩ := rk_ex hrk (fun i => if i + 1 = n then 1 else 0)
          refine SM_q (w := 0) (x := av n (fun z c => m (117 + 12 * s + 2 + c) z) (fun i => m 4 (n + i)) x0 n g) hR (by omega) (WO_q (lr_observer (Ct_mono (c_X9_observer (d := 10) (S := S) (fz := fz) (m := m) (p := p) (hd := by omega) (s := s) (k := k) (n := n) (g := g) (cp := cp) (hP := hP) (hk := RS_k hR) (hk12 := hR.1) (hsk := hsk) (hm := hS.2.2.1) (hn0 := hS.1) (hn := hS.2.1) (hcp := RS_cp hR) (hcpl := hR.2.1) (hg := hg) (h := hcp) (hr := hrk)) (fun v m2 p2 h => by
            obtain ⟨x, h1, hx, h2, h3⟩ := h
            exact ⟨_, h1, av_x (fun c hc => rk_uniq hrk (fun i hi => (hx i hi).trans (hx0 i hi).symm) c hc) n g hg, h2, h3⟩)))) (fun fz1 m1 p1 hP1 f hR1 => ?_)
          have hm1 := hm1_of f hS
          have f263 := qf_f f (a := 263) (by omega) (by omega)
          have f264 := qf_f f (a := 264) (by omega) (by omega)
          have f265 := qf_f f (a := 265) (by omega) (by omega)
          have f267 := qf_f f (a := 267) (by omega) (by omega)
          have hA9 : ∀ i, i < n → ∀ j, j < n → (fun z w => m1 263 (64 * s + 8 * z + w)) i j = (fun z => m (117 + 12 * s + 2 + z)) i j := (fun i hi j hj => by rw [f263]; exact SR_A hS i hi j hj)
          have hT9 : ∀ i, i < n → ∀ j, j < n → (fun z w => m1 263 (64 * s + 8 * w + z)) i j = (fun z c => m (117 + 12 * s + 2 + c) z) i j := (fun i hi j hj => by rw [f263]; exact SR_T hS i hi j hj)
          have hb9 : ∀ i, i < n → (fun z => m1 264 (8 * s + z)) i = (m (117 + 12 * s + 10)) i := (fun i hi => by rw [f264]; exact SR_b hS i hi)
          have hc9 : ∀ i, i < n → (fun z => m1 265 (8 * s + z)) i = (m (117 + 12 * s + 11)) i := (fun i hi => by rw [f265]; exact SR_c hS i hi)
          have hP9 : ∀ i, i < n → (fun z => m1 267 (n + z)) i = (fun i => m 4 (n + i)) i := fun i hi => by
            show m1 267 (n + i) = m 4 (n + i)
            rw [f267]
            exact (RS_pv hR _ (by omega)).symm
          have er := rk_congr (n := n) (fun i hi c hc => kr_congr hT9 hc9 i c hc)
          refine Ct_mono (c_X10_observer1 (d := 11) (S := S) (fz := fz1) (m := m1) (p := p1) (hd := by omega) (s := s) (k := k) (n := n) (g := g) (cp := cp) (hP := hP1) (hk := RS_k2 hR1) (hk12 := hR.1) (hsk := hsk) (hm := hm1) (hn0 := hS.1) (hn := hS.2.1) (hcp := RS_cp2 hR1) (hcpl := hR.2.1) (hg := hg) (h := ⟨hcp, er.trans hrk⟩)) (fun v m2 p2 h => ?_)
          obtain ⟨y, h1, h2, h3, hy⟩ := h
          refine ⟨⟨_, h1, rg_vF _, fun _ => congrArg vF ?_⟩, h2, h3⟩
          have ey : ∀ c, c < n → y c = x0 c := rk_uniq hrk (fun i hi => ((dot_congr (fun c hc => (kr_congr hT9 hc9 i c hc).symm) (fun _ _ => rfl)).trans (hy i hi)).trans (hx0 i hi).symm)
          exact (av_cg hT9 hP9 n (Nat.le_refl n) g hg).trans (av_x ey n g hg)
        · skip
          refine SM_t (w := 2) hR (by omega) (by omega) (lt_observer_2 (t_X9_observerR (d := 10) (S := S) (fz := fz) (m := m) (p := p) (hd := by omega) (s := s) (k := k) (n := n) (g := g) (cp := cp) (hP := hP) (hk := RS_k hR) (hk12 := hR.1) (hsk := hsk) (hm := hS.2.2.1) (hn0 := hS.1) (hn := hS.2.1) (hcp := RS_cp hR) (hcpl := hR.2.1) (hg := hg) (h := hcp) (hr := hrk))) (fun fz1 m1 p1 hP1 f hR1 => ?_)
          have hm1 := hm1_of f hS
          have f263 := qf_f f (a := 263) (by omega) (by omega)
          have f264 := qf_f f (a := 264) (by omega) (by omega)
          have f265 := qf_f f (a := 265) (by omega) (by omega)
          have f267 := qf_f f (a := 267) (by omega) (by omega)
          have hA9 : ∀ i, i < n → ∀ j, j < n → (fun z w => m1 263 (64 * s + 8 * z + w)) i j = (fun z => m (117 + 12 * s + 2 + z)) i j := (fun i hi j hj => by rw [f263]; exact SR_A hS i hi j hj)
          have hT9 : ∀ i, i < n → ∀ j, j < n → (fun z w => m1 263 (64 * s + 8 * w + z)) i j = (fun z c => m (117 + 12 * s + 2 + c) z) i j := (fun i hi j hj => by rw [f263]; exact SR_T hS i hi j hj)
          have hb9 : ∀ i, i < n → (fun z => m1 264 (8 * s + z)) i = (m (117 + 12 * s + 10)) i := (fun i hi => by rw [f264]; exact SR_b hS i hi)
          have hc9 : ∀ i, i < n → (fun z => m1 265 (8 * s + z)) i = (m (117 + 12 * s + 11)) i := (fun i hi => by rw [f265]; exact SR_c hS i hi)
          have er := rk_congr (n := n) (fun i hi c hc => kr_congr hT9 hc9 i c hc)
          exact (c_X10_observerC (d := 11) (S := S) (fz := fz1) (m := m1) (p := p1) (hd := by omega) (s := s) (k := k) (n := n) (g := g) (cp := cp) (hP := hP1) (hk := RS_k2 hR1) (hk12 := hR.1) (hsk := hsk) (hm := hm1) (hn0 := hS.1) (hn := hS.2.1) (hcp := RS_cp2 hR1) (hcpl := hR.2.1) (hg := hg) (h := Or.inr (fun e => hrk (er.symm.trans e))))
      · skip
        exact SM_t (w := 2) hR (by omega) (by omega) (lt_observer_2 (Tx_same hP (t_X9_observerC (d := 10) (S := S) (fz := fz) (m := m) (p := p) (hd := by omega) (s := s) (k := k) (n := n) (g := g) (cp := cp) (hP := hP) (hk := RS_k hR) (hk12 := hR.1) (hsk := hsk) (hm := hS.2.2.1) (hn0 := hS.1) (hn := hS.2.1) (hcp := RS_cp hR) (hcpl := hR.2.1) (hg := hg) (h := by omega)))) (fun fz1 m1 p1 hP1 f hR1 => by
          have hm1 := hm1_of f hS
          exact (c_X10_observerC (d := 11) (S := S) (fz := fz1) (m := m1) (p := p1) (hd := by omega) (s := s) (k := k) (n := n) (g := g) (cp := cp) (hP := hP1) (hk := RS_k2 hR1) (hk12 := hR.1) (hsk := hsk) (hm := hm1) (hn0 := hS.1) (hn := hS.2.1) (hcp := RS_cp2 hR1) (hcpl := hR.2.1) (hg := hg) (h := Or.inl (by omega))))
    · skip
      exact SM_t (w := 1) hR (by omega) (by omega) (lt_observer_1 (Tx_same hP (t_X9_observerP (d := 10) (S := S) (fz := fz) (m := m) (p := p) (hd := by omega) (s := s) (k := k) (n := n) (cp := cp) (x := b) (hP := hP) (hk := RS_k hR) (hk12 := hR.1) (hsk := hsk) (hm := hS.2.2.1) (hn0 := hS.1) (hn := hS.2.1) (hcp := RS_cp hR) (hcpl := hR.2.1) (hrx := hb) (h := by omega)))) (fun fz1 m1 p1 hP1 f hR1 => by
        have hm1 := hm1_of f hS
        exact (c_X10_observerP (d := 11) (S := S) (fz := fz1) (m := m1) (p := p1) (hd := by omega) (s := s) (k := k) (n := n) (x := b) (hP := hP1) (hk := RS_k2 hR1) (hk12 := hR.1) (hsk := hsk) (hm := hm1) (hn0 := hS.1) (hn := hS.2.1) (hr := hb) (h := by omega)))
  · skip
    exact SM_t (w := 1) hR (by omega) (by omega) (lt_observer_1 (Tx_same hP (t_X9_observer (d := 10) (S := S) (fz := fz) (m := m) (p := p) (hd := by omega) (s := a) (a1 := b) (k := k) (hP := hP) (hk := RS_k hR) (hk12 := hR.1) (hs := ⟨ha, h⟩)))) (fun fz1 m1 p1 hP1 f hR1 => by
      exact (c_X10_observerS (d := 11) (S := S) (fz := fz1) (m := m1) (p := p1) (hd := by omega) (s := a) (x := b) (k := k) (hP := hP1) (hk := RS_k2 hR1) (hk12 := hR.1) (hr := ha) (h := h)))
theorem sm_cost {S : MC} {fz : Bool} {m : M1} {p : M2} {k cp ci : Nat} (hR : RS k cp ci m) (hP : PI p) (a : Int) (q : Int) (r : Int) (l : Int) (ha : rg a) (hq : rg q) (hr : rg r) (hl : rg l) : SM S [.ref 1, .int (iI a), .int (iI q), .int (iI r), .int (iI l), .ref 280] [.ref 261, .int (iI a), .int (iI q), .int (iI r), .int (iI l)] k_L_cost k_X10_cost fz m p := by
  have ha9 : -2147483648 ≤ a ∧ a < 2147483648 := ha
  have hq9 : -2147483648 ≤ q ∧ q < 2147483648 := hq
  have hr9 : -2147483648 ≤ r ∧ r < 2147483648 := hr
  have hl9 : -2147483648 ≤ l ∧ l < 2147483648 := hl
  by_cases h : 0 ≤ a ∧ a < k
  · obtain ⟨s, rfl, hsk⟩ := nat_of h
    obtain ⟨n, hS⟩ := RS_sys hR hsk
    have hn0 := hS.1
    have hn8 := hS.2.1
    have hk12 := hR.1
    by_cases q9 : 0 ≤ q ∧ q ≤ 10006
    · by_cases r9 : 0 ≤ r ∧ r ≤ 10006
      · by_cases l9 : 0 ≤ l ∧ l < (21 : Nat)
        · obtain ⟨l, rfl, hl21⟩ := nat_of l9
          have eq9 : q = vF (toF q) := by rw [vF_toF]; omega
          have er9 : r = vF (toF r) := by rw [vF_toF]; omega
          generalize toF q = q0 at eq9
          generalize toF r = r0 at er9
          subst eq9
          subst er9
          have hmcf : ∀ m1 : M1, Fr qf m m1 → ∀ z, ∀ i, i < n → ∀ j, j < n → mc n (fun z w => m1 263 (64 * s + 8 * z + w)) (fun z => m1 264 (8 * s + z)) (fun z => m1 265 (8 * s + z)) q0 r0 z i j = (rc n (fun z => m (117 + 12 * s + 2 + z)) (m (117 + 12 * s + 10)) (m (117 + 12 * s + 11)) q0 r0) z i j := fun m1 f z i hi j hj => by
            have hm1 := hm1_of f hS
            have f263 := qf_f f (a := 263) (by omega) (by omega)
            have f264 := qf_f f (a := 264) (by omega) (by omega)
            have f265 := qf_f f (a := 265) (by omega) (by omega)
            have f267 := qf_f f (a := 267) (by omega) (by omega)
            have hA9 : ∀ i, i < n → ∀ j, j < n → (fun z w => m1 263 (64 * s + 8 * z + w)) i j = (fun z => m (117 + 12 * s + 2 + z)) i j := (fun i hi j hj => by rw [f263]; exact SR_A hS i hi j hj)
            have hT9 : ∀ i, i < n → ∀ j, j < n → (fun z w => m1 263 (64 * s + 8 * w + z)) i j = (fun z c => m (117 + 12 * s + 2 + c) z) i j := (fun i hi j hj => by rw [f263]; exact SR_T hS i hi j hj)
            have hb9 : ∀ i, i < n → (fun z => m1 264 (8 * s + z)) i = (m (117 + 12 * s + 10)) i := (fun i hi => by rw [f264]; exact SR_b hS i hi)
            have hc9 : ∀ i, i < n → (fun z => m1 265 (8 * s + z)) i = (m (117 + 12 * s + 11)) i := (fun i hi => by rw [f265]; exact SR_c hS i hi)
            exact (mc_rc z i hi j hj).trans (rc_cg hA9 hb9 hc9 z i hi j hj)
          have hrmf : ∀ m1 : M1, Fr qf m m1 → ∀ z, rm n (mc n (fun z w => m1 263 (64 * s + 8 * z + w)) (fun z => m1 264 (8 * s + z)) (fun z => m1 265 (8 * s + z)) q0 r0 z) (fun z => m1 264 (8 * s + z)) r0 = rm n ((rc n (fun z => m (117 + 12 * s + 2 + z)) (m (117 + 12 * s + 10)) (m (117 + 12 * s + 11)) q0 r0) z) (m (117 + 12 * s + 10)) r0 := fun m1 f z => by
            have hm1 := hm1_of f hS
            have f263 := qf_f f (a := 263) (by omega) (by omega)
            have f264 := qf_f f (a := 264) (by omega) (by omega)
            have f265 := qf_f f (a := 265) (by omega) (by omega)
            have f267 := qf_f f (a := 267) (by omega) (by omega)
            have hA9 : ∀ i, i < n → ∀ j, j < n → (fun z w => m1 263 (64 * s + 8 * z + w)) i j = (fun z => m (117 + 12 * s + 2 + z)) i j := (fun i hi j hj => by rw [f263]; exact SR_A hS i hi j hj)
            have hT9 : ∀ i, i < n → ∀ j, j < n → (fun z w => m1 263 (64 * s + 8 * w + z)) i j = (fun z c => m (117 + 12 * s + 2 + c) z) i j := (fun i hi j hj => by rw [f263]; exact SR_T hS i hi j hj)
            have hb9 : ∀ i, i < n → (fun z => m1 264 (8 * s + z)) i = (m (117 + 12 * s + 10)) i := (fun i hi => by rw [f264]; exact SR_b hS i hi)
            have hc9 : ∀ i, i < n → (fun z => m1 265 (8 * s + z)) i = (m (117 + 12 * s + 11)) i := (fun i hi => by rw [f265]; exact SR_c hS i hi)
            exact rm_cg (hmcf m1 f z) hb9
          rcases first_of (P := fun z => rm n ((rc n (fun z => m (117 + 12 * s + 2 + z)) (m (117 + 12 * s + 10)) (m (117 + 12 * s + 11)) q0 r0) z) (m (117 + 12 * s + 10)) r0 = 0) l with hz | ⟨l0, z1, z2, z3⟩
          · refine SM_q (w := 0) (x := sm n (fun i => sm n (fun j => (rc n (fun z => m (117 + 12 * s + 2 + z)) (m (117 + 12 * s + 10)) (m (117 + 12 * s + 11)) q0 r0) l i j))) hR (by omega) (WO_q (lr_cost (Ct_mono (c_X9_cost (d := 10) (S := S) (fz := fz) (m := m) (p := p) (hd := by omega) (s := s) (k := k) (n := n) (l := l) (q := q0) (r := r0) (hP := hP) (hk := RS_k hR) (hk12 := hR.1) (hsk := hsk) (hm := hS.2.2.1) (hn0 := hS.1) (hn := hS.2.1) (hl := by omega) (hr := hz)) (fun v m2 p2 h => ⟨_, h.1, rfl, h.2.1 ▸ hP, h.2.2⟩)))) (fun fz1 m1 p1 hP1 f hR1 => ?_)
            have hm1 := hm1_of f hS
            refine Ct_mono (c_X10_cost1 (d := 11) (S := S) (fz := fz1) (m := m1) (p := p1) (hd := by omega) (s := s) (k := k) (n := n) (l := l) (q := q0) (r := r0) (hP := hP1) (hk := RS_k2 hR1) (hk12 := hR.1) (hsk := hsk) (hm := hm1) (hn0 := hS.1) (hn := hS.2.1) (hl := by omega) (hr := fun z hz9 e => hz z hz9 ((hrmf m1 f z).symm.trans e))) (fun v m2 p2 h => ⟨⟨_, h.1, rg_vF _, fun _ => ?_⟩, h.2.1, h.2.2⟩)
            exact congrArg vF (sm_congr (fun i hi => sm_congr (fun j hj => hmcf m1 f l i hi j hj)))
          · refine SM_t (w := 3) hR (by omega) (by omega) (lt_cost_3 (Tx_samep hP (t_X9_costM (d := 10) (S := S) (fz := fz) (m := m) (p := p) (hd := by omega) (s := s) (k := k) (n := n) (l := l) (l0 := l0) (q := q0) (r := r0) (hP := hP) (hk := RS_k hR) (hk12 := hR.1) (hsk := hsk) (hm := hS.2.2.1) (hn0 := hS.1) (hn := hS.2.1) (hl := ⟨z1, by omega⟩) (hr := z3) (hr0 := z2)))) (fun fz1 m1 p1 hP1 f hR1 => ?_)
            have hm1 := hm1_of f hS
            exact (c_X10_costM (d := 11) (S := S) (fz := fz1) (m := m1) (p := p1) (hd := by omega) (s := s) (k := k) (n := n) (l := l) (l0 := l0) (q := q0) (r := r0) (hP := hP1) (hk := RS_k2 hR1) (hk12 := hR.1) (hsk := hsk) (hm := hm1) (hn0 := hS.1) (hn := hS.2.1) (hl := ⟨z1, by omega⟩) (hr := fun z hz9 e => z3 z hz9 ((hrmf m1 f z).symm.trans e)) (hr0 := (hrmf m1 f l0).trans z2))
        · skip
          exact SM_t (w := 2) hR (by omega) (by omega) (lt_cost_2 (Tx_same hP (t_X9_costL (d := 10) (S := S) (fz := fz) (m := m) (p := p) (hd := by omega) (s := s) (k := k) (n := n) (q := q) (r := r) (l := l) (hP := hP) (hk := RS_k hR) (hk12 := hR.1) (hsk := hsk) (hm := hS.2.2.1) (hn0 := hS.1) (hn := hS.2.1) (h1 := q9) (h2 := r9) (hr := hl) (h := by omega)))) (fun fz1 m1 p1 hP1 f hR1 => by
            have hm1 := hm1_of f hS
            exact (c_X10_costL (d := 11) (S := S) (fz := fz1) (m := m1) (p := p1) (hd := by omega) (s := s) (k := k) (n := n) (q := q) (r := r) (l := l) (hP := hP1) (hk := RS_k2 hR1) (hk12 := hR.1) (hsk := hsk) (hm := hm1) (hn0 := hS.1) (hn := hS.2.1) (hrq := hq) (hrr := hr) (hrl := hl) (hq9 := q9) (hr9 := r9) (hl9 := by omega)))
      · skip
        exact SM_t (w := 2) hR (by omega) (by omega) (lt_cost_2 (Tx_same hP (t_X9_costR (d := 10) (S := S) (fz := fz) (m := m) (p := p) (hd := by omega) (s := s) (k := k) (n := n) (q := q) (r := r) (l := l) (hP := hP) (hk := RS_k hR) (hk12 := hR.1) (hsk := hsk) (hm := hS.2.2.1) (hn0 := hS.1) (hn := hS.2.1) (h1 := q9) (hr := hr) (h := by omega)))) (fun fz1 m1 p1 hP1 f hR1 => by
          have hm1 := hm1_of f hS
          exact (c_X10_costR (d := 11) (S := S) (fz := fz1) (m := m1) (p := p1) (hd := by omega) (s := s) (k := k) (n := n) (q := q) (r := r) (l := l) (hP := hP1) (hk := RS_k2 hR1) (hk12 := hR.1) (hsk := hsk) (hm := hm1) (hn0 := hS.1) (hn := hS.2.1) (hrq := hq) (hrr := hr) (hrl := hl) (hq9 := q9) (hr9 := by omega)))
    · skip
      exact SM_t (w := 2) hR (by omega) (by omega) (lt_cost_2 (Tx_same hP (t_X9_costQ (d := 10) (S := S) (fz := fz) (m := m) (p := p) (hd := by omega) (s := s) (k := k) (n := n) (q := q) (r := r) (l := l) (hP := hP) (hk := RS_k hR) (hk12 := hR.1) (hsk := hsk) (hm := hS.2.2.1) (hn0 := hS.1) (hn := hS.2.1) (hr := hq) (h := by omega)))) (fun fz1 m1 p1 hP1 f hR1 => by
        have hm1 := hm1_of f hS
        exact (c_X10_costQ (d := 11) (S := S) (fz := fz1) (m := m1) (p := p1) (hd := by omega) (s := s) (k := k) (n := n) (q := q) (r := r) (l := l) (hP := hP1) (hk := RS_k2 hR1) (hk12 := hR.1) (hsk := hsk) (hm := hm1) (hn0 := hS.1) (hn := hS.2.1) (hrq := hq) (hrr := hr) (hrl := hl) (hq9 := by omega)))
  · skip
    by_cases q9 : 0 ≤ q ∧ q ≤ 10006
    · by_cases r9 : 0 ≤ r ∧ r ≤ 10006
      · by_cases l9 : 0 ≤ l ∧ l ≤ 20
        · skip
          exact SM_t (w := 1) hR (by omega) (by omega) (lt_cost_1 (Tx_same hP (t_X9_cost (d := 10) (S := S) (fz := fz) (m := m) (p := p) (hd := by omega) (s := a) (a1 := q) (a2 := r) (a3 := l) (k := k) (hP := hP) (hk := RS_k hR) (hk12 := hR.1) (hs := ⟨ha, h⟩)))) (fun fz1 m1 p1 hP1 f hR1 => by
            exact (c_X10_costSY (d := 11) (S := S) (fz := fz1) (m := m1) (p := p1) (hd := by omega) (s := a) (k := k) (q := q) (r := r) (l := l) (hP := hP1) (hk := RS_k2 hR1) (hk12 := hR.1) (hr := ha) (h := h) (hrq := hq) (hrr := hr) (hrl := hl) (hq9 := q9) (hr9 := r9) (hl9 := l9)))
        · skip
          exact SM_t (w := 1) hR (by omega) (by omega) (lt_cost_1 (Tx_same hP (t_X9_cost (d := 10) (S := S) (fz := fz) (m := m) (p := p) (hd := by omega) (s := a) (a1 := q) (a2 := r) (a3 := l) (k := k) (hP := hP) (hk := RS_k hR) (hk12 := hR.1) (hs := ⟨ha, h⟩)))) (fun fz1 m1 p1 hP1 f hR1 => by
            exact (c_X10_costSL (d := 11) (S := S) (fz := fz1) (m := m1) (p := p1) (hd := by omega) (s := a) (k := k) (q := q) (r := r) (l := l) (hP := hP1) (hk := RS_k2 hR1) (hk12 := hR.1) (hr := ha) (h := h) (hrq := hq) (hrr := hr) (hrl := hl) (hq9 := q9) (hr9 := r9) (hl9 := by omega)))
      · skip
        exact SM_t (w := 1) hR (by omega) (by omega) (lt_cost_1 (Tx_same hP (t_X9_cost (d := 10) (S := S) (fz := fz) (m := m) (p := p) (hd := by omega) (s := a) (a1 := q) (a2 := r) (a3 := l) (k := k) (hP := hP) (hk := RS_k hR) (hk12 := hR.1) (hs := ⟨ha, h⟩)))) (fun fz1 m1 p1 hP1 f hR1 => by
          exact (c_X10_costSR (d := 11) (S := S) (fz := fz1) (m := m1) (p := p1) (hd := by omega) (s := a) (k := k) (q := q) (r := r) (l := l) (hP := hP1) (hk := RS_k2 hR1) (hk12 := hR.1) (hr := ha) (h := h) (hrq := hq) (hrr := hr) (hrl := hl) (hq9 := q9) (hr9 := by omega)))
    · skip
      exact SM_t (w := 1) hR (by omega) (by omega) (lt_cost_1 (Tx_same hP (t_X9_cost (d := 10) (S := S) (fz := fz) (m := m) (p := p) (hd := by omega) (s := a) (a1 := q) (a2 := r) (a3 := l) (k := k) (hP := hP) (hk := RS_k hR) (hk12 := hR.1) (hs := ⟨ha, h⟩)))) (fun fz1 m1 p1 hP1 f hR1 => by
        exact (c_X10_costSQ (d := 11) (S := S) (fz := fz1) (m := m1) (p := p1) (hd := by omega) (s := a) (k := k) (q := q) (r := r) (l := l) (hP := hP1) (hk := RS_k2 hR1) (hk12 := hR.1) (hr := ha) (h := h) (hrq := hq) (hrr := hr) (hrl := hl) (hq9 := by omega)))
theorem sm_costAnew {S : MC} {fz : Bool} {m : M1} {p : M2} {k cp ci : Nat} (hR : RS k cp ci m) (hP : PI p) (a : Int) (q : Int) (r : Int) (l : Int) (ha : rg a) (hq : rg q) (hr : rg r) (hl : rg l) : SM S [.ref 1, .int (iI a), .int (iI q), .int (iI r), .int (iI l), .ref 280] [.ref 261, .int (iI a), .int (iI q), .int (iI r), .int (iI l)] k_L_costAnew k_X10_costAnew fz m p := by
  have ha9 : -2147483648 ≤ a ∧ a < 2147483648 := ha
  have hq9 : -2147483648 ≤ q ∧ q < 2147483648 := hq
  have hr9 : -2147483648 ≤ r ∧ r < 2147483648 := hr
  have hl9 : -2147483648 ≤ l ∧ l < 2147483648 := hl
  by_cases h : 0 ≤ a ∧ a < k
  · obtain ⟨s, rfl, hsk⟩ := nat_of h
    obtain ⟨n, hS⟩ := RS_sys hR hsk
    have hn0 := hS.1
    have hn8 := hS.2.1
    have hk12 := hR.1
    by_cases q9 : 0 ≤ q ∧ q ≤ 10006
    · by_cases r9 : 0 ≤ r ∧ r ≤ 10006
      · by_cases l9 : 0 ≤ l ∧ l < (21 : Nat)
        · obtain ⟨l, rfl, hl21⟩ := nat_of l9
          have eq9 : q = vF (toF q) := by rw [vF_toF]; omega
          have er9 : r = vF (toF r) := by rw [vF_toF]; omega
          generalize toF q = q0 at eq9
          generalize toF r = r0 at er9
          subst eq9
          subst er9
          have hmcf : ∀ m1 : M1, Fr qf m m1 → ∀ z, ∀ i, i < n → ∀ j, j < n → mc n (fun z w => m1 263 (64 * s + 8 * z + w)) (fun z => m1 264 (8 * s + z)) (fun z => m1 265 (8 * s + z)) q0 r0 z i j = (rc n (fun z => m (117 + 12 * s + 2 + z)) (m (117 + 12 * s + 10)) (m (117 + 12 * s + 11)) q0 r0) z i j := fun m1 f z i hi j hj => by
            have hm1 := hm1_of f hS
            have f263 := qf_f f (a := 263) (by omega) (by omega)
            have f264 := qf_f f (a := 264) (by omega) (by omega)
            have f265 := qf_f f (a := 265) (by omega) (by omega)
            have f267 := qf_f f (a := 267) (by omega) (by omega)
            have hA9 : ∀ i, i < n → ∀ j, j < n → (fun z w => m1 263 (64 * s + 8 * z + w)) i j = (fun z => m (117 + 12 * s + 2 + z)) i j := (fun i hi j hj => by rw [f263]; exact SR_A hS i hi j hj)
            have hT9 : ∀ i, i < n → ∀ j, j < n → (fun z w => m1 263 (64 * s + 8 * w + z)) i j = (fun z c => m (117 + 12 * s + 2 + c) z) i j := (fun i hi j hj => by rw [f263]; exact SR_T hS i hi j hj)
            have hb9 : ∀ i, i < n → (fun z => m1 264 (8 * s + z)) i = (m (117 + 12 * s + 10)) i := (fun i hi => by rw [f264]; exact SR_b hS i hi)
            have hc9 : ∀ i, i < n → (fun z => m1 265 (8 * s + z)) i = (m (117 + 12 * s + 11)) i := (fun i hi => by rw [f265]; exact SR_c hS i hi)
            exact (mc_rc z i hi j hj).trans (rc_cg hA9 hb9 hc9 z i hi j hj)
          have hrmf : ∀ m1 : M1, Fr qf m m1 → ∀ z, rm n (mc n (fun z w => m1 263 (64 * s + 8 * z + w)) (fun z => m1 264 (8 * s + z)) (fun z => m1 265 (8 * s + z)) q0 r0 z) (fun z => m1 264 (8 * s + z)) r0 = rm n ((rc n (fun z => m (117 + 12 * s + 2 + z)) (m (117 + 12 * s + 10)) (m (117 + 12 * s + 11)) q0 r0) z) (m (117 + 12 * s + 10)) r0 := fun m1 f z => by
            have hm1 := hm1_of f hS
            have f263 := qf_f f (a := 263) (by omega) (by omega)
            have f264 := qf_f f (a := 264) (by omega) (by omega)
            have f265 := qf_f f (a := 265) (by omega) (by omega)
            have f267 := qf_f f (a := 267) (by omega) (by omega)
            have hA9 : ∀ i, i < n → ∀ j, j < n → (fun z w => m1 263 (64 * s + 8 * z + w)) i j = (fun z => m (117 + 12 * s + 2 + z)) i j := (fun i hi j hj => by rw [f263]; exact SR_A hS i hi j hj)
            have hT9 : ∀ i, i < n → ∀ j, j < n → (fun z w => m1 263 (64 * s + 8 * w + z)) i j = (fun z c => m (117 + 12 * s + 2 + c) z) i j := (fun i hi j hj => by rw [f263]; exact SR_T hS i hi j hj)
            have hb9 : ∀ i, i < n → (fun z => m1 264 (8 * s + z)) i = (m (117 + 12 * s + 10)) i := (fun i hi => by rw [f264]; exact SR_b hS i hi)
            have hc9 : ∀ i, i < n → (fun z => m1 265 (8 * s + z)) i = (m (117 + 12 * s + 11)) i := (fun i hi => by rw [f265]; exact SR_c hS i hi)
            exact rm_cg (hmcf m1 f z) hb9
          rcases first_of (P := fun z => rm n ((rc n (fun z => m (117 + 12 * s + 2 + z)) (m (117 + 12 * s + 10)) (m (117 + 12 * s + 11)) q0 r0) z) (m (117 + 12 * s + 10)) r0 = 0) l with hz | ⟨l0, z1, z2, z3⟩
          · refine SM_q (w := 0) (x := sm n (fun i => sm n (fun j => (rc n (fun z => m (117 + 12 * s + 2 + z)) (m (117 + 12 * s + 10)) (m (117 + 12 * s + 11)) q0 r0) l i j))) hR (by omega) (WO_q (lr_costAnew (Ct_mono (c_X9_costAnew (d := 10) (S := S) (fz := fz) (m := m) (p := p) (hd := by omega) (s := s) (k := k) (n := n) (l := l) (q := q0) (r := r0) (hP := hP) (hk := RS_k hR) (hk12 := hR.1) (hsk := hsk) (hm := hS.2.2.1) (hn0 := hS.1) (hn := hS.2.1) (hl := by omega) (hr := hz)) (fun v m2 p2 h => ⟨_, h.1, cost_eq hz, h.2.1 ▸ hP, h.2.2⟩)))) (fun fz1 m1 p1 hP1 f hR1 => ?_)
            have hm1 := hm1_of f hS
            refine Ct_mono (c_X10_costAnew1 (d := 11) (S := S) (fz := fz1) (m := m1) (p := p1) (hd := by omega) (s := s) (k := k) (n := n) (l := l) (q := q0) (r := r0) (hP := hP1) (hk := RS_k2 hR1) (hk12 := hR.1) (hsk := hsk) (hm := hm1) (hn0 := hS.1) (hn := hS.2.1) (hl := by omega) (hr := fun z hz9 e => hz z hz9 ((hrmf m1 f z).symm.trans e))) (fun v m2 p2 h => ⟨⟨_, h.1, rg_vF _, fun _ => ?_⟩, h.2.1, h.2.2⟩)
            exact congrArg vF (sm_congr (fun i hi => sm_congr (fun j hj => hmcf m1 f l i hi j hj)))
          · refine SM_t (w := 3) hR (by omega) (by omega) (lt_costAnew_3 (Tx_samep hP (t_X9_costAnewM (d := 10) (S := S) (fz := fz) (m := m) (p := p) (hd := by omega) (s := s) (k := k) (n := n) (l := l) (l0 := l0) (q := q0) (r := r0) (hP := hP) (hk := RS_k hR) (hk12 := hR.1) (hsk := hsk) (hm := hS.2.2.1) (hn0 := hS.1) (hn := hS.2.1) (hl := ⟨z1, by omega⟩) (hr := z3) (hr0 := z2)))) (fun fz1 m1 p1 hP1 f hR1 => ?_)
            have hm1 := hm1_of f hS
            exact (c_X10_costAnewM (d := 11) (S := S) (fz := fz1) (m := m1) (p := p1) (hd := by omega) (s := s) (k := k) (n := n) (l := l) (l0 := l0) (q := q0) (r := r0) (hP := hP1) (hk := RS_k2 hR1) (hk12 := hR.1) (hsk := hsk) (hm := hm1) (hn0 := hS.1) (hn := hS.2.1) (hl := ⟨z1, by omega⟩) (hr := fun z hz9 e => z3 z hz9 ((hrmf m1 f z).symm.trans e)) (hr0 := (hrmf m1 f l0).trans z2))
        · skip
          exact SM_t (w := 2) hR (by omega) (by omega) (lt_costAnew_2 (Tx_same hP (t_X9_costAnewL (d := 10) (S := S) (fz := fz) (m := m) (p := p) (hd := by omega) (s := s) (k := k) (n := n) (q := q) (r := r) (l := l) (hP := hP) (hk := RS_k hR) (hk12 := hR.1) (hsk := hsk) (hm := hS.2.2.1) (hn0 := hS.1) (hn := hS.2.1) (h1 := q9) (h2 := r9) (hr := hl) (h := by omega)))) (fun fz1 m1 p1 hP1 f hR1 => by
            have hm1 := hm1_of f hS
            exact (c_X10_costAnewL (d := 11) (S := S) (fz := fz1) (m := m1) (p := p1) (hd := by omega) (s := s) (k := k) (n := n) (q := q) (r := r) (l := l) (hP := hP1) (hk := RS_k2 hR1) (hk12 := hR.1) (hsk := hsk) (hm := hm1) (hn0 := hS.1) (hn := hS.2.1) (hrq := hq) (hrr := hr) (hrl := hl) (hq9 := q9) (hr9 := r9) (hl9 := by omega)))
      · skip
        exact SM_t (w := 2) hR (by omega) (by omega) (lt_costAnew_2 (Tx_same hP (t_X9_costAnewR (d := 10) (S := S) (fz := fz) (m := m) (p := p) (hd := by omega) (s := s) (k := k) (n := n) (q := q) (r := r) (l := l) (hP := hP) (hk := RS_k hR) (hk12 := hR.1) (hsk := hsk) (hm := hS.2.2.1) (hn0 := hS.1) (hn := hS.2.1) (h1 := q9) (hr := hr) (h := by omega)))) (fun fz1 m1 p1 hP1 f hR1 => by
          have hm1 := hm1_of f hS
          exact (c_X10_costAnewR (d := 11) (S := S) (fz := fz1) (m := m1) (p := p1) (hd := by omega) (s := s) (k := k) (n := n) (q := q) (r := r) (l := l) (hP := hP1) (hk := RS_k2 hR1) (hk12 := hR.1) (hsk := hsk) (hm := hm1) (hn0 := hS.1) (hn := hS.2.1) (hrq := hq) (hrr := hr) (hrl := hl) (hq9 := q9) (hr9 := by omega)))
    · skip
      exact SM_t (w := 2) hR (by omega) (by omega) (lt_costAnew_2 (Tx_same hP (t_X9_costAnewQ (d := 10) (S := S) (fz := fz) (m := m) (p := p) (hd := by omega) (s := s) (k := k) (n := n) (q := q) (r := r) (l := l) (hP := hP) (hk := RS_k hR) (hk12 := hR.1) (hsk := hsk) (hm := hS.2.2.1) (hn0 := hS.1) (hn := hS.2.1) (hr := hq) (h := by omega)))) (fun fz1 m1 p1 hP1 f hR1 => by
        have hm1 := hm1_of f hS
        exact (c_X10_costAnewQ (d := 11) (S := S) (fz := fz1) (m := m1) (p := p1) (hd := by omega) (s := s) (k := k) (n := n) (q := q) (r := r) (l := l) (hP := hP1) (hk := RS_k2 hR1) (hk12 := hR.1) (hsk := hsk) (hm := hm1) (hn0 := hS.1) (hn := hS.2.1) (hrq := hq) (hrr := hr) (hrl := hl) (hq9 := by omega)))
  · skip
    by_cases q9 : 0 ≤ q ∧ q ≤ 10006
    · by_cases r9 : 0 ≤ r ∧ r ≤ 10006
      · by_cases l9 : 0 ≤ l ∧ l ≤ 20
        · skip
          exact SM_t (w := 1) hR (by omega) (by omega) (lt_costAnew_1 (Tx_same hP (t_X9_costAnew (d := 10) (S := S) (fz := fz) (m := m) (p := p) (hd := by omega) (s := a) (a1 := q) (a2 := r) (a3 := l) (k := k) (hP := hP) (hk := RS_k hR) (hk12 := hR.1) (hs := ⟨ha, h⟩)))) (fun fz1 m1 p1 hP1 f hR1 => by
            exact (c_X10_costAnewSY (d := 11) (S := S) (fz := fz1) (m := m1) (p := p1) (hd := by omega) (s := a) (k := k) (q := q) (r := r) (l := l) (hP := hP1) (hk := RS_k2 hR1) (hk12 := hR.1) (hr := ha) (h := h) (hrq := hq) (hrr := hr) (hrl := hl) (hq9 := q9) (hr9 := r9) (hl9 := l9)))
        · skip
          exact SM_t (w := 1) hR (by omega) (by omega) (lt_costAnew_1 (Tx_same hP (t_X9_costAnew (d := 10) (S := S) (fz := fz) (m := m) (p := p) (hd := by omega) (s := a) (a1 := q) (a2 := r) (a3 := l) (k := k) (hP := hP) (hk := RS_k hR) (hk12 := hR.1) (hs := ⟨ha, h⟩)))) (fun fz1 m1 p1 hP1 f hR1 => by
            exact (c_X10_costAnewSL (d := 11) (S := S) (fz := fz1) (m := m1) (p := p1) (hd := by omega) (s := a) (k := k) (q := q) (r := r) (l := l) (hP := hP1) (hk := RS_k2 hR1) (hk12 := hR.1) (hr := ha) (h := h) (hrq := hq) (hrr := hr) (hrl := hl) (hq9 := q9) (hr9 := r9) (hl9 := by omega)))
      · skip
        exact SM_t (w := 1) hR (by omega) (by omega) (lt_costAnew_1 (Tx_same hP (t_X9_costAnew (d := 10) (S := S) (fz := fz) (m := m) (p := p) (hd := by omega) (s := a) (a1 := q) (a2 := r) (a3 := l) (k := k) (hP := hP) (hk := RS_k hR) (hk12 := hR.1) (hs := ⟨ha, h⟩)))) (fun fz1 m1 p1 hP1 f hR1 => by
          exact (c_X10_costAnewSR (d := 11) (S := S) (fz := fz1) (m := m1) (p := p1) (hd := by omega) (s := a) (k := k) (q := q) (r := r) (l := l) (hP := hP1) (hk := RS_k2 hR1) (hk12 := hR.1) (hr := ha) (h := h) (hrq := hq) (hrr := hr) (hrl := hl) (hq9 := q9) (hr9 := by omega)))
    · skip
      exact SM_t (w := 1) hR (by omega) (by omega) (lt_costAnew_1 (Tx_same hP (t_X9_costAnew (d := 10) (S := S) (fz := fz) (m := m) (p := p) (hd := by omega) (s := a) (a1 := q) (a2 := r) (a3 := l) (k := k) (hP := hP) (hk := RS_k hR) (hk12 := hR.1) (hs := ⟨ha, h⟩)))) (fun fz1 m1 p1 hP1 f hR1 => by
        exact (c_X10_costAnewSQ (d := 11) (S := S) (fz := fz1) (m := m1) (p := p1) (hd := by omega) (s := a) (k := k) (q := q) (r := r) (l := l) (hP := hP1) (hk := RS_k2 hR1) (hk12 := hR.1) (hr := ha) (h := h) (hrq := hq) (hrr := hr) (hrl := hl) (hq9 := by omega)))
theorem sm_at {S : MC} {fz : Bool} {m : M1} {p : M2} {k cp ci : Nat} (hR : RS k cp ci m) (hP : PI p) (a : Int) (w : Int) (i : Int) (j : Int) (ha : rg a) (hw : rg w) (hi : rg i) (hj : rg j) : SM S [.ref 1, .int (iI a), .int (iI w), .int (iI i), .int (iI j), .ref 280] [.ref 261, .int (iI a), .int (iI w), .int (iI i), .int (iI j)] k_L_at k_X10_at fz m p := by
  have ha9 : -2147483648 ≤ a ∧ a < 2147483648 := ha
  have hw9 : -2147483648 ≤ w ∧ w < 2147483648 := hw
  have hi9 : -2147483648 ≤ i ∧ i < 2147483648 := hi
  have hj9 : -2147483648 ≤ j ∧ j < 2147483648 := hj
  by_cases h : 0 ≤ a ∧ a < k
  · obtain ⟨s, rfl, hsk⟩ := nat_of h
    obtain ⟨n, hS⟩ := RS_sys hR hsk
    have hn0 := hS.1
    have hn8 := hS.2.1
    have hk12 := hR.1
    by_cases w9 : w < 0 ∨ 3 < w
    · skip
      exact SM_t (w := 1) hR (by omega) (by omega) (lt_at_1 (Tx_same hP (t_X9_atW (d := 10) (S := S) (fz := fz) (m := m) (p := p) (hd := by omega) (s := s) (k := k) (n := n) (w := w) (x := i) (y := j) (hP := hP) (hk := RS_k hR) (hk12 := hR.1) (hsk := hsk) (hm := hS.2.2.1) (hn0 := hS.1) (hn := hS.2.1) (hr := hw) (h := w9)))) (fun fz1 m1 p1 hP1 f hR1 => by
        have hm1 := hm1_of f hS
        exact (Ct_mono (c_X10_atW (d := 11) (S := S) (fz := fz1) (m := m1) (p := p1) (hd := by omega) (s := s) (k := k) (n := n) (w := w) (i := i) (j := j) (hP := hP1) (hk := RS_k2 hR1) (hk12 := hR.1) (hsk := hsk) (hm := hm1) (hn0 := hS.1) (hn := hS.2.1) (hr := hw) (h := w9)) (fun v m2 p2 h => ⟨h.1, h.2.1, QMx_w h.2.2 rfl⟩)))
    · rcases (show w = 0 ∨ w = 1 ∨ w = 2 ∨ w = 3 by omega) with rfl | rfl | rfl | rfl
      · by_cases i9 : 0 ≤ i ∧ i < (n : Int)
        · by_cases j9 : 0 ≤ j ∧ j < (n : Int)
          · obtain ⟨i, rfl, i8⟩ := nat_of i9
            obtain ⟨j, rfl, j8⟩ := nat_of j9
            refine SM_q (w := 0) (x := m (117 + 12 * s + 2 + i) j) hR (by omega) (WO_q (lr_at (Ct_mono (c_X9_at0 (d := 10) (S := S) (fz := fz) (m := m) (p := p) (hd := by omega) (s := s) (k := k) (n := n) (i := i) (j := j) (hP := hP) (hk := RS_k hR) (hk12 := hR.1) (hsk := hsk) (hm := hS.2.2.1) (hn0 := hS.1) (hn := hS.2.1) (hi := i8) (hj := j8)) (fun v m2 p2 h => ⟨_, h.1, rfl, h.2.2 ▸ hP, by rw [← h.2.1]; exact Fr_rfl⟩)))) (fun fz1 m1 p1 hP1 f hR1 => ?_)
            have hm1 := hm1_of f hS
            have f263 := qf_f f (a := 263) (by omega) (by omega)
            have f264 := qf_f f (a := 264) (by omega) (by omega)
            have f265 := qf_f f (a := 265) (by omega) (by omega)
            have f266 := qf_f f (a := 266) (by omega) (by omega)
            have f267 := qf_f f (a := 267) (by omega) (by omega)
            have f268 := qf_f f (a := 268) (by omega) (by omega)
            refine Ct_mono (c_X10_at0 (d := 11) (S := S) (fz := fz1) (m := m1) (p := p1) (hd := by omega) (s := s) (k := k) (n := n) (i := i) (j := j) (hP := hP1) (hk := RS_k2 hR1) (hk12 := hR.1) (hsk := hsk) (hm := hm1) (hn0 := hS.1) (hn := hS.2.1) (hi := i8) (hj := j8)) (fun v m2 p2 h => ⟨⟨_, h.1, rg_vF _, fun _ => ?_⟩, h.2.1, QMx_w h.2.2 rfl⟩)
            rw [f263, SR_A hS i i8 j j8]
          · skip
            exact SM_t (w := 1) hR (by omega) (by omega) (lt_at_1 (Tx_same hP (t_X9_atE4 (d := 10) (S := S) (fz := fz) (m := m) (p := p) (hd := by omega) (s := s) (k := k) (n := n) (x := i) (y := j) (hP := hP) (hk := RS_k hR) (hk12 := hR.1) (hsk := hsk) (hm := hS.2.2.1) (hn0 := hS.1) (hn := hS.2.1) (hi := i9) (hr := hj) (h := by omega)))) (fun fz1 m1 p1 hP1 f hR1 => by
              have hm1 := hm1_of f hS
              exact (Ct_mono (c_X10_at0_10 (d := 11) (S := S) (fz := fz1) (m := m1) (p := p1) (hd := by omega) (s := s) (k := k) (n := n) (i := i) (j := j) (hP := hP1) (hk := RS_k2 hR1) (hk12 := hR.1) (hsk := hsk) (hm := hm1) (hn0 := hS.1) (hn := hS.2.1) (hri := hi) (hrj := hj) (hi := i9) (hj := by omega)) (fun v m2 p2 h => ⟨h.1, h.2.1, QMx_w h.2.2 rfl⟩)))
        · by_cases j9 : 0 ≤ j ∧ j < (n : Int)
          · skip
            exact SM_t (w := 1) hR (by omega) (by omega) (lt_at_1 (Tx_same hP (t_X9_atE0 (d := 10) (S := S) (fz := fz) (m := m) (p := p) (hd := by omega) (s := s) (k := k) (n := n) (x := i) (y := j) (hP := hP) (hk := RS_k hR) (hk12 := hR.1) (hsk := hsk) (hm := hS.2.2.1) (hn0 := hS.1) (hn := hS.2.1) (hr := hi) (h := by omega)))) (fun fz1 m1 p1 hP1 f hR1 => by
              have hm1 := hm1_of f hS
              exact (Ct_mono (c_X10_at0_01 (d := 11) (S := S) (fz := fz1) (m := m1) (p := p1) (hd := by omega) (s := s) (k := k) (n := n) (i := i) (j := j) (hP := hP1) (hk := RS_k2 hR1) (hk12 := hR.1) (hsk := hsk) (hm := hm1) (hn0 := hS.1) (hn := hS.2.1) (hri := hi) (hrj := hj) (hi := by omega) (hj := j9)) (fun v m2 p2 h => ⟨h.1, h.2.1, QMx_w h.2.2 rfl⟩)))
          · skip
            exact SM_t (w := 1) hR (by omega) (by omega) (lt_at_1 (Tx_same hP (t_X9_atE0 (d := 10) (S := S) (fz := fz) (m := m) (p := p) (hd := by omega) (s := s) (k := k) (n := n) (x := i) (y := j) (hP := hP) (hk := RS_k hR) (hk12 := hR.1) (hsk := hsk) (hm := hS.2.2.1) (hn0 := hS.1) (hn := hS.2.1) (hr := hi) (h := by omega)))) (fun fz1 m1 p1 hP1 f hR1 => by
              have hm1 := hm1_of f hS
              exact (Ct_mono (c_X10_at0_00 (d := 11) (S := S) (fz := fz1) (m := m1) (p := p1) (hd := by omega) (s := s) (k := k) (n := n) (i := i) (j := j) (hP := hP1) (hk := RS_k2 hR1) (hk12 := hR.1) (hsk := hsk) (hm := hm1) (hn0 := hS.1) (hn := hS.2.1) (hri := hi) (hrj := hj) (hi := by omega) (hj := by omega)) (fun v m2 p2 h => ⟨h.1, h.2.1, QMx_w h.2.2 rfl⟩)))
      · by_cases i9 : 0 ≤ i ∧ i < (n : Int)
        · obtain ⟨i, rfl, i8⟩ := nat_of i9
          refine SM_q (w := 0) (x := m (117 + 12 * s + 10) i) hR (by omega) (WO_q (lr_at (Ct_mono (c_X9_at1 (d := 10) (S := S) (fz := fz) (m := m) (p := p) (hd := by omega) (s := s) (k := k) (n := n) (i := i) (j := j) (hP := hP) (hk := RS_k hR) (hk12 := hR.1) (hsk := hsk) (hm := hS.2.2.1) (hn0 := hS.1) (hn := hS.2.1) (hi := i8)) (fun v m2 p2 h => ⟨_, h.1, rfl, h.2.2 ▸ hP, by rw [← h.2.1]; exact Fr_rfl⟩)))) (fun fz1 m1 p1 hP1 f hR1 => ?_)
          have hm1 := hm1_of f hS
          have f263 := qf_f f (a := 263) (by omega) (by omega)
          have f264 := qf_f f (a := 264) (by omega) (by omega)
          have f265 := qf_f f (a := 265) (by omega) (by omega)
          have f266 := qf_f f (a := 266) (by omega) (by omega)
          have f267 := qf_f f (a := 267) (by omega) (by omega)
          have f268 := qf_f f (a := 268) (by omega) (by omega)
          refine Ct_mono (c_X10_at1 (d := 11) (S := S) (fz := fz1) (m := m1) (p := p1) (hd := by omega) (s := s) (k := k) (n := n) (i := i) (j := j) (hP := hP1) (hk := RS_k2 hR1) (hk12 := hR.1) (hsk := hsk) (hm := hm1) (hn0 := hS.1) (hn := hS.2.1) (hi := i8) (hrj := hj)) (fun v m2 p2 h => ⟨⟨_, h.1, rg_vF _, fun _ => ?_⟩, h.2.1, QMx_w h.2.2 rfl⟩)
          rw [f264, SR_b hS i i8]
        · skip
          exact SM_t (w := 1) hR (by omega) (by omega) (lt_at_1 (Tx_same hP (t_X9_atE1 (d := 10) (S := S) (fz := fz) (m := m) (p := p) (hd := by omega) (s := s) (k := k) (n := n) (x := i) (y := j) (hP := hP) (hk := RS_k hR) (hk12 := hR.1) (hsk := hsk) (hm := hS.2.2.1) (hn0 := hS.1) (hn := hS.2.1) (hr := hi) (h := by omega)))) (fun fz1 m1 p1 hP1 f hR1 => by
            have hm1 := hm1_of f hS
            exact (Ct_mono (c_X10_at1_01 (d := 11) (S := S) (fz := fz1) (m := m1) (p := p1) (hd := by omega) (s := s) (k := k) (n := n) (i := i) (j := j) (hP := hP1) (hk := RS_k2 hR1) (hk12 := hR.1) (hsk := hsk) (hm := hm1) (hn0 := hS.1) (hn := hS.2.1) (hri := hi) (hrj := hj) (hi := by omega)) (fun v m2 p2 h => ⟨h.1, h.2.1, QMx_w h.2.2 rfl⟩)))
      · by_cases j9 : 0 ≤ j ∧ j < (n : Int)
        · obtain ⟨j, rfl, j8⟩ := nat_of j9
          refine SM_q (w := 0) (x := m (117 + 12 * s + 11) j) hR (by omega) (WO_q (lr_at (Ct_mono (c_X9_at2 (d := 10) (S := S) (fz := fz) (m := m) (p := p) (hd := by omega) (s := s) (k := k) (n := n) (i := i) (j := j) (hP := hP) (hk := RS_k hR) (hk12 := hR.1) (hsk := hsk) (hm := hS.2.2.1) (hn0 := hS.1) (hn := hS.2.1) (hj := j8)) (fun v m2 p2 h => ⟨_, h.1, rfl, h.2.2 ▸ hP, by rw [← h.2.1]; exact Fr_rfl⟩)))) (fun fz1 m1 p1 hP1 f hR1 => ?_)
          have hm1 := hm1_of f hS
          have f263 := qf_f f (a := 263) (by omega) (by omega)
          have f264 := qf_f f (a := 264) (by omega) (by omega)
          have f265 := qf_f f (a := 265) (by omega) (by omega)
          have f266 := qf_f f (a := 266) (by omega) (by omega)
          have f267 := qf_f f (a := 267) (by omega) (by omega)
          have f268 := qf_f f (a := 268) (by omega) (by omega)
          refine Ct_mono (c_X10_at2 (d := 11) (S := S) (fz := fz1) (m := m1) (p := p1) (hd := by omega) (s := s) (k := k) (n := n) (i := i) (j := j) (hP := hP1) (hk := RS_k2 hR1) (hk12 := hR.1) (hsk := hsk) (hm := hm1) (hn0 := hS.1) (hn := hS.2.1) (hri := hi) (hj := j8)) (fun v m2 p2 h => ⟨⟨_, h.1, rg_vF _, fun _ => ?_⟩, h.2.1, QMx_w h.2.2 rfl⟩)
          rw [f265, SR_c hS j j8]
        · skip
          exact SM_t (w := 1) hR (by omega) (by omega) (lt_at_1 (Tx_same hP (t_X9_atE2 (d := 10) (S := S) (fz := fz) (m := m) (p := p) (hd := by omega) (s := s) (k := k) (n := n) (x := i) (y := j) (hP := hP) (hk := RS_k hR) (hk12 := hR.1) (hsk := hsk) (hm := hS.2.2.1) (hn0 := hS.1) (hn := hS.2.1) (hr := hj) (h := by omega)))) (fun fz1 m1 p1 hP1 f hR1 => by
            have hm1 := hm1_of f hS
            exact (Ct_mono (c_X10_at2_10 (d := 11) (S := S) (fz := fz1) (m := m1) (p := p1) (hd := by omega) (s := s) (k := k) (n := n) (i := i) (j := j) (hP := hP1) (hk := RS_k2 hR1) (hk12 := hR.1) (hsk := hsk) (hm := hm1) (hn0 := hS.1) (hn := hS.2.1) (hri := hi) (hrj := hj) (hj := by omega)) (fun v m2 p2 h => ⟨h.1, h.2.1, QMx_w h.2.2 rfl⟩)))
      · skip
        refine SM_q (w := 0) (x := m (117 + 12 * s) 4) hR (by omega) (WO_q (lr_at (Ct_mono (c_X9_at3 (d := 10) (S := S) (fz := fz) (m := m) (p := p) (hd := by omega) (s := s) (k := k) (n := n) (i := i) (j := j) (hP := hP) (hk := RS_k hR) (hk12 := hR.1) (hsk := hsk) (hm := hS.2.2.1) (hn0 := hS.1) (hn := hS.2.1)) (fun v m2 p2 h => ⟨_, h.1, rfl, h.2.2 ▸ hP, by rw [← h.2.1]; exact Fr_rfl⟩)))) (fun fz1 m1 p1 hP1 f hR1 => ?_)
        have hm1 := hm1_of f hS
        have f263 := qf_f f (a := 263) (by omega) (by omega)
        have f264 := qf_f f (a := 264) (by omega) (by omega)
        have f265 := qf_f f (a := 265) (by omega) (by omega)
        have f266 := qf_f f (a := 266) (by omega) (by omega)
        have f267 := qf_f f (a := 267) (by omega) (by omega)
        have f268 := qf_f f (a := 268) (by omega) (by omega)
        refine Ct_mono (c_X10_at3 (d := 11) (S := S) (fz := fz1) (m := m1) (p := p1) (hd := by omega) (s := s) (k := k) (n := n) (i := i) (j := j) (hP := hP1) (hk := RS_k2 hR1) (hk12 := hR.1) (hsk := hsk) (hm := hm1) (hn0 := hS.1) (hn := hS.2.1) (hri := hi) (hrj := hj)) (fun v m2 p2 h => ⟨⟨_, h.1, rg_vF _, fun _ => ?_⟩, h.2.1, QMx_w h.2.2 rfl⟩)
        rw [f266, SR_d hS]
  · skip
    exact SM_t (w := 1) hR (by omega) (by omega) (lt_at_1 (Tx_same hP (t_X9_at (d := 10) (S := S) (fz := fz) (m := m) (p := p) (hd := by omega) (s := a) (a1 := w) (a2 := i) (a3 := j) (k := k) (hP := hP) (hk := RS_k hR) (hk12 := hR.1) (hs := ⟨ha, h⟩)))) (fun fz1 m1 p1 hP1 f hR1 => by
      exact (Ct_mono (c_X10_atS (d := 11) (S := S) (fz := fz1) (m := m1) (p := p1) (hd := by omega) (s := a) (k := k) (w := w) (i := i) (j := j) (hP := hP1) (hk := RS_k2 hR1) (hk12 := hR.1) (hr := ha) (h := h)) (fun v m2 p2 h => ⟨h.1, h.2.1, QMx_w h.2.2 rfl⟩)))
