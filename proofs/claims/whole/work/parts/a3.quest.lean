/-! QUESTIONS, side by side. -/
theorem RS_k {k cp ci : Nat} {m : M1} (h : RS k cp ci m) : m 1 1 = nF k := h.2.2.2.1
theorem RS_k2 {k cp ci : Nat} {m : M1} (h : RS k cp ci m) : m 261 0 = nF k := h.2.2.2.2.1
theorem RS_cp {k cp ci : Nat} {m : M1} (h : RS k cp ci m) : m 3 1 = nF cp := h.2.2.2.2.2.1
theorem RS_cp2 {k cp ci : Nat} {m : M1} (h : RS k cp ci m) : m 261 6 = nF cp := h.2.2.2.2.2.2.1
theorem RS_pm {k cp ci : Nat} {m : M1} (h : RS k cp ci m) : m 3 2 = nF 16 := h.2.2.2.2.2.2.2.1
theorem RS_ci {k cp ci : Nat} {m : M1} (h : RS k cp ci m) : m 5 1 = nF ci := h.2.2.2.2.2.2.2.2.1
theorem RS_ci2 {k cp ci : Nat} {m : M1} (h : RS k cp ci m) : m 261 8 = nF ci := h.2.2.2.2.2.2.2.2.2.1
theorem RS_im {k cp ci : Nat} {m : M1} (h : RS k cp ci m) : m 5 2 = nF 20 := h.2.2.2.2.2.2.2.2.2.2.1
theorem RS_pv {k cp ci : Nat} {m : M1} (h : RS k cp ci m) : ∀ i, i < cp → m 4 i = m 267 i := h.2.2.2.2.2.2.2.2.2.2.2.1
theorem RS_iv {k cp ci : Nat} {m : M1} (h : RS k cp ci m) : ∀ i, i < ci → m 6 i = m 268 i := h.2.2.2.2.2.2.2.2.2.2.2.2.1
theorem RS_z {k cp ci : Nat} {m : M1} (h : RS k cp ci m) : ∀ c, 117 + 12 * k ≤ c → c < 261 → ∀ j, m c j = 0 := h.2.2.2.2.2.2.2.2.2.2.2.2.2.2
theorem SR_A {m : M1} {s n : Nat} (h : SR m s n) : ∀ i, i < n → ∀ j, j < n → m 263 (64 * s + 8 * i + j) = m (117 + 12 * s + 2 + i) j := fun i hi j hj => (h.2.2.2.2.1 i hi j hj).symm
theorem SR_T {m : M1} {s n : Nat} (h : SR m s n) : ∀ i, i < n → ∀ j, j < n → m 263 (64 * s + 8 * j + i) = m (117 + 12 * s + 2 + j) i := fun i hi j hj => SR_A h j hj i hi
theorem SR_b {m : M1} {s n : Nat} (h : SR m s n) : ∀ i, i < n → m 264 (8 * s + i) = m (117 + 12 * s + 10) i := fun i hi => (h.2.2.2.2.2.1 i hi).symm
theorem SR_c {m : M1} {s n : Nat} (h : SR m s n) : ∀ i, i < n → m 265 (8 * s + i) = m (117 + 12 * s + 11) i := fun i hi => (h.2.2.2.2.2.2.1 i hi).symm
theorem SR_d {m : M1} {s n : Nat} (h : SR m s n) : m 266 s = m (117 + 12 * s) 4 := h.2.2.2.2.2.2.2.symm
theorem qf_f {m m1 : M1} (f : Fr qf m m1) {a : Nat} (h : 117 ≤ a) (h' : a < 280) : m1 a = m a := f a (fun z => by unfold qf at z; omega)
theorem hm1_of {m m1 : M1} {s n : Nat} (f : Fr qf m m1) (h : SR m s n) : m1 262 s = nF n := by rw [qf_f f (by omega) (by omega)]; exact h.2.2.2.1
theorem nat_of {a : Int} {k : Nat} (h : 0 ≤ a ∧ a < k) : ∃ s : Nat, a = (s : Int) ∧ s < k := ⟨a.toNat, by omega, by omega⟩
theorem rg_nat {n : Nat} (h : n < 10007) : rg (n : Int) := ⟨by omega, by omega⟩
theorem first_of {P : Nat → Prop} (l : Nat) : (∀ z, z < l → ¬ P z) ∨ ∃ l0, l0 < l ∧ P l0 ∧ ∀ z, z < l0 → ¬ P z := by
  induction l with
  | zero => exact Or.inl (fun z hz => absurd hz (Nat.not_lt_zero z))
  | succ l ih =>
    rcases ih with h | ⟨l0, h1, h2, h3⟩
    · by_cases q : P l
      · exact Or.inr ⟨l, Nat.lt_succ_self l, q, h⟩
      · exact Or.inl (fun z hz => by
          by_cases e : z = l
          · rw [e]
            exact q
          · exact h z (by omega))
    · exact Or.inr ⟨l0, by omega, h2, h3⟩
theorem sm_order {S : MC} {fz : Bool} {m : M1} {p : M2} {k cp ci : Nat} (hR : RS k cp ci m) (hP : PI p) (a : Int) (ha : rg a) : SM S [.ref 1, .int (iI a), .ref 280] [.ref 261, .int (iI a)] k_L_order k_X10_order fz m p := by
  have ha9 : -2147483648 ≤ a ∧ a < 2147483648 := ha
  by_cases h : 0 ≤ a ∧ a < k
  · obtain ⟨s, rfl, hsk⟩ := nat_of h
    obtain ⟨n, hS⟩ := RS_sys hR hsk
    have hn0 := hS.1
    have hn8 := hS.2.1
    have hk12 := hR.1
    refine SM_q (w := 0) (x := nF n) hR (by omega) (WO_q (lr_order (Ct_mono (c_X9_order (d := 10) (S := S) (fz := fz) (m := m) (p := p) (hd := by omega) (s := s) (k := k) (n := n) (hP := hP) (hk := RS_k hR) (hk12 := hR.1) (hsk := hsk) (hm := hS.2.2.1) (hn0 := hS.1) (hn := hS.2.1)) (fun v m2 p2 h => ⟨nF n, by rw [h.1, vF_nF (by omega)], rfl, h.2.2 ▸ hP, by rw [← h.2.1]; exact Fr_rfl⟩)))) (fun fz1 m1 p1 hP1 f hR1 => ?_)
    have hm1 := hm1_of f hS
    have f263 := qf_f f (a := 263) (by omega) (by omega)
    have f264 := qf_f f (a := 264) (by omega) (by omega)
    have f265 := qf_f f (a := 265) (by omega) (by omega)
    have f266 := qf_f f (a := 266) (by omega) (by omega)
    have f267 := qf_f f (a := 267) (by omega) (by omega)
    have f268 := qf_f f (a := 268) (by omega) (by omega)
    refine Ct_mono (c_X10_order1 (d := 11) (S := S) (fz := fz1) (m := m1) (p := p1) (hd := by omega) (s := s) (k := k) (n := n) (hP := hP1) (hk := RS_k2 hR1) (hk12 := hR.1) (hsk := hsk) (hm := hm1) (hn0 := hS.1) (hn := hS.2.1)) (fun v m2 p2 h => ⟨⟨_, h.1, rg_nat (by omega), fun _ => ?_⟩, h.2.1, QMx_w h.2.2 rfl⟩)
    rw [vF_nF (by omega)]
  · skip
    exact SM_t (w := 1) hR (by omega) (by omega) (lt_order_1 (Tx_same hP (t_X9_order (d := 10) (S := S) (fz := fz) (m := m) (p := p) (hd := by omega) (s := a) (k := k) (hP := hP) (hk := RS_k hR) (hk12 := hR.1) (hs := ⟨ha, h⟩)))) (fun fz1 m1 p1 hP1 f hR1 => by
      exact (Ct_mono (c_X10_order0 (d := 11) (S := S) (fz := fz1) (m := m1) (p := p1) (hd := by omega) (s := a) (k := k) (hP := hP1) (hk := RS_k2 hR1) (hk12 := hR.1) (hr := ha) (h := h)) (fun v m2 p2 h => ⟨h.1, h.2.1, QMx_w h.2.2 rfl⟩)))
theorem sm_rank0 {S : MC} {fz : Bool} {m : M1} {p : M2} {k cp ci : Nat} (hR : RS k cp ci m) (hP : PI p) (a : Int) (ha : rg a) : SM S [.ref 1, .int (iI a), .int (iI 0), .ref 280] [.ref 261, .int (iI a), .int (iI 0)] k_L_rank k_X10_rank fz m p := by
  by_cases h : 0 ≤ a ∧ a < k
  · obtain ⟨s, rfl, hsk⟩ := nat_of h
    obtain ⟨n, hS⟩ := RS_sys hR hsk
    have hn0 := hS.1
    have hn8 := hS.2.1
    have hk12 := hR.1
    have hle := rk_le (n := n) (A := (kr n (fun z => m (117 + 12 * s + 2 + z)) (m (117 + 12 * s + 10))))
    refine SM_q (w := 0) (x := nF (rk n (kr n (fun z => m (117 + 12 * s + 2 + z)) (m (117 + 12 * s + 10))))) hR (by omega) (WO_q (lr_rank (Ct_mono (c_X9_rank0 (d := 10) (S := S) (fz := fz) (m := m) (p := p) (hd := by omega) (s := s) (k := k) (n := n) (hP := hP) (hk := RS_k hR) (hk12 := hR.1) (hsk := hsk) (hm := hS.2.2.1) (hn0 := hS.1) (hn := hS.2.1)) (fun v m2 p2 h => ⟨nF (rk n (kr n (fun z => m (117 + 12 * s + 2 + z)) (m (117 + 12 * s + 10)))), by rw [h.1, vF_nF (by omega)], rfl, h.2.1, h.2.2⟩)))) (fun fz1 m1 p1 hP1 f hR1 => ?_)
    have hm1 := hm1_of f hS
    have f263 := qf_f f (a := 263) (by omega) (by omega)
    have f264 := qf_f f (a := 264) (by omega) (by omega)
    have f265 := qf_f f (a := 265) (by omega) (by omega)
    have f266 := qf_f f (a := 266) (by omega) (by omega)
    have f267 := qf_f f (a := 267) (by omega) (by omega)
    have f268 := qf_f f (a := 268) (by omega) (by omega)
    have e : rk n (kr n (fun z w => m1 263 (64 * s + 8 * z + w)) (fun z => m1 264 (8 * s + z))) = rk n (kr n (fun z => m (117 + 12 * s + 2 + z)) (m (117 + 12 * s + 10))) := rk_congr (fun i hi c hc => kr_congr (fun i hi j hj => by rw [f263]; exact SR_A hS i hi j hj) (fun i hi => by rw [f264]; exact SR_b hS i hi) i c hc)
    refine Ct_mono (c_X10_rank0 (d := 11) (S := S) (fz := fz1) (m := m1) (p := p1) (hd := by omega) (s := s) (k := k) (n := n) (hP := hP1) (hk := RS_k2 hR1) (hk12 := hR.1) (hsk := hsk) (hm := hm1) (hn0 := hS.1) (hn := hS.2.1)) (fun v m2 p2 h => ⟨⟨_, h.1, rg_nat (by omega), fun _ => ?_⟩, h.2.1, h.2.2⟩)
    rw [e, vF_nF (by omega)]
  · skip
    exact SM_t (w := 1) hR (by omega) (by omega) (lt_rank_1 (Tx_same hP (t_X9_rank (d := 10) (S := S) (fz := fz) (m := m) (p := p) (hd := by omega) (s := a) (a1 := 0) (k := k) (hP := hP) (hk := RS_k hR) (hk12 := hR.1) (hs := ⟨ha, h⟩)))) (fun fz1 m1 p1 hP1 f hR1 => by
      exact (c_X10_rankS (d := 11) (S := S) (fz := fz1) (m := m1) (p := p1) (hd := by omega) (s := a) (x := 0) (k := k) (hP := hP1) (hk := RS_k2 hR1) (hk12 := hR.1) (hr := ha) (h := h)))
theorem sm_rank1 {S : MC} {fz : Bool} {m : M1} {p : M2} {k cp ci : Nat} (hR : RS k cp ci m) (hP : PI p) (a : Int) (ha : rg a) : SM S [.ref 1, .int (iI a), .int (iI 1), .ref 280] [.ref 261, .int (iI a), .int (iI 1)] k_L_rank k_X10_rank fz m p := by
  by_cases h : 0 ≤ a ∧ a < k
  · obtain ⟨s, rfl, hsk⟩ := nat_of h
    obtain ⟨n, hS⟩ := RS_sys hR hsk
    have hn0 := hS.1
    have hn8 := hS.2.1
    have hk12 := hR.1
    have hle := rk_le (n := n) (A := (kr n (fun z c => m (117 + 12 * s + 2 + c) z) (m (117 + 12 * s + 11))))
    refine SM_q (w := 0) (x := nF (rk n (kr n (fun z c => m (117 + 12 * s + 2 + c) z) (m (117 + 12 * s + 11))))) hR (by omega) (WO_q (lr_rank (Ct_mono (c_X9_rank1 (d := 10) (S := S) (fz := fz) (m := m) (p := p) (hd := by omega) (s := s) (k := k) (n := n) (x := 1) (hP := hP) (hk := RS_k hR) (hk12 := hR.1) (hsk := hsk) (hm := hS.2.2.1) (hn0 := hS.1) (hn := hS.2.1) (hx := ⟨⟨by omega, by omega⟩, by omega⟩)) (fun v m2 p2 h => ⟨nF (rk n (kr n (fun z c => m (117 + 12 * s + 2 + c) z) (m (117 + 12 * s + 11)))), by rw [h.1, vF_nF (by omega)], rfl, h.2.1, h.2.2⟩)))) (fun fz1 m1 p1 hP1 f hR1 => ?_)
    have hm1 := hm1_of f hS
    have f263 := qf_f f (a := 263) (by omega) (by omega)
    have f264 := qf_f f (a := 264) (by omega) (by omega)
    have f265 := qf_f f (a := 265) (by omega) (by omega)
    have f266 := qf_f f (a := 266) (by omega) (by omega)
    have f267 := qf_f f (a := 267) (by omega) (by omega)
    have f268 := qf_f f (a := 268) (by omega) (by omega)
    have e : rk n (kr n (fun z w => m1 263 (64 * s + 8 * w + z)) (fun z => m1 265 (8 * s + z))) = rk n (kr n (fun z c => m (117 + 12 * s + 2 + c) z) (m (117 + 12 * s + 11))) := rk_congr (fun i hi c hc => kr_congr (fun i hi j hj => by rw [f263]; exact SR_T hS i hi j hj) (fun i hi => by rw [f265]; exact SR_c hS i hi) i c hc)
    refine Ct_mono (c_X10_rank1 (d := 11) (S := S) (fz := fz1) (m := m1) (p := p1) (hd := by omega) (s := s) (k := k) (n := n) (hP := hP1) (hk := RS_k2 hR1) (hk12 := hR.1) (hsk := hsk) (hm := hm1) (hn0 := hS.1) (hn := hS.2.1)) (fun v m2 p2 h => ⟨⟨_, h.1, rg_nat (by omega), fun _ => ?_⟩, h.2.1, h.2.2⟩)
    rw [e, vF_nF (by omega)]
  · skip
    exact SM_t (w := 1) hR (by omega) (by omega) (lt_rank_1 (Tx_same hP (t_X9_rank (d := 10) (S := S) (fz := fz) (m := m) (p := p) (hd := by omega) (s := a) (a1 := 1) (k := k) (hP := hP) (hk := RS_k hR) (hk12 := hR.1) (hs := ⟨ha, h⟩)))) (fun fz1 m1 p1 hP1 f hR1 => by
      exact (c_X10_rankS (d := 11) (S := S) (fz := fz1) (m := m1) (p := p1) (hd := by omega) (s := a) (x := 1) (k := k) (hP := hP1) (hk := RS_k2 hR1) (hk12 := hR.1) (hr := ha) (h := h)))
theorem sm_number {S : MC} {fz : Bool} {m : M1} {p : M2} {k cp ci : Nat} (hR : RS k cp ci m) (hP : PI p) (a : Int) (b : Int) (ha : rg a) (hb : rg b) : SM S [.ref 1, .int (iI a), .int (iI b), .ref 280] [.ref 261, .int (iI a), .int (iI b)] k_L_number k_X10_number fz m p := by
  have ha9 : -2147483648 ≤ a ∧ a < 2147483648 := ha
  have hb9 : -2147483648 ≤ b ∧ b < 2147483648 := hb
  by_cases h : 0 ≤ a ∧ a < k
  · obtain ⟨s, rfl, hsk⟩ := nat_of h
    obtain ⟨n, hS⟩ := RS_sys hR hsk
    have hn0 := hS.1
    have hn8 := hS.2.1
    have hk12 := hR.1
    by_cases hl : 0 ≤ b ∧ b < (41 : Nat)
    · obtain ⟨l, rfl, hl⟩ := nat_of hl
      refine SM_q (w := 0) (x := hs n (fun z => m (117 + 12 * s + 2 + z)) (m (117 + 12 * s + 10)) (m (117 + 12 * s + 11)) (m (117 + 12 * s) 4) l) hR (by omega) (WO_q (lr_number (Ct_mono (c_X9_number (d := 10) (S := S) (fz := fz) (m := m) (p := p) (hd := by omega) (s := s) (k := k) (n := n) (l := l) (hP := hP) (hk := RS_k hR) (hk12 := hR.1) (hsk := hsk) (hm := hS.2.2.1) (hn0 := hS.1) (hn := hS.2.1) (hl := by omega)) (fun v m2 p2 h => ⟨_, h.1, rfl, h.2.1 ▸ hP, h.2.2⟩)))) (fun fz1 m1 p1 hP1 f hR1 => ?_)
      have hm1 := hm1_of f hS
      have f263 := qf_f f (a := 263) (by omega) (by omega)
      have f264 := qf_f f (a := 264) (by omega) (by omega)
      have f265 := qf_f f (a := 265) (by omega) (by omega)
      have f266 := qf_f f (a := 266) (by omega) (by omega)
      have f267 := qf_f f (a := 267) (by omega) (by omega)
      have f268 := qf_f f (a := 268) (by omega) (by omega)
      refine Ct_mono (c_X10_number1 (d := 11) (S := S) (fz := fz1) (m := m1) (p := p1) (hd := by omega) (s := s) (k := k) (n := n) (l := l) (hP := hP1) (hk := RS_k2 hR1) (hk12 := hR.1) (hsk := hsk) (hm := hm1) (hn0 := hS.1) (hn := hS.2.1) (hl := by omega)) (fun v m2 p2 h => ⟨⟨_, h.1, rg_vF _, fun _ => ?_⟩, h.2.1, h.2.2⟩)
      rw [f266, SR_d hS]
      exact congrArg vF (hs_cg (fun i hi j hj => by rw [f263]; exact SR_A hS i hi j hj) (fun i hi => by rw [f264]; exact SR_b hS i hi) (fun i hi => by rw [f265]; exact SR_c hS i hi) l)
    · skip
      exact SM_t (w := 2) hR (by omega) (by omega) (lt_number_2 (Tx_same hP (t_X9_numberX (d := 10) (S := S) (fz := fz) (m := m) (p := p) (hd := by omega) (s := s) (k := k) (n := n) (x := b) (hP := hP) (hk := RS_k hR) (hk12 := hR.1) (hsk := hsk) (hm := hS.2.2.1) (hn0 := hS.1) (hn := hS.2.1) (hr := hb) (h := by omega)))) (fun fz1 m1 p1 hP1 f hR1 => by
        have hm1 := hm1_of f hS
        exact (c_X10_numberK (d := 11) (S := S) (fz := fz1) (m := m1) (p := p1) (hd := by omega) (s := s) (k := k) (n := n) (x := b) (hP := hP1) (hk := RS_k2 hR1) (hk12 := hR.1) (hsk := hsk) (hm := hm1) (hn0 := hS.1) (hn := hS.2.1) (hr := hb) (h := by omega)))
  · skip
    exact SM_t (w := 1) hR (by omega) (by omega) (lt_number_1 (Tx_same hP (t_X9_number (d := 10) (S := S) (fz := fz) (m := m) (p := p) (hd := by omega) (s := a) (a1 := b) (k := k) (hP := hP) (hk := RS_k hR) (hk12 := hR.1) (hs := ⟨ha, h⟩)))) (fun fz1 m1 p1 hP1 f hR1 => by
      exact (c_X10_numberS (d := 11) (S := S) (fz := fz1) (m := m1) (p := p1) (hd := by omega) (s := a) (x := b) (k := k) (hP := hP1) (hk := RS_k2 hR1) (hk12 := hR.1) (hr := ha) (h := h)))
theorem sm_output {S : MC} {fz : Bool} {m : M1} {p : M2} {k cp ci : Nat} (hR : RS k cp ci m) (hP : PI p) (a : Int) (b : Int) (ha : rg a) (hb : rg b) : SM S [.ref 1, .int (iI a), .int (iI b), .ref 280] [.ref 261, .int (iI a), .int (iI b)] k_L_output k_X10_output fz m p := by
  have ha9 : -2147483648 ≤ a ∧ a < 2147483648 := ha
  have hb9 : -2147483648 ≤ b ∧ b < 2147483648 := hb
  by_cases h : 0 ≤ a ∧ a < k
  · obtain ⟨s, rfl, hsk⟩ := nat_of h
    obtain ⟨n, hS⟩ := RS_sys hR hsk
    have hn0 := hS.1
    have hn8 := hS.2.1
    have hk12 := hR.1
    by_cases hl : 0 ≤ b ∧ b < (41 : Nat)
    · obtain ⟨l, rfl, hl⟩ := nat_of hl
      refine SM_q (w := 0) (x := dot n (m (117 + 12 * s + 11)) (xs n (fun z => m (117 + 12 * s + 2 + z)) (m (117 + 12 * s + 10)) (uu (m 6) ci) l) + (m (117 + 12 * s) 4) * (uu (m 6) ci) l) hR (by omega) (WO_q (lr_output (Ct_mono (c_X9_output (d := 10) (S := S) (fz := fz) (m := m) (p := p) (hd := by omega) (s := s) (k := k) (n := n) (l := l) (ci := ci) (hP := hP) (hk := RS_k hR) (hk12 := hR.1) (hsk := hsk) (hm := hS.2.2.1) (hn0 := hS.1) (hn := hS.2.1) (hci := RS_ci hR) (hcil := hR.2.2.1) (hl := by omega)) (fun v m2 p2 h => ⟨_, h.1, rfl, h.2.1 ▸ hP, h.2.2⟩)))) (fun fz1 m1 p1 hP1 f hR1 => ?_)
      have hm1 := hm1_of f hS
      have f263 := qf_f f (a := 263) (by omega) (by omega)
      have f264 := qf_f f (a := 264) (by omega) (by omega)
      have f265 := qf_f f (a := 265) (by omega) (by omega)
      have f266 := qf_f f (a := 266) (by omega) (by omega)
      have f267 := qf_f f (a := 267) (by omega) (by omega)
      have f268 := qf_f f (a := 268) (by omega) (by omega)
      refine Ct_mono (c_X10_output1 (d := 11) (S := S) (fz := fz1) (m := m1) (p := p1) (hd := by omega) (s := s) (k := k) (n := n) (l := l) (ci := ci) (hP := hP1) (hk := RS_k2 hR1) (hk12 := hR.1) (hsk := hsk) (hm := hm1) (hn0 := hS.1) (hn := hS.2.1) (hci := RS_ci2 hR1) (hcil := hR.2.2.1) (hl := by omega)) (fun v m2 p2 h => ⟨⟨_, h.1, rg_vF _, fun _ => ?_⟩, h.2.1, h.2.2⟩)
      have eu : ∀ i, uu (m1 268) ci i = uu (m 6) ci i := fun i => by rw [f268]; exact (uu_cg (RS_iv hR) i).symm
      refine congrArg vF ?_
      rw [f266, SR_d hS, eu l]
      exact congrArg (fun z => z + _) (dot_congr (fun i hi => by rw [f265]; exact SR_c hS i hi) (fun i hi => xs_cg (fun i hi j hj => by rw [f263]; exact SR_A hS i hi j hj) (fun i hi => by rw [f264]; exact SR_b hS i hi) eu l i hi))
    · skip
      exact SM_t (w := 2) hR (by omega) (by omega) (lt_output_2 (Tx_same hP (t_X9_outputX (d := 10) (S := S) (fz := fz) (m := m) (p := p) (hd := by omega) (s := s) (k := k) (n := n) (x := b) (hP := hP) (hk := RS_k hR) (hk12 := hR.1) (hsk := hsk) (hm := hS.2.2.1) (hn0 := hS.1) (hn := hS.2.1) (hr := hb) (h := by omega)))) (fun fz1 m1 p1 hP1 f hR1 => by
        have hm1 := hm1_of f hS
        exact (c_X10_outputK (d := 11) (S := S) (fz := fz1) (m := m1) (p := p1) (hd := by omega) (s := s) (k := k) (n := n) (x := b) (hP := hP1) (hk := RS_k2 hR1) (hk12 := hR.1) (hsk := hsk) (hm := hm1) (hn0 := hS.1) (hn := hS.2.1) (hr := hb) (h := by omega)))
  · skip
    exact SM_t (w := 1) hR (by omega) (by omega) (lt_output_1 (Tx_same hP (t_X9_output (d := 10) (S := S) (fz := fz) (m := m) (p := p) (hd := by omega) (s := a) (a1 := b) (k := k) (hP := hP) (hk := RS_k hR) (hk12 := hR.1) (hs := ⟨ha, h⟩)))) (fun fz1 m1 p1 hP1 f hR1 => by
      exact (c_X10_outputS (d := 11) (S := S) (fz := fz1) (m := m1) (p := p1) (hd := by omega) (s := a) (x := b) (k := k) (hP := hP1) (hk := RS_k2 hR1) (hk12 := hR.1) (hr := ha) (h := h)))
theorem sm_outputAnew {S : MC} {fz : Bool} {m : M1} {p : M2} {k cp ci : Nat} (hR : RS k cp ci m) (hP : PI p) (a : Int) (b : Int) (ha : rg a) (hb : rg b) : SM S [.ref 1, .int (iI a), .int (iI b), .ref 280] [.ref 261, .int (iI a), .int (iI b)] k_L_outputAnew k_X10_outputAnew fz m p := by
  have ha9 : -2147483648 ≤ a ∧ a < 2147483648 := ha
  have hb9 : -2147483648 ≤ b ∧ b < 2147483648 := hb
  by_cases h : 0 ≤ a ∧ a < k
  · obtain ⟨s, rfl, hsk⟩ := nat_of h
    obtain ⟨n, hS⟩ := RS_sys hR hsk
    have hn0 := hS.1
    have hn8 := hS.2.1
    have hk12 := hR.1
    by_cases hl : 0 ≤ b ∧ b < (41 : Nat)
    · obtain ⟨l, rfl, hl⟩ := nat_of hl
      refine SM_q (w := 0) (x := dot n (m (117 + 12 * s + 11)) (xs n (fun z => m (117 + 12 * s + 2 + z)) (m (117 + 12 * s + 10)) (uu (m 6) ci) l) + (m (117 + 12 * s) 4) * (uu (m 6) ci) l) hR (by omega) (WO_q (lr_outputAnew (Ct_mono (c_X9_outputAnew (d := 10) (S := S) (fz := fz) (m := m) (p := p) (hd := by omega) (s := s) (k := k) (n := n) (l := l) (ci := ci) (hP := hP) (hk := RS_k hR) (hk12 := hR.1) (hsk := hsk) (hm := hS.2.2.1) (hn0 := hS.1) (hn := hS.2.1) (hci := RS_ci hR) (hcil := hR.2.2.1) (hl := by omega)) (fun v m2 p2 h => ⟨_, h.1, out_eq l, h.2.1 ▸ hP, h.2.2⟩)))) (fun fz1 m1 p1 hP1 f hR1 => ?_)
      have hm1 := hm1_of f hS
      have f263 := qf_f f (a := 263) (by omega) (by omega)
      have f264 := qf_f f (a := 264) (by omega) (by omega)
      have f265 := qf_f f (a := 265) (by omega) (by omega)
      have f266 := qf_f f (a := 266) (by omega) (by omega)
      have f267 := qf_f f (a := 267) (by omega) (by omega)
      have f268 := qf_f f (a := 268) (by omega) (by omega)
      refine Ct_mono (c_X10_outputAnew1 (d := 11) (S := S) (fz := fz1) (m := m1) (p := p1) (hd := by omega) (s := s) (k := k) (n := n) (l := l) (ci := ci) (hP := hP1) (hk := RS_k2 hR1) (hk12 := hR.1) (hsk := hsk) (hm := hm1) (hn0 := hS.1) (hn := hS.2.1) (hci := RS_ci2 hR1) (hcil := hR.2.2.1) (hl := by omega)) (fun v m2 p2 h => ⟨⟨_, h.1, rg_vF _, fun _ => ?_⟩, h.2.1, h.2.2⟩)
      have eu : ∀ i, uu (m1 268) ci i = uu (m 6) ci i := fun i => by rw [f268]; exact (uu_cg (RS_iv hR) i).symm
      refine congrArg vF ?_
      rw [f266, SR_d hS, eu l]
      exact congrArg (fun z => z + _) (dot_congr (fun i hi => by rw [f265]; exact SR_c hS i hi) (fun i hi => xs_cg (fun i hi j hj => by rw [f263]; exact SR_A hS i hi j hj) (fun i hi => by rw [f264]; exact SR_b hS i hi) eu l i hi))
    · skip
      exact SM_t (w := 2) hR (by omega) (by omega) (lt_outputAnew_2 (Tx_same hP (t_X9_outputAnewX (d := 10) (S := S) (fz := fz) (m := m) (p := p) (hd := by omega) (s := s) (k := k) (n := n) (x := b) (hP := hP) (hk := RS_k hR) (hk12 := hR.1) (hsk := hsk) (hm := hS.2.2.1) (hn0 := hS.1) (hn := hS.2.1) (hr := hb) (h := by omega)))) (fun fz1 m1 p1 hP1 f hR1 => by
        have hm1 := hm1_of f hS
        exact (c_X10_outputAnewK (d := 11) (S := S) (fz := fz1) (m := m1) (p := p1) (hd := by omega) (s := s) (k := k) (n := n) (x := b) (hP := hP1) (hk := RS_k2 hR1) (hk12 := hR.1) (hsk := hsk) (hm := hm1) (hn0 := hS.1) (hn := hS.2.1) (hr := hb) (h := by omega)))
  · skip
    exact SM_t (w := 1) hR (by omega) (by omega) (lt_outputAnew_1 (Tx_same hP (t_X9_outputAnew (d := 10) (S := S) (fz := fz) (m := m) (p := p) (hd := by omega) (s := a) (a1 := b) (k := k) (hP := hP) (hk := RS_k hR) (hk12 := hR.1) (hs := ⟨ha, h⟩)))) (fun fz1 m1 p1 hP1 f hR1 => by
      exact (c_X10_outputAnewS (d := 11) (S := S) (fz := fz1) (m := m1) (p := p1) (hd := by omega) (s := a) (x := b) (k := k) (hP := hP1) (hk := RS_k2 hR1) (hk12 := hR.1) (hr := ha) (h := h)))
theorem sm_polynomial0 {S : MC} {fz : Bool} {m : M1} {p : M2} {k cp ci : Nat} (hR : RS k cp ci m) (hP : PI p) (a b : Int) (ha : rg a) (hb : rg b) : SM S [.ref 1, .int (iI a), .int (iI b), .int (iI 0), .ref 280] [.ref 261, .int (iI a), .int (iI b), .int (iI 0)] k_L_polynomial k_X10_polynomial fz m p := by
  by_cases h : 0 ≤ a ∧ a < k
  · obtain ⟨s, rfl, hsk⟩ := nat_of h
    obtain ⟨n, hS⟩ := RS_sys hR hsk
    have hn0 := hS.1
    have hn8 := hS.2.1
    have hk12 := hR.1
    by_cases hl : 0 ≤ b ∧ b < ((n + 1 : Nat) : Int)
    · obtain ⟨g, rfl, hg⟩ := nat_of hl
      refine SM_q (w := 0) (x := pbl n (fun z => m (117 + 12 * s + 2 + z)) g) hR (by omega) (WO_q (lr_polynomial (Ct_mono (c_X9_polynomial0 (d := 10) (S := S) (fz := fz) (m := m) (p := p) (hd := by omega) (s := s) (k := k) (n := n) (g := g) (hP := hP) (hk := RS_k hR) (hk12 := hR.1) (hsk := hsk) (hm := hS.2.2.1) (hn0 := hS.1) (hn := hS.2.1) (hg := by omega)) (fun v m2 p2 h => ⟨_, h.1, rfl, h.2.1, h.2.2⟩)))) (fun fz1 m1 p1 hP1 f hR1 => ?_)
      have hm1 := hm1_of f hS
      have f263 := qf_f f (a := 263) (by omega) (by omega)
      have f264 := qf_f f (a := 264) (by omega) (by omega)
      have f265 := qf_f f (a := 265) (by omega) (by omega)
      have f266 := qf_f f (a := 266) (by omega) (by omega)
      have f267 := qf_f f (a := 267) (by omega) (by omega)
      have f268 := qf_f f (a := 268) (by omega) (by omega)
      refine Ct_mono (c_X10_polynomial0 (d := 11) (S := S) (fz := fz1) (m := m1) (p := p1) (hd := by omega) (s := s) (k := k) (n := n) (g := g) (hP := hP1) (hk := RS_k2 hR1) (hk12 := hR.1) (hsk := hsk) (hm := hm1) (hn0 := hS.1) (hn := hS.2.1) (hg := by omega)) (fun v m2 p2 h => ⟨⟨_, h.1, rg_vF _, fun _ => ?_⟩, h.2.1, h.2.2⟩)
      exact congrArg vF (pbl_cg (fun i hi j hj => by rw [f263]; exact SR_A hS i hi j hj) g)
    · skip
      exact SM_t (w := 1) hR (by omega) (by omega) (lt_polynomial_1 (Tx_same hP (t_X9_polynomialX (d := 10) (S := S) (fz := fz) (m := m) (p := p) (hd := by omega) (s := s) (k := k) (n := n) (x := b) (y := 0) (hP := hP) (hk := RS_k hR) (hk12 := hR.1) (hsk := hsk) (hm := hS.2.2.1) (hn0 := hS.1) (hn := hS.2.1) (hr := hb) (h := by omega)))) (fun fz1 m1 p1 hP1 f hR1 => by
        have hm1 := hm1_of f hS
        exact (c_X10_polynomialP (d := 11) (S := S) (fz := fz1) (m := m1) (p := p1) (hd := by omega) (s := s) (k := k) (n := n) (x := b) (y := 0) (hP := hP1) (hk := RS_k2 hR1) (hk12 := hR.1) (hsk := hsk) (hm := hm1) (hn0 := hS.1) (hn := hS.2.1) (hr := hb) (h := by omega)))
  · skip
    exact SM_t (w := 1) hR (by omega) (by omega) (lt_polynomial_1 (Tx_same hP (t_X9_polynomial (d := 10) (S := S) (fz := fz) (m := m) (p := p) (hd := by omega) (s := a) (a1 := b) (a2 := 0) (k := k) (hP := hP) (hk := RS_k hR) (hk12 := hR.1) (hs := ⟨ha, h⟩)))) (fun fz1 m1 p1 hP1 f hR1 => by
      exact (c_X10_polynomialS (d := 11) (S := S) (fz := fz1) (m := m1) (p := p1) (hd := by omega) (s := a) (x := b) (y := 0) (k := k) (hP := hP1) (hk := RS_k2 hR1) (hk12 := hR.1) (hr := ha) (h := h)))
theorem sm_polynomial1 {S : MC} {fz : Bool} {m : M1} {p : M2} {k cp ci : Nat} (hR : RS k cp ci m) (hP : PI p) (a b : Int) (ha : rg a) (hb : rg b) : SM S [.ref 1, .int (iI a), .int (iI b), .int (iI 1), .ref 280] [.ref 261, .int (iI a), .int (iI b), .int (iI 1)] k_L_polynomial k_X10_polynomial fz m p := by
  by_cases h : 0 ≤ a ∧ a < k
  · obtain ⟨s, rfl, hsk⟩ := nat_of h
    obtain ⟨n, hS⟩ := RS_sys hR hsk
    have hn0 := hS.1
    have hn8 := hS.2.1
    have hk12 := hR.1
    by_cases hl : 0 ≤ b ∧ b < ((n + 1 : Nat) : Int)
    · obtain ⟨g, rfl, hg⟩ := nat_of hl
      refine SM_q (w := 0) (x := pab n (fun z => m (117 + 12 * s + 2 + z)) (m (117 + 12 * s + 10)) (m (117 + 12 * s + 11)) g) hR (by omega) (WO_q (lr_polynomial (Ct_mono (c_X9_polynomial1 (d := 10) (S := S) (fz := fz) (m := m) (p := p) (hd := by omega) (s := s) (k := k) (n := n) (g := g) (x := 1) (hP := hP) (hk := RS_k hR) (hk12 := hR.1) (hsk := hsk) (hm := hS.2.2.1) (hn0 := hS.1) (hn := hS.2.1) (hg := by omega) (hx := ⟨⟨by omega, by omega⟩, by omega⟩)) (fun v m2 p2 h => ⟨_, h.1, rfl, h.2.1, h.2.2⟩)))) (fun fz1 m1 p1 hP1 f hR1 => ?_)
      have hm1 := hm1_of f hS
      have f263 := qf_f f (a := 263) (by omega) (by omega)
      have f264 := qf_f f (a := 264) (by omega) (by omega)
      have f265 := qf_f f (a := 265) (by omega) (by omega)
      have f266 := qf_f f (a := 266) (by omega) (by omega)
      have f267 := qf_f f (a := 267) (by omega) (by omega)
      have f268 := qf_f f (a := 268) (by omega) (by omega)
      refine Ct_mono (c_X10_polynomial1 (d := 11) (S := S) (fz := fz1) (m := m1) (p := p1) (hd := by omega) (s := s) (k := k) (n := n) (g := g) (hP := hP1) (hk := RS_k2 hR1) (hk12 := hR.1) (hsk := hsk) (hm := hm1) (hn0 := hS.1) (hn := hS.2.1) (hg := by omega)) (fun v m2 p2 h => ⟨⟨_, h.1, rg_vF _, fun _ => ?_⟩, h.2.1, h.2.2⟩)
      exact congrArg vF (pab_cg (fun i hi j hj => by rw [f263]; exact SR_A hS i hi j hj) (fun i hi => by rw [f264]; exact SR_b hS i hi) (fun i hi => by rw [f265]; exact SR_c hS i hi) g)
    · skip
      exact SM_t (w := 1) hR (by omega) (by omega) (lt_polynomial_1 (Tx_same hP (t_X9_polynomialX (d := 10) (S := S) (fz := fz) (m := m) (p := p) (hd := by omega) (s := s) (k := k) (n := n) (x := b) (y := 1) (hP := hP) (hk := RS_k hR) (hk12 := hR.1) (hsk := hsk) (hm := hS.2.2.1) (hn0 := hS.1) (hn := hS.2.1) (hr := hb) (h := by omega)))) (fun fz1 m1 p1 hP1 f hR1 => by
        have hm1 := hm1_of f hS
        exact (c_X10_polynomialP (d := 11) (S := S) (fz := fz1) (m := m1) (p := p1) (hd := by omega) (s := s) (k := k) (n := n) (x := b) (y := 1) (hP := hP1) (hk := RS_k2 hR1) (hk12 := hR.1) (hsk := hsk) (hm := hm1) (hn0 := hS.1) (hn := hS.2.1) (hr := hb) (h := by omega)))
  · skip
    exact SM_t (w := 1) hR (by omega) (by omega) (lt_polynomial_1 (Tx_same hP (t_X9_polynomial (d := 10) (S := S) (fz := fz) (m := m) (p := p) (hd := by omega) (s := a) (a1 := b) (a2 := 1) (k := k) (hP := hP) (hk := RS_k hR) (hk12 := hR.1) (hs := ⟨ha, h⟩)))) (fun fz1 m1 p1 hP1 f hR1 => by
      exact (c_X10_polynomialS (d := 11) (S := S) (fz := fz1) (m := m1) (p := p1) (hd := by omega) (s := a) (x := b) (y := 1) (k := k) (hP := hP1) (hk := RS_k2 hR1) (hk12 := hR.1) (hr := ha) (h := h)))
theorem sm_least {S : MC} {fz : Bool} {m : M1} {p : M2} {k cp ci : Nat} (hR : RS k cp ci m) (hP : PI p) (a : Int) (ha : rg a) : SM S [.ref 1, .int (iI a), .ref 280] [.ref 261, .int (iI a)] k_L_least k_X10_least fz m p := by
  have ha9 : -2147483648 ≤ a ∧ a < 2147483648 := ha
  by_cases h : 0 ≤ a ∧ a < k
  · obtain ⟨s, rfl, hsk⟩ := nat_of h
    obtain ⟨n, hS⟩ := RS_sys hR hsk
    have hn0 := hS.1
    have hn8 := hS.2.1
    have hk12 := hR.1
    have hle := ecd_le 8 (pbl n (fun z => m (117 + 12 * s + 2 + z))) (pab n (fun z => m (117 + 12 * s + 2 + z)) (m (117 + 12 * s + 10)) (m (117 + 12 * s + 11))) n (dg (pab n (fun z => m (117 + 12 * s + 2 + z)) (m (117 + 12 * s + 10)) (m (117 + 12 * s + 11))) n) (dg_le _)
    refine SM_q (w := 0) (x := nF (n - (ecd 8 (pbl n (fun z => m (117 + 12 * s + 2 + z))) (pab n (fun z => m (117 + 12 * s + 2 + z)) (m (117 + 12 * s + 10)) (m (117 + 12 * s + 11))) n (dg (pab n (fun z => m (117 + 12 * s + 2 + z)) (m (117 + 12 * s + 10)) (m (117 + 12 * s + 11))) n)))) hR (by omega) (WO_q (lr_least (Ct_mono (c_X9_least (d := 10) (S := S) (fz := fz) (m := m) (p := p) (hd := by omega) (s := s) (k := k) (n := n) (hP := hP) (hk := RS_k hR) (hk12 := hR.1) (hsk := hsk) (hm := hS.2.2.1) (hn0 := hS.1) (hn := hS.2.1)) (fun v m2 p2 h => ⟨nF (n - (ecd 8 (pbl n (fun z => m (117 + 12 * s + 2 + z))) (pab n (fun z => m (117 + 12 * s + 2 + z)) (m (117 + 12 * s + 10)) (m (117 + 12 * s + 11))) n (dg (pab n (fun z => m (117 + 12 * s + 2 + z)) (m (117 + 12 * s + 10)) (m (117 + 12 * s + 11))) n))), by rw [h.1, vF_nF (by omega)]; exact lvI (by omega), rfl, h.2.1, h.2.2⟩)))) (fun fz1 m1 p1 hP1 f hR1 => ?_)
    have hm1 := hm1_of f hS
    have f263 := qf_f f (a := 263) (by omega) (by omega)
    have f264 := qf_f f (a := 264) (by omega) (by omega)
    have f265 := qf_f f (a := 265) (by omega) (by omega)
    have f266 := qf_f f (a := 266) (by omega) (by omega)
    have f267 := qf_f f (a := 267) (by omega) (by omega)
    have f268 := qf_f f (a := 268) (by omega) (by omega)
    have e7 : dg (pab n (fun z w => m1 263 (64 * s + 8 * z + w)) (fun z => m1 264 (8 * s + z)) (fun z => m1 265 (8 * s + z))) n = dg (pab n (fun z => m (117 + 12 * s + 2 + z)) (m (117 + 12 * s + 10)) (m (117 + 12 * s + 11))) n := dg_congr (fun i _ => pab_cg (fun i hi j hj => by rw [f263]; exact SR_A hS i hi j hj) (fun i hi => by rw [f264]; exact SR_b hS i hi) (fun i hi => by rw [f265]; exact SR_c hS i hi) i)
    have e8 : (ecd 8 (pbl n (fun z w => m1 263 (64 * s + 8 * z + w))) (pab n (fun z w => m1 263 (64 * s + 8 * z + w)) (fun z => m1 264 (8 * s + z)) (fun z => m1 265 (8 * s + z))) n (dg (pab n (fun z w => m1 263 (64 * s + 8 * z + w)) (fun z => m1 264 (8 * s + z)) (fun z => m1 265 (8 * s + z))) n)) = (ecd 8 (pbl n (fun z => m (117 + 12 * s + 2 + z))) (pab n (fun z => m (117 + 12 * s + 2 + z)) (m (117 + 12 * s + 10)) (m (117 + 12 * s + 11))) n (dg (pab n (fun z => m (117 + 12 * s + 2 + z)) (m (117 + 12 * s + 10)) (m (117 + 12 * s + 11))) n)) := by
      rw [e7]
      exact ecd_congr 8 _ _ _ _ _ _ (dg_le _) (fun i _ => pbl_cg (fun i hi j hj => by rw [f263]; exact SR_A hS i hi j hj) i) (fun i _ => pab_cg (fun i hi j hj => by rw [f263]; exact SR_A hS i hi j hj) (fun i hi => by rw [f264]; exact SR_b hS i hi) (fun i hi => by rw [f265]; exact SR_c hS i hi) i)
    refine Ct_mono (c_X10_least1 (d := 11) (S := S) (fz := fz1) (m := m1) (p := p1) (hd := by omega) (s := s) (k := k) (n := n) (hP := hP1) (hk := RS_k2 hR1) (hk12 := hR.1) (hsk := hsk) (hm := hm1) (hn0 := hS.1) (hn := hS.2.1)) (fun v m2 p2 h => ⟨⟨_, h.1, ?_, fun _ => ?_⟩, h.2.1, h.2.2⟩)
    · rw [e8]
      exact ⟨by omega, by omega⟩
    · rw [e8, vF_nF (by omega)]
      omega
  · skip
    exact SM_t (w := 1) hR (by omega) (by omega) (lt_least_1 (Tx_same hP (t_X9_least (d := 10) (S := S) (fz := fz) (m := m) (p := p) (hd := by omega) (s := a) (k := k) (hP := hP) (hk := RS_k hR) (hk12 := hR.1) (hs := ⟨ha, h⟩)))) (fun fz1 m1 p1 hP1 f hR1 => by
      exact (c_X10_leastS (d := 11) (S := S) (fz := fz1) (m := m1) (p := p1) (hd := by omega) (s := a) (k := k) (hP := hP1) (hk := RS_k2 hR1) (hk12 := hR.1) (hr := ha) (h := h)))
theorem sm_leastAnew {S : MC} {fz : Bool} {m : M1} {p : M2} {k cp ci : Nat} (hR : RS k cp ci m) (hP : PI p) (a : Int) (ha : rg a) : SM S [.ref 1, .int (iI a), .ref 280] [.ref 261, .int (iI a)] k_L_leastAnew k_X10_leastAnew fz m p := by
  have ha9 : -2147483648 ≤ a ∧ a < 2147483648 := ha
  by_cases h : 0 ≤ a ∧ a < k
  · obtain ⟨s, rfl, hsk⟩ := nat_of h
    obtain ⟨n, hS⟩ := RS_sys hR hsk
    have hn0 := hS.1
    have hn8 := hS.2.1
    have hk12 := hR.1
    have hle := ecd_le 8 (pbl n (fun z => m (117 + 12 * s + 2 + z))) (pab n (fun z => m (117 + 12 * s + 2 + z)) (m (117 + 12 * s + 10)) (m (117 + 12 * s + 11))) n (dg (pab n (fun z => m (117 + 12 * s + 2 + z)) (m (117 + 12 * s + 10)) (m (117 + 12 * s + 11))) n) (dg_le _)
    refine SM_q (w := 0) (x := nF (n - (ecd 8 (pbl n (fun z => m (117 + 12 * s + 2 + z))) (pab n (fun z => m (117 + 12 * s + 2 + z)) (m (117 + 12 * s + 10)) (m (117 + 12 * s + 11))) n (dg (pab n (fun z => m (117 + 12 * s + 2 + z)) (m (117 + 12 * s + 10)) (m (117 + 12 * s + 11))) n)))) hR (by omega) (WO_q (lr_leastAnew (Ct_mono (c_X9_leastAnew (d := 10) (S := S) (fz := fz) (m := m) (p := p) (hd := by omega) (s := s) (k := k) (n := n) (hP := hP) (hk := RS_k hR) (hk12 := hR.1) (hsk := hsk) (hm := hS.2.2.1) (hn0 := hS.1) (hn := hS.2.1)) (fun v m2 p2 h => ⟨nF (n - (ecd 8 (pbl n (fun z => m (117 + 12 * s + 2 + z))) (pab n (fun z => m (117 + 12 * s + 2 + z)) (m (117 + 12 * s + 10)) (m (117 + 12 * s + 11))) n (dg (pab n (fun z => m (117 + 12 * s + 2 + z)) (m (117 + 12 * s + 10)) (m (117 + 12 * s + 11))) n))), by rw [h.1, vF_nF (by omega)]; exact lvI (congrArg Int.ofNat (least_eq hS.2.1)), rfl, h.2.1, h.2.2⟩)))) (fun fz1 m1 p1 hP1 f hR1 => ?_)
    have hm1 := hm1_of f hS
    have f263 := qf_f f (a := 263) (by omega) (by omega)
    have f264 := qf_f f (a := 264) (by omega) (by omega)
    have f265 := qf_f f (a := 265) (by omega) (by omega)
    have f266 := qf_f f (a := 266) (by omega) (by omega)
    have f267 := qf_f f (a := 267) (by omega) (by omega)
    have f268 := qf_f f (a := 268) (by omega) (by omega)
    have e7 : dg (pab n (fun z w => m1 263 (64 * s + 8 * z + w)) (fun z => m1 264 (8 * s + z)) (fun z => m1 265 (8 * s + z))) n = dg (pab n (fun z => m (117 + 12 * s + 2 + z)) (m (117 + 12 * s + 10)) (m (117 + 12 * s + 11))) n := dg_congr (fun i _ => pab_cg (fun i hi j hj => by rw [f263]; exact SR_A hS i hi j hj) (fun i hi => by rw [f264]; exact SR_b hS i hi) (fun i hi => by rw [f265]; exact SR_c hS i hi) i)
    have e8 : (ecd 8 (pbl n (fun z w => m1 263 (64 * s + 8 * z + w))) (pab n (fun z w => m1 263 (64 * s + 8 * z + w)) (fun z => m1 264 (8 * s + z)) (fun z => m1 265 (8 * s + z))) n (dg (pab n (fun z w => m1 263 (64 * s + 8 * z + w)) (fun z => m1 264 (8 * s + z)) (fun z => m1 265 (8 * s + z))) n)) = (ecd 8 (pbl n (fun z => m (117 + 12 * s + 2 + z))) (pab n (fun z => m (117 + 12 * s + 2 + z)) (m (117 + 12 * s + 10)) (m (117 + 12 * s + 11))) n (dg (pab n (fun z => m (117 + 12 * s + 2 + z)) (m (117 + 12 * s + 10)) (m (117 + 12 * s + 11))) n)) := by
      rw [e7]
      exact ecd_congr 8 _ _ _ _ _ _ (dg_le _) (fun i _ => pbl_cg (fun i hi j hj => by rw [f263]; exact SR_A hS i hi j hj) i) (fun i _ => pab_cg (fun i hi j hj => by rw [f263]; exact SR_A hS i hi j hj) (fun i hi => by rw [f264]; exact SR_b hS i hi) (fun i hi => by rw [f265]; exact SR_c hS i hi) i)
    refine Ct_mono (c_X10_leastAnew1 (d := 11) (S := S) (fz := fz1) (m := m1) (p := p1) (hd := by omega) (s := s) (k := k) (n := n) (hP := hP1) (hk := RS_k2 hR1) (hk12 := hR.1) (hsk := hsk) (hm := hm1) (hn0 := hS.1) (hn := hS.2.1)) (fun v m2 p2 h => ⟨⟨_, h.1, ?_, fun _ => ?_⟩, h.2.1, h.2.2⟩)
    · rw [e8]
      exact ⟨by omega, by omega⟩
    · rw [e8, vF_nF (by omega)]
      omega
  · skip
    exact SM_t (w := 1) hR (by omega) (by omega) (lt_leastAnew_1 (Tx_same hP (t_X9_leastAnew (d := 10) (S := S) (fz := fz) (m := m) (p := p) (hd := by omega) (s := a) (k := k) (hP := hP) (hk := RS_k hR) (hk12 := hR.1) (hs := ⟨ha, h⟩)))) (fun fz1 m1 p1 hP1 f hR1 => by
      exact (c_X10_leastAnewS (d := 11) (S := S) (fz := fz1) (m := m1) (p := p1) (hd := by omega) (s := a) (k := k) (hP := hP1) (hk := RS_k2 hR1) (hk12 := hR.1) (hr := ha) (h := h)))
