/-! TYPED numbers, numbers set: side by side. -/
theorem w1_e {m m' : M1} {a i : Nat} {x : F} (e : w1 m a i x = m') {b j : Nat} (h : ¬ (b = a ∧ j = i)) : m' b j = m b j := by rw [← e, w1_ne h]
theorem w1_v {m m' : M1} {a i : Nat} {x : F} (e : w1 m a i x = m') : m' a i = x := by rw [← e, w1_at]
theorem sm_pole {S : MC} {fz : Bool} {m : M1} {p : M2} {k cp ci : Nat} (hR : RS k cp ci m) (hP : PI p) (a : Int) (ha : rg a) : SM S [.ref 1, .int (iI a), .ref 280] [.ref 261, .int (iI a)] k_L_pole k_X10_pole fz m p := by
  have ha9 : -2147483648 ≤ a ∧ a < 2147483648 := ha
  have hcp16 := hR.2.1
  have hci20 := hR.2.2.1
  by_cases h : -10007 < a ∧ a < 10007
  · by_cases hc : cp < 16
    · refine SM_of (w := 0) (by omega) (lr_pole (Q := (fun x9 mC p1 => PI p1 ∧ x9 = nF (cp + 1) ∧ w1 (w1 m 4 cp (toF a)) 3 1 (nF (cp + 1)) = mC)) (Ct_mono (c_X9_pole (d := 10) (S := S) (fz := fz) (m := m) (p := p) (hd := by omega) (c := cp) (x := a) (hP := hP) (h1 := RS_cp hR) (h2 := RS_pm hR) (hc := hc) (h := h)) (fun v m2 p2 h => ⟨nF (cp + 1), by rw [h.1, vF_nF (by omega)], h.2.1 ▸ hP, rfl, h.2.2⟩))) (fun fz1 m1 p1 hq => ?_)
      obtain ⟨x9, mC, e9, hP1, hx9, eC⟩ := hq
      generalize eD : w1 m 4 cp (toF a) = mD at eC
      have hc9 : m1 261 6 = nF cp := by rw [w1_e e9 (by omega), w1_e eC (by omega), w1_e eD (by omega)]; exact RS_cp2 hR
      refine ⟨hP1, Ct_mono (c_X10_pole1 (d := 11) (S := S) (fz := fz1) (m := m1) (p := p1) (hd := by omega) (c := cp) (x := a) (hP := hP1) (h1 := hc9) (hcl := by omega) (hc := hc) (h := h)) (fun v m2 p2 h => ?_)⟩
      obtain ⟨hv, hp2, eE⟩ := h
      generalize eF : w1 m1 261 21 0 = mF at eE
      generalize eG : w1 mF 267 cp (toF a) = mG at eE
      have g : ∀ b j, ¬ (b = 4 ∧ j = cp) → ¬ (b = 3 ∧ j = 1) → b ≠ 280 → ¬ (b = 261 ∧ j = 21) → ¬ (b = 267 ∧ j = cp) → ¬ (b = 261 ∧ j = 6) → m2 b j = m b j := fun b j h1 h2 h3 h4 h5 h6 => by
        rw [w1_e eE h6, w1_e eG h5, w1_e eF h4, w1_e e9 (fun z => h3 z.1), w1_e eC h2, w1_e eD h1]
      refine ⟨⟨_, hv, rg_nat (by omega), fun _ => by rw [w1_e eE (by omega), w1_e eG (by omega), w1_e eF (by omega), w1_v e9, hx9, vF_nF (by omega)]⟩, hp2, by rw [w1_e eE (by omega), w1_e eG (by omega), w1_v eF]; rfl, ?_⟩
      refine ⟨k, cp + 1, ci, hR.1, by omega, hR.2.2.1, ?_, ?_, ?_, ?_, ?_, ?_, ?_, ?_, fun i hi => ?_, fun i hi => ?_, fun s hs => ?_, fun c h1 h2 j => ?_⟩
      · rw [g 1 1 (by omega) (by omega) (by omega) (by omega) (by omega) (by omega)]
        exact RS_k hR
      · rw [g 261 0 (by omega) (by omega) (by omega) (by omega) (by omega) (by omega)]
        exact RS_k2 hR
      · rw [w1_e eE (by omega), w1_e eG (by omega), w1_e eF (by omega), w1_e e9 (by omega), w1_v eC]
      · exact w1_v eE
      · rw [g 3 2 (by omega) (by omega) (by omega) (by omega) (by omega) (by omega)]
        exact RS_pm hR
      · rw [g 5 1 (by omega) (by omega) (by omega) (by omega) (by omega) (by omega)]
        exact RS_ci hR
      · rw [g 261 8 (by omega) (by omega) (by omega) (by omega) (by omega) (by omega)]
        exact RS_ci2 hR
      · rw [g 5 2 (by omega) (by omega) (by omega) (by omega) (by omega) (by omega)]
        exact RS_im hR
      · by_cases q : i = cp
        · rw [q, w1_e eE (by omega), w1_e eG (by omega), w1_e eF (by omega), w1_e e9 (by omega), w1_e eC (by omega), w1_v eD, w1_e eE (by omega), w1_v eG]
        · rw [g 4 i (by omega) (by omega) (by omega) (by omega) (by omega) (by omega), g 267 i (by omega) (by omega) (by omega) (by omega) (by omega) (by omega)]
          exact RS_pv hR i (by omega)
      · rw [g 6 i (by omega) (by omega) (by omega) (by omega) (by omega) (by omega), g 268 i (by omega) (by omega) (by omega) (by omega) (by omega) (by omega)]
        exact RS_iv hR i hi
      · obtain ⟨n, hn⟩ := RS_sys hR hs
        exact ⟨n, SR_eq hn (fun a a1 a2 => funext fun j => g a j (by omega) (by omega) (by have := hR.1; omega) (by have := hR.1; omega) (by have := hR.1; omega) (by have := hR.1; omega)) ⟨g 262 s (by omega) (by omega) (by omega) (by omega) (by omega) (by omega), g 266 s (by omega) (by omega) (by omega) (by omega) (by omega) (by omega)⟩ (fun x _ => g 263 _ (by omega) (by omega) (by omega) (by omega) (by omega) (by omega)) (fun x _ => ⟨g 264 _ (by omega) (by omega) (by omega) (by omega) (by omega) (by omega), g 265 _ (by omega) (by omega) (by omega) (by omega) (by omega) (by omega)⟩)⟩
      · rw [g c j (by omega) (by omega) (by omega) (by omega) (by omega) (by omega)]
        exact RS_z hR c h1 h2 j
    · skip
      exact SM_t (w := 2) hR (by omega) (by omega) (lt_pole_2 (Tx_same hP (t_X9_poleF (d := 10) (S := S) (fz := fz) (m := m) (p := p) (hd := by omega) (c := cp) (x := a) (hP := hP) (h1 := RS_cp hR) (h2 := RS_pm hR) (hc := by omega) (h := h)))) (fun fz1 m1 p1 hP1 f hR1 => by
        exact (Ct_mono (c_X10_poleF (d := 11) (S := S) (fz := fz1) (m := m1) (p := p1) (hd := by omega) (c := cp) (x := a) (hP := hP1) (h1 := RS_cp2 hR1) (hcl := by omega) (hc := by omega) (h := h)) (fun v m2 p2 h => ⟨h.1, h.2.1, QMx_w h.2.2 rfl⟩)))
  · skip
    exact SM_t (w := 1) hR (by omega) (by omega) (lt_pole_1 (Tx_same hP (t_X9_pole (d := 10) (S := S) (fz := fz) (m := m) (p := p) (hd := by omega) (c := cp) (x := a) (hP := hP) (h1 := RS_cp hR) (h2 := RS_pm hR) (hr := ha) (h := by omega)))) (fun fz1 m1 p1 hP1 f hR1 => by
      exact (Ct_mono (c_X10_pole0 (d := 11) (S := S) (fz := fz1) (m := m1) (p := p1) (hd := by omega) (c := cp) (x := a) (hP := hP1) (h1 := RS_cp2 hR1) (hcl := by omega) (hr := ha) (h := by omega)) (fun v m2 p2 h => ⟨h.1, h.2.1, QMx_w h.2.2 rfl⟩)))
theorem sm_input {S : MC} {fz : Bool} {m : M1} {p : M2} {k cp ci : Nat} (hR : RS k cp ci m) (hP : PI p) (a : Int) (ha : rg a) : SM S [.ref 1, .int (iI a), .ref 280] [.ref 261, .int (iI a)] k_L_input k_X10_input fz m p := by
  have ha9 : -2147483648 ≤ a ∧ a < 2147483648 := ha
  have hcp16 := hR.2.1
  have hci20 := hR.2.2.1
  by_cases h : -10007 < a ∧ a < 10007
  · by_cases hc : ci < 20
    · refine SM_of (w := 0) (by omega) (lr_input (Q := (fun x9 mC p1 => PI p1 ∧ x9 = nF (ci + 1) ∧ w1 (w1 m 6 ci (toF a)) 5 1 (nF (ci + 1)) = mC)) (Ct_mono (c_X9_input (d := 10) (S := S) (fz := fz) (m := m) (p := p) (hd := by omega) (c := ci) (x := a) (hP := hP) (h1 := RS_ci hR) (h2 := RS_im hR) (hc := hc) (h := h)) (fun v m2 p2 h => ⟨nF (ci + 1), by rw [h.1, vF_nF (by omega)], h.2.1 ▸ hP, rfl, h.2.2⟩))) (fun fz1 m1 p1 hq => ?_)
      obtain ⟨x9, mC, e9, hP1, hx9, eC⟩ := hq
      generalize eD : w1 m 6 ci (toF a) = mD at eC
      have hc9 : m1 261 8 = nF ci := by rw [w1_e e9 (by omega), w1_e eC (by omega), w1_e eD (by omega)]; exact RS_ci2 hR
      refine ⟨hP1, Ct_mono (c_X10_input1 (d := 11) (S := S) (fz := fz1) (m := m1) (p := p1) (hd := by omega) (c := ci) (x := a) (hP := hP1) (h1 := hc9) (hcl := by omega) (hc := hc) (h := h)) (fun v m2 p2 h => ?_)⟩
      obtain ⟨hv, hp2, eE⟩ := h
      generalize eF : w1 m1 261 21 0 = mF at eE
      generalize eG : w1 mF 268 ci (toF a) = mG at eE
      have g : ∀ b j, ¬ (b = 6 ∧ j = ci) → ¬ (b = 5 ∧ j = 1) → b ≠ 280 → ¬ (b = 261 ∧ j = 21) → ¬ (b = 268 ∧ j = ci) → ¬ (b = 261 ∧ j = 8) → m2 b j = m b j := fun b j h1 h2 h3 h4 h5 h6 => by
        rw [w1_e eE h6, w1_e eG h5, w1_e eF h4, w1_e e9 (fun z => h3 z.1), w1_e eC h2, w1_e eD h1]
      refine ⟨⟨_, hv, rg_nat (by omega), fun _ => by rw [w1_e eE (by omega), w1_e eG (by omega), w1_e eF (by omega), w1_v e9, hx9, vF_nF (by omega)]⟩, hp2, by rw [w1_e eE (by omega), w1_e eG (by omega), w1_v eF]; rfl, ?_⟩
      refine ⟨k, cp, ci + 1, hR.1, hR.2.1, by omega, ?_, ?_, ?_, ?_, ?_, ?_, ?_, ?_, fun i hi => ?_, fun i hi => ?_, fun s hs => ?_, fun c h1 h2 j => ?_⟩
      · rw [g 1 1 (by omega) (by omega) (by omega) (by omega) (by omega) (by omega)]
        exact RS_k hR
      · rw [g 261 0 (by omega) (by omega) (by omega) (by omega) (by omega) (by omega)]
        exact RS_k2 hR
      · rw [g 3 1 (by omega) (by omega) (by omega) (by omega) (by omega) (by omega)]
        exact RS_cp hR
      · rw [g 261 6 (by omega) (by omega) (by omega) (by omega) (by omega) (by omega)]
        exact RS_cp2 hR
      · rw [g 3 2 (by omega) (by omega) (by omega) (by omega) (by omega) (by omega)]
        exact RS_pm hR
      · rw [w1_e eE (by omega), w1_e eG (by omega), w1_e eF (by omega), w1_e e9 (by omega), w1_v eC]
      · exact w1_v eE
      · rw [g 5 2 (by omega) (by omega) (by omega) (by omega) (by omega) (by omega)]
        exact RS_im hR
      · rw [g 4 i (by omega) (by omega) (by omega) (by omega) (by omega) (by omega), g 267 i (by omega) (by omega) (by omega) (by omega) (by omega) (by omega)]
        exact RS_pv hR i hi
      · by_cases q : i = ci
        · rw [q, w1_e eE (by omega), w1_e eG (by omega), w1_e eF (by omega), w1_e e9 (by omega), w1_e eC (by omega), w1_v eD, w1_e eE (by omega), w1_v eG]
        · rw [g 6 i (by omega) (by omega) (by omega) (by omega) (by omega) (by omega), g 268 i (by omega) (by omega) (by omega) (by omega) (by omega) (by omega)]
          exact RS_iv hR i (by omega)
      · obtain ⟨n, hn⟩ := RS_sys hR hs
        exact ⟨n, SR_eq hn (fun a a1 a2 => funext fun j => g a j (by omega) (by omega) (by have := hR.1; omega) (by have := hR.1; omega) (by have := hR.1; omega) (by have := hR.1; omega)) ⟨g 262 s (by omega) (by omega) (by omega) (by omega) (by omega) (by omega), g 266 s (by omega) (by omega) (by omega) (by omega) (by omega) (by omega)⟩ (fun x _ => g 263 _ (by omega) (by omega) (by omega) (by omega) (by omega) (by omega)) (fun x _ => ⟨g 264 _ (by omega) (by omega) (by omega) (by omega) (by omega) (by omega), g 265 _ (by omega) (by omega) (by omega) (by omega) (by omega) (by omega)⟩)⟩
      · rw [g c j (by omega) (by omega) (by omega) (by omega) (by omega) (by omega)]
        exact RS_z hR c h1 h2 j
    · skip
      exact SM_t (w := 2) hR (by omega) (by omega) (lt_input_2 (Tx_same hP (t_X9_inputF (d := 10) (S := S) (fz := fz) (m := m) (p := p) (hd := by omega) (c := ci) (x := a) (hP := hP) (h1 := RS_ci hR) (h2 := RS_im hR) (hc := by omega) (h := h)))) (fun fz1 m1 p1 hP1 f hR1 => by
        exact (Ct_mono (c_X10_inputF (d := 11) (S := S) (fz := fz1) (m := m1) (p := p1) (hd := by omega) (c := ci) (x := a) (hP := hP1) (h1 := RS_ci2 hR1) (hcl := by omega) (hc := by omega) (h := h)) (fun v m2 p2 h => ⟨h.1, h.2.1, QMx_w h.2.2 rfl⟩)))
  · skip
    exact SM_t (w := 1) hR (by omega) (by omega) (lt_input_1 (Tx_same hP (t_X9_input (d := 10) (S := S) (fz := fz) (m := m) (p := p) (hd := by omega) (c := ci) (x := a) (hP := hP) (h1 := RS_ci hR) (h2 := RS_im hR) (hr := ha) (h := by omega)))) (fun fz1 m1 p1 hP1 f hR1 => by
      exact (Ct_mono (c_X10_input0 (d := 11) (S := S) (fz := fz1) (m := m1) (p := p1) (hd := by omega) (c := ci) (x := a) (hP := hP1) (h1 := RS_ci2 hR1) (hcl := by omega) (hr := ha) (h := by omega)) (fun v m2 p2 h => ⟨h.1, h.2.1, QMx_w h.2.2 rfl⟩)))
/-- clear: both say how many there were -/
def SMc (S : MC) (fz : Bool) (m : M1) (p : M2) : Prop := ∃ (b : Int) (m1 m2 : M1), Ev 11 k_X9_clear [.ref 1] (hpM S fz (m, p)) (.inl (some (.int (iI b))), hpM S fz (m1, p), 0, 0) ∧ Ev 11 k_X10_clear [.ref 261] (hpM S fz (m1, p)) (.inl (some (.int (iI b))), hpM S fz (m2, p), 0, 0) ∧ rg b ∧ RX m2
theorem sm_clear {S : MC} {fz : Bool} {m : M1} {p : M2} {k cp ci : Nat} (hR : RS k cp ci m) (hP : PI p) : SMc S fz m p := by
  have hcp16 := hR.2.1
  have hci20 := hR.2.2.1
  obtain ⟨v, m1, p1, hE, rfl, rfl, eC⟩ := (c_X9_clear (d := 11) (S := S) (fz := fz) (m := m) (p := p) (hd := by omega) (cp := cp) (ci := ci) (hP := hP) (hcp := RS_cp hR) (hcpl := hR.2.1) (hci := RS_ci hR) (hcil := hR.2.2.1))
  generalize eD : w1 m 3 1 0 = mD at eC
  have h6 : m1 261 6 = nF cp := by rw [w1_e eC (by omega), w1_e eD (by omega)]; exact RS_cp2 hR
  have h8 : m1 261 8 = nF ci := by rw [w1_e eC (by omega), w1_e eD (by omega)]; exact RS_ci2 hR
  obtain ⟨v, m2, p2, hE2, rfl, rfl, eE⟩ := (c_X10_clear (d := 11) (S := S) (fz := fz) (m := m1) (p := p) (hd := by omega) (cp := cp) (ci := ci) (hP := hP) (hcp := h6) (hcpl := hR.2.1) (hci := h8) (hcil := hR.2.2.1))
  generalize eF : w1 m1 261 21 0 = mF at eE
  generalize eG : w1 mF 261 6 0 = mG at eE
  have g : ∀ b j, ¬ (b = 3 ∧ j = 1) → ¬ (b = 5 ∧ j = 1) → ¬ (b = 261 ∧ j = 21) → ¬ (b = 261 ∧ j = 6) → ¬ (b = 261 ∧ j = 8) → m2 b j = m b j := fun b j h1 h2 h4 h5 h6 => by
    rw [w1_e eE h6, w1_e eG h5, w1_e eF h4, w1_e eC h2, w1_e eD h1]
  refine ⟨_, m1, m2, hE, hE2, ⟨by omega, by omega⟩, k, 0, 0, hR.1, by omega, by omega, ?_, ?_, ?_, ?_, ?_, ?_, ?_, ?_, fun i hi => absurd hi (Nat.not_lt_zero i), fun i hi => absurd hi (Nat.not_lt_zero i), fun s hs => ?_, fun c h1 h2 j => ?_⟩
  · rw [g 1 1 (by omega) (by omega) (by omega) (by omega) (by omega)]
    exact RS_k hR
  · rw [g 261 0 (by omega) (by omega) (by omega) (by omega) (by omega)]
    exact RS_k2 hR
  · rw [w1_e eE (by omega), w1_e eG (by omega), w1_e eF (by omega), w1_e eC (by omega), w1_v eD]
    rfl
  · rw [w1_e eE (by omega), w1_v eG]
    rfl
  · rw [g 3 2 (by omega) (by omega) (by omega) (by omega) (by omega)]
    exact RS_pm hR
  · rw [w1_e eE (by omega), w1_e eG (by omega), w1_e eF (by omega), w1_v eC]
    rfl
  · rw [w1_v eE]
    rfl
  · rw [g 5 2 (by omega) (by omega) (by omega) (by omega) (by omega)]
    exact RS_im hR
  · obtain ⟨n, hn⟩ := RS_sys hR hs
    have hk := hR.1
    exact ⟨n, SR_eq hn (fun a a1 a2 => funext fun j => g a j (by omega) (by omega) (by omega) (by omega) (by omega)) ⟨g 262 s (by omega) (by omega) (by omega) (by omega) (by omega), g 266 s (by omega) (by omega) (by omega) (by omega) (by omega)⟩ (fun x _ => g 263 _ (by omega) (by omega) (by omega) (by omega) (by omega)) (fun x _ => ⟨g 264 _ (by omega) (by omega) (by omega) (by omega) (by omega), g 265 _ (by omega) (by omega) (by omega) (by omega) (by omega)⟩)⟩
  · rw [g c j (by omega) (by omega) (by omega) (by omega) (by omega)]
    exact RS_z hR c h1 h2 j
theorem sm_set {S : MC} {fz : Bool} {m : M1} {p : M2} {k cp ci : Nat} (hR : RS k cp ci m) (hP : PI p) (a : Int) (w : Int) (i : Int) (j : Int) (x : Int) (ha : rg a) (hw : rg w) (hi : rg i) (hj : rg j) (hx : rg x) : SM S [.ref 1, .int (iI a), .int (iI w), .int (iI i), .int (iI j), .int (iI x), .ref 280] [.ref 261, .int (iI a), .int (iI w), .int (iI i), .int (iI j), .int (iI x)] k_L_set k_X10_set fz m p := by
  have ha9 : -2147483648 ≤ a ∧ a < 2147483648 := ha
  have hw9 : -2147483648 ≤ w ∧ w < 2147483648 := hw
  have hi9 : -2147483648 ≤ i ∧ i < 2147483648 := hi
  have hj9 : -2147483648 ≤ j ∧ j < 2147483648 := hj
  have hx9 : -2147483648 ≤ x ∧ x < 2147483648 := hx
  by_cases h : 0 ≤ a ∧ a < k
  · obtain ⟨s, rfl, hsk⟩ := nat_of h
    obtain ⟨n, hS⟩ := RS_sys hR hsk
    have hn0 := hS.1
    have hn8 := hS.2.1
    have hk12 := hR.1
    by_cases w9 : w < 0 ∨ 3 < w
    · skip
      exact SM_t (w := 1) hR (by omega) (by omega) (lt_set_1 (Tx_same hP (t_X9_setW (d := 10) (S := S) (fz := fz) (m := m) (p := p) (hd := by omega) (s := s) (k := k) (n := n) (w := w) (x := i) (y := j) (z := x) (hP := hP) (hk := RS_k hR) (hk12 := hR.1) (hsk := hsk) (hm := hS.2.2.1) (hn0 := hS.1) (hn := hS.2.1) (hr := hw) (h := w9)))) (fun fz1 m1 p1 hP1 f hR1 => by
        have hm1 := hm1_of f hS
        exact (c_X10_setW (d := 11) (S := S) (fz := fz1) (m := m1) (p := p1) (hd := by omega) (s := s) (k := k) (n := n) (w := w) (i := i) (j := j) (x := x) (hP := hP1) (hk := RS_k2 hR1) (hk12 := hR.1) (hsk := hsk) (hm := hm1) (hn0 := hS.1) (hn := hS.2.1) (hr := hw) (h := w9)))
    · rcases (show w = 0 ∨ w = 1 ∨ w = 2 ∨ w = 3 by omega) with rfl | rfl | rfl | rfl
      · by_cases i9 : 0 ≤ i ∧ i < (n : Int)
        · by_cases j9 : 0 ≤ j ∧ j < (n : Int)
          · obtain ⟨i, rfl, i8⟩ := nat_of i9
            obtain ⟨j, rfl, j8⟩ := nat_of j9
            · by_cases x8 : -10007 < x ∧ x < 10007
              · refine SM_of (w := 0) (by omega) (lr_set (Q := (fun x9 mC p1 => PI p1 ∧ x9 = m (117 + 12 * s + 2 + i) j ∧ w1 m (117 + 12 * s + 2 + i) j (toF x) = mC)) (Ct_mono (c_X9_set0 (d := 10) (S := S) (fz := fz) (m := m) (p := p) (hd := by omega) (s := s) (k := k) (n := n) (i := i) (j := j) (x := x) (hP := hP) (hk := RS_k hR) (hk12 := hR.1) (hsk := hsk) (hm := hS.2.2.1) (hn0 := hS.1) (hn := hS.2.1) (hi := i8) (hj := j8) (hx := x8)) (fun v m2 p2 h => ⟨_, h.1, h.2.1 ▸ hP, rfl, h.2.2⟩))) (fun fz1 m1 p1 hq => ?_)
                obtain ⟨x9, mC, e9, hP1, hx9, eC⟩ := hq
                have e1 : ∀ b t, b ≠ 280 → ¬ (b = 117 + 12 * s + 2 + i ∧ t = j) → m1 b t = m b t := fun b t h1 h2 => by rw [w1_e e9 (fun z => h1 z.1), w1_e eC h2]
                have hm1 : m1 262 s = nF n := by rw [e1 262 s (by omega) (by omega)]; exact hS.2.2.2.1
                have hk9 : m1 261 0 = nF k := by rw [e1 261 0 (by omega) (by omega)]; exact RS_k2 hR
                refine ⟨hP1, Ct_mono (c_X10_set0 (d := 11) (S := S) (fz := fz1) (m := m1) (p := p1) (hd := by omega) (s := s) (k := k) (n := n) (i := i) (j := j) (x := x) (hP := hP1) (hk := hk9) (hk12 := hR.1) (hsk := hsk) (hm := hm1) (hn0 := hS.1) (hn := hS.2.1) (hi := i8) (hj := j8) (hx := x8)) (fun v m2 p2 h => ?_)⟩
                obtain ⟨hv, hp2, eE⟩ := h
                generalize eF : w1 m1 261 21 0 = mF at eE
                have g : ∀ b t, b ≠ 280 → ¬ (b = 117 + 12 * s + 2 + i ∧ t = j) → ¬ (b = 261 ∧ t = 21) → ¬ (b = 263 ∧ t = (64 * s + 8 * i + j)) → m2 b t = m b t := fun b t h1 h2 h3 h4 => by rw [w1_e eE h4, w1_e eF h3, e1 b t h1 h2]
                have gc : m2 (117 + 12 * s + 2 + i) j = toF x := by rw [w1_e eE (by omega), w1_e eF (by omega), w1_e e9 (by omega), w1_v eC]
                have gm : m2 263 (64 * s + 8 * i + j) = toF x := w1_v eE
                refine ⟨⟨_, hv, rg_vF _, fun _ => ?_⟩, hp2, by rw [w1_e eE (by omega), w1_v eF]; rfl, k, cp, ci, hR.1, hR.2.1, hR.2.2.1, ?_, ?_, ?_, ?_, ?_, ?_, ?_, ?_, fun i hi => ?_, fun i hi => ?_, fun s2 hs2 => ?_, fun c h1 h2 j => ?_⟩
                · rw [e1 263 (64 * s + 8 * i + j) (by omega) (by omega), w1_e eE (by omega), w1_e eF (by omega), w1_v e9, hx9]
                  exact congrArg vF (SR_A hS i i8 j j8)
                · rw [g 1 1 (by omega) (by omega) (by omega) (by omega)]
                  exact RS_k hR
                · rw [g 261 0 (by omega) (by omega) (by omega) (by omega)]
                  exact RS_k2 hR
                · rw [g 3 1 (by omega) (by omega) (by omega) (by omega)]
                  exact RS_cp hR
                · rw [g 261 6 (by omega) (by omega) (by omega) (by omega)]
                  exact RS_cp2 hR
                · rw [g 3 2 (by omega) (by omega) (by omega) (by omega)]
                  exact RS_pm hR
                · rw [g 5 1 (by omega) (by omega) (by omega) (by omega)]
                  exact RS_ci hR
                · rw [g 261 8 (by omega) (by omega) (by omega) (by omega)]
                  exact RS_ci2 hR
                · rw [g 5 2 (by omega) (by omega) (by omega) (by omega)]
                  exact RS_im hR
                · rw [g 4 i (by omega) (by omega) (by omega) (by omega), g 267 i (by omega) (by omega) (by omega) (by omega)]
                  exact RS_pv hR i hi
                · rw [g 6 i (by omega) (by omega) (by omega) (by omega), g 268 i (by omega) (by omega) (by omega) (by omega)]
                  exact RS_iv hR i hi
                · by_cases q : s2 = s
                  · subst q
                    refine ⟨n, hn0, hn8, ?_, ?_, fun i2 hi2 j2 hj2 => ?_, fun i2 hi2 => ?_, fun i2 hi2 => ?_, ?_⟩
                    · rw [g _ _ (by omega) (by omega) (by omega) (by omega)]
                      exact hS.2.2.1
                    · rw [g _ _ (by omega) (by omega) (by omega) (by omega)]
                      exact hS.2.2.2.1
                    · by_cases q : i2 = i ∧ j2 = j
                      · rw [q.1, q.2, gc, gm]
                      · rw [g _ _ (by omega) (by omega) (by omega) (by omega), g _ _ (by omega) (by omega) (by omega) (by omega)]
                        exact hS.2.2.2.2.1 i2 hi2 j2 hj2
                    · rw [g _ _ (by omega) (by omega) (by omega) (by omega), g _ _ (by omega) (by omega) (by omega) (by omega)]
                      exact hS.2.2.2.2.2.1 i2 hi2
                    · rw [g _ _ (by omega) (by omega) (by omega) (by omega), g _ _ (by omega) (by omega) (by omega) (by omega)]
                      exact hS.2.2.2.2.2.2.1 i2 hi2
                    · rw [g _ _ (by omega) (by omega) (by omega) (by omega), g _ _ (by omega) (by omega) (by omega) (by omega)]
                      exact hS.2.2.2.2.2.2.2
                  · obtain ⟨n2, hn2⟩ := RS_sys hR hs2
                    exact ⟨n2, SR_eq hn2 (fun a a1 a2 => funext fun j => g a j (by omega) (by omega) (by omega) (by omega)) ⟨g 262 s2 (by omega) (by omega) (by omega) (by omega), g 266 s2 (by omega) (by omega) (by omega) (by omega)⟩ (fun y hy => g 263 _ (by omega) (by omega) (by omega) (by omega)) (fun y hy => ⟨g 264 _ (by omega) (by omega) (by omega) (by omega), g 265 _ (by omega) (by omega) (by omega) (by omega)⟩)⟩
                · rw [g c j (by omega) (by omega) (by omega) (by omega)]
                  exact RS_z hR c h1 h2 j
              · skip
                exact SM_t (w := 2) hR (by omega) (by omega) (lt_set_2 (Tx_same hP (t_X9_set0 (d := 10) (S := S) (fz := fz) (m := m) (p := p) (hd := by omega) (s := s) (k := k) (n := n) (i := i) (j := j) (x := x) (hP := hP) (hk := RS_k hR) (hk12 := hR.1) (hsk := hsk) (hm := hS.2.2.1) (hn0 := hS.1) (hn := hS.2.1) (hi := i8) (hj := j8) (hr := hx) (h := by omega)))) (fun fz1 m1 p1 hP1 f hR1 => by
                  have hm1 := hm1_of f hS
                  exact (c_X10_setV0 (d := 11) (S := S) (fz := fz1) (m := m1) (p := p1) (hd := by omega) (s := s) (k := k) (n := n) (i := i) (j := j) (x := x) (hP := hP1) (hk := RS_k2 hR1) (hk12 := hR.1) (hsk := hsk) (hm := hm1) (hn0 := hS.1) (hn := hS.2.1) (hi := i8) (hj := j8) (hr := hx) (hx := by omega)))
          · skip
            exact SM_t (w := 1) hR (by omega) (by omega) (lt_set_1 (Tx_same hP (t_X9_setE4 (d := 10) (S := S) (fz := fz) (m := m) (p := p) (hd := by omega) (s := s) (k := k) (n := n) (x := i) (y := j) (z := x) (hP := hP) (hk := RS_k hR) (hk12 := hR.1) (hsk := hsk) (hm := hS.2.2.1) (hn0 := hS.1) (hn := hS.2.1) (hi := i9) (hr := hj) (h := by omega)))) (fun fz1 m1 p1 hP1 f hR1 => by
              have hm1 := hm1_of f hS
              exact (c_X10_set0_10 (d := 11) (S := S) (fz := fz1) (m := m1) (p := p1) (hd := by omega) (s := s) (k := k) (n := n) (i := i) (j := j) (x := x) (hP := hP1) (hk := RS_k2 hR1) (hk12 := hR.1) (hsk := hsk) (hm := hm1) (hn0 := hS.1) (hn := hS.2.1) (hri := hi) (hrj := hj) (hi := i9) (hj := by omega)))
        · by_cases j9 : 0 ≤ j ∧ j < (n : Int)
          · skip
            exact SM_t (w := 1) hR (by omega) (by omega) (lt_set_1 (Tx_same hP (t_X9_setE0 (d := 10) (S := S) (fz := fz) (m := m) (p := p) (hd := by omega) (s := s) (k := k) (n := n) (x := i) (y := j) (z := x) (hP := hP) (hk := RS_k hR) (hk12 := hR.1) (hsk := hsk) (hm := hS.2.2.1) (hn0 := hS.1) (hn := hS.2.1) (hr := hi) (h := by omega)))) (fun fz1 m1 p1 hP1 f hR1 => by
              have hm1 := hm1_of f hS
              exact (c_X10_set0_01 (d := 11) (S := S) (fz := fz1) (m := m1) (p := p1) (hd := by omega) (s := s) (k := k) (n := n) (i := i) (j := j) (x := x) (hP := hP1) (hk := RS_k2 hR1) (hk12 := hR.1) (hsk := hsk) (hm := hm1) (hn0 := hS.1) (hn := hS.2.1) (hri := hi) (hrj := hj) (hi := by omega) (hj := j9)))
          · skip
            exact SM_t (w := 1) hR (by omega) (by omega) (lt_set_1 (Tx_same hP (t_X9_setE0 (d := 10) (S := S) (fz := fz) (m := m) (p := p) (hd := by omega) (s := s) (k := k) (n := n) (x := i) (y := j) (z := x) (hP := hP) (hk := RS_k hR) (hk12 := hR.1) (hsk := hsk) (hm := hS.2.2.1) (hn0 := hS.1) (hn := hS.2.1) (hr := hi) (h := by omega)))) (fun fz1 m1 p1 hP1 f hR1 => by
              have hm1 := hm1_of f hS
              exact (c_X10_set0_00 (d := 11) (S := S) (fz := fz1) (m := m1) (p := p1) (hd := by omega) (s := s) (k := k) (n := n) (i := i) (j := j) (x := x) (hP := hP1) (hk := RS_k2 hR1) (hk12 := hR.1) (hsk := hsk) (hm := hm1) (hn0 := hS.1) (hn := hS.2.1) (hri := hi) (hrj := hj) (hi := by omega) (hj := by omega)))
      · by_cases i9 : 0 ≤ i ∧ i < (n : Int)
        · obtain ⟨i, rfl, i8⟩ := nat_of i9
          · by_cases x8 : -10007 < x ∧ x < 10007
            · refine SM_of (w := 0) (by omega) (lr_set (Q := (fun x9 mC p1 => PI p1 ∧ x9 = m (117 + 12 * s + 10) i ∧ w1 m (117 + 12 * s + 10) i (toF x) = mC)) (Ct_mono (c_X9_set1 (d := 10) (S := S) (fz := fz) (m := m) (p := p) (hd := by omega) (s := s) (k := k) (n := n) (i := i) (j := j) (x := x) (hP := hP) (hk := RS_k hR) (hk12 := hR.1) (hsk := hsk) (hm := hS.2.2.1) (hn0 := hS.1) (hn := hS.2.1) (hi := i8) (hx := x8)) (fun v m2 p2 h => ⟨_, h.1, h.2.1 ▸ hP, rfl, h.2.2⟩))) (fun fz1 m1 p1 hq => ?_)
              obtain ⟨x9, mC, e9, hP1, hx9, eC⟩ := hq
              have e1 : ∀ b t, b ≠ 280 → ¬ (b = 117 + 12 * s + 10 ∧ t = i) → m1 b t = m b t := fun b t h1 h2 => by rw [w1_e e9 (fun z => h1 z.1), w1_e eC h2]
              have hm1 : m1 262 s = nF n := by rw [e1 262 s (by omega) (by omega)]; exact hS.2.2.2.1
              have hk9 : m1 261 0 = nF k := by rw [e1 261 0 (by omega) (by omega)]; exact RS_k2 hR
              refine ⟨hP1, Ct_mono (c_X10_set1 (d := 11) (S := S) (fz := fz1) (m := m1) (p := p1) (hd := by omega) (s := s) (k := k) (n := n) (i := i) (j := j) (x := x) (hP := hP1) (hk := hk9) (hk12 := hR.1) (hsk := hsk) (hm := hm1) (hn0 := hS.1) (hn := hS.2.1) (hi := i8) (hrj := hj) (hx := x8)) (fun v m2 p2 h => ?_)⟩
              obtain ⟨hv, hp2, eE⟩ := h
              generalize eF : w1 m1 261 21 0 = mF at eE
              have g : ∀ b t, b ≠ 280 → ¬ (b = 117 + 12 * s + 10 ∧ t = i) → ¬ (b = 261 ∧ t = 21) → ¬ (b = 264 ∧ t = (8 * s + i)) → m2 b t = m b t := fun b t h1 h2 h3 h4 => by rw [w1_e eE h4, w1_e eF h3, e1 b t h1 h2]
              have gc : m2 (117 + 12 * s + 10) i = toF x := by rw [w1_e eE (by omega), w1_e eF (by omega), w1_e e9 (by omega), w1_v eC]
              have gm : m2 264 (8 * s + i) = toF x := w1_v eE
              refine ⟨⟨_, hv, rg_vF _, fun _ => ?_⟩, hp2, by rw [w1_e eE (by omega), w1_v eF]; rfl, k, cp, ci, hR.1, hR.2.1, hR.2.2.1, ?_, ?_, ?_, ?_, ?_, ?_, ?_, ?_, fun i hi => ?_, fun i hi => ?_, fun s2 hs2 => ?_, fun c h1 h2 j => ?_⟩
              · rw [e1 264 (8 * s + i) (by omega) (by omega), w1_e eE (by omega), w1_e eF (by omega), w1_v e9, hx9]
                exact congrArg vF (SR_b hS i i8)
              · rw [g 1 1 (by omega) (by omega) (by omega) (by omega)]
                exact RS_k hR
              · rw [g 261 0 (by omega) (by omega) (by omega) (by omega)]
                exact RS_k2 hR
              · rw [g 3 1 (by omega) (by omega) (by omega) (by omega)]
                exact RS_cp hR
              · rw [g 261 6 (by omega) (by omega) (by omega) (by omega)]
                exact RS_cp2 hR
              · rw [g 3 2 (by omega) (by omega) (by omega) (by omega)]
                exact RS_pm hR
              · rw [g 5 1 (by omega) (by omega) (by omega) (by omega)]
                exact RS_ci hR
              · rw [g 261 8 (by omega) (by omega) (by omega) (by omega)]
                exact RS_ci2 hR
              · rw [g 5 2 (by omega) (by omega) (by omega) (by omega)]
                exact RS_im hR
              · rw [g 4 i (by omega) (by omega) (by omega) (by omega), g 267 i (by omega) (by omega) (by omega) (by omega)]
                exact RS_pv hR i hi
              · rw [g 6 i (by omega) (by omega) (by omega) (by omega), g 268 i (by omega) (by omega) (by omega) (by omega)]
                exact RS_iv hR i hi
              · by_cases q : s2 = s
                · subst q
                  refine ⟨n, hn0, hn8, ?_, ?_, fun i2 hi2 j2 hj2 => ?_, fun i2 hi2 => ?_, fun i2 hi2 => ?_, ?_⟩
                  · rw [g _ _ (by omega) (by omega) (by omega) (by omega)]
                    exact hS.2.2.1
                  · rw [g _ _ (by omega) (by omega) (by omega) (by omega)]
                    exact hS.2.2.2.1
                  · rw [g _ _ (by omega) (by omega) (by omega) (by omega), g _ _ (by omega) (by omega) (by omega) (by omega)]
                    exact hS.2.2.2.2.1 i2 hi2 j2 hj2
                  · by_cases q : i2 = i
                    · rw [q, gc, gm]
                    · rw [g _ _ (by omega) (by omega) (by omega) (by omega), g _ _ (by omega) (by omega) (by omega) (by omega)]
                      exact hS.2.2.2.2.2.1 i2 hi2
                  · rw [g _ _ (by omega) (by omega) (by omega) (by omega), g _ _ (by omega) (by omega) (by omega) (by omega)]
                    exact hS.2.2.2.2.2.2.1 i2 hi2
                  · rw [g _ _ (by omega) (by omega) (by omega) (by omega), g _ _ (by omega) (by omega) (by omega) (by omega)]
                    exact hS.2.2.2.2.2.2.2
                · obtain ⟨n2, hn2⟩ := RS_sys hR hs2
                  exact ⟨n2, SR_eq hn2 (fun a a1 a2 => funext fun j => g a j (by omega) (by omega) (by omega) (by omega)) ⟨g 262 s2 (by omega) (by omega) (by omega) (by omega), g 266 s2 (by omega) (by omega) (by omega) (by omega)⟩ (fun y hy => g 263 _ (by omega) (by omega) (by omega) (by omega)) (fun y hy => ⟨g 264 _ (by omega) (by omega) (by omega) (by omega), g 265 _ (by omega) (by omega) (by omega) (by omega)⟩)⟩
              · rw [g c j (by omega) (by omega) (by omega) (by omega)]
                exact RS_z hR c h1 h2 j
            · skip
              exact SM_t (w := 2) hR (by omega) (by omega) (lt_set_2 (Tx_same hP (t_X9_set1 (d := 10) (S := S) (fz := fz) (m := m) (p := p) (hd := by omega) (s := s) (k := k) (n := n) (i := i) (j := j) (x := x) (hP := hP) (hk := RS_k hR) (hk12 := hR.1) (hsk := hsk) (hm := hS.2.2.1) (hn0 := hS.1) (hn := hS.2.1) (hi := i8) (hr := hx) (h := by omega)))) (fun fz1 m1 p1 hP1 f hR1 => by
                have hm1 := hm1_of f hS
                exact (c_X10_setV1 (d := 11) (S := S) (fz := fz1) (m := m1) (p := p1) (hd := by omega) (s := s) (k := k) (n := n) (i := i) (j := j) (x := x) (hP := hP1) (hk := RS_k2 hR1) (hk12 := hR.1) (hsk := hsk) (hm := hm1) (hn0 := hS.1) (hn := hS.2.1) (hi := i8) (hrj := hj) (hr := hx) (hx := by omega)))
        · skip
          exact SM_t (w := 1) hR (by omega) (by omega) (lt_set_1 (Tx_same hP (t_X9_setE1 (d := 10) (S := S) (fz := fz) (m := m) (p := p) (hd := by omega) (s := s) (k := k) (n := n) (x := i) (y := j) (z := x) (hP := hP) (hk := RS_k hR) (hk12 := hR.1) (hsk := hsk) (hm := hS.2.2.1) (hn0 := hS.1) (hn := hS.2.1) (hr := hi) (h := by omega)))) (fun fz1 m1 p1 hP1 f hR1 => by
            have hm1 := hm1_of f hS
            exact (c_X10_set1_01 (d := 11) (S := S) (fz := fz1) (m := m1) (p := p1) (hd := by omega) (s := s) (k := k) (n := n) (i := i) (j := j) (x := x) (hP := hP1) (hk := RS_k2 hR1) (hk12 := hR.1) (hsk := hsk) (hm := hm1) (hn0 := hS.1) (hn := hS.2.1) (hri := hi) (hrj := hj) (hi := by omega)))
      · by_cases j9 : 0 ≤ j ∧ j < (n : Int)
        · obtain ⟨j, rfl, j8⟩ := nat_of j9
          · by_cases x8 : -10007 < x ∧ x < 10007
            · refine SM_of (w := 0) (by omega) (lr_set (Q := (fun x9 mC p1 => PI p1 ∧ x9 = m (117 + 12 * s + 11) j ∧ w1 m (117 + 12 * s + 11) j (toF x) = mC)) (Ct_mono (c_X9_set2 (d := 10) (S := S) (fz := fz) (m := m) (p := p) (hd := by omega) (s := s) (k := k) (n := n) (i := i) (j := j) (x := x) (hP := hP) (hk := RS_k hR) (hk12 := hR.1) (hsk := hsk) (hm := hS.2.2.1) (hn0 := hS.1) (hn := hS.2.1) (hj := j8) (hx := x8)) (fun v m2 p2 h => ⟨_, h.1, h.2.1 ▸ hP, rfl, h.2.2⟩))) (fun fz1 m1 p1 hq => ?_)
              obtain ⟨x9, mC, e9, hP1, hx9, eC⟩ := hq
              have e1 : ∀ b t, b ≠ 280 → ¬ (b = 117 + 12 * s + 11 ∧ t = j) → m1 b t = m b t := fun b t h1 h2 => by rw [w1_e e9 (fun z => h1 z.1), w1_e eC h2]
              have hm1 : m1 262 s = nF n := by rw [e1 262 s (by omega) (by omega)]; exact hS.2.2.2.1
              have hk9 : m1 261 0 = nF k := by rw [e1 261 0 (by omega) (by omega)]; exact RS_k2 hR
              refine ⟨hP1, Ct_mono (c_X10_set2 (d := 11) (S := S) (fz := fz1) (m := m1) (p := p1) (hd := by omega) (s := s) (k := k) (n := n) (i := i) (j := j) (x := x) (hP := hP1) (hk := hk9) (hk12 := hR.1) (hsk := hsk) (hm := hm1) (hn0 := hS.1) (hn := hS.2.1) (hri := hi) (hj := j8) (hx := x8)) (fun v m2 p2 h => ?_)⟩
              obtain ⟨hv, hp2, eE⟩ := h
              generalize eF : w1 m1 261 21 0 = mF at eE
              have g : ∀ b t, b ≠ 280 → ¬ (b = 117 + 12 * s + 11 ∧ t = j) → ¬ (b = 261 ∧ t = 21) → ¬ (b = 265 ∧ t = (8 * s + j)) → m2 b t = m b t := fun b t h1 h2 h3 h4 => by rw [w1_e eE h4, w1_e eF h3, e1 b t h1 h2]
              have gc : m2 (117 + 12 * s + 11) j = toF x := by rw [w1_e eE (by omega), w1_e eF (by omega), w1_e e9 (by omega), w1_v eC]
              have gm : m2 265 (8 * s + j) = toF x := w1_v eE
              refine ⟨⟨_, hv, rg_vF _, fun _ => ?_⟩, hp2, by rw [w1_e eE (by omega), w1_v eF]; rfl, k, cp, ci, hR.1, hR.2.1, hR.2.2.1, ?_, ?_, ?_, ?_, ?_, ?_, ?_, ?_, fun i hi => ?_, fun i hi => ?_, fun s2 hs2 => ?_, fun c h1 h2 j => ?_⟩
              · rw [e1 265 (8 * s + j) (by omega) (by omega), w1_e eE (by omega), w1_e eF (by omega), w1_v e9, hx9]
                exact congrArg vF (SR_c hS j j8)
              · rw [g 1 1 (by omega) (by omega) (by omega) (by omega)]
                exact RS_k hR
              · rw [g 261 0 (by omega) (by omega) (by omega) (by omega)]
                exact RS_k2 hR
              · rw [g 3 1 (by omega) (by omega) (by omega) (by omega)]
                exact RS_cp hR
              · rw [g 261 6 (by omega) (by omega) (by omega) (by omega)]
                exact RS_cp2 hR
              · rw [g 3 2 (by omega) (by omega) (by omega) (by omega)]
                exact RS_pm hR
              · rw [g 5 1 (by omega) (by omega) (by omega) (by omega)]
                exact RS_ci hR
              · rw [g 261 8 (by omega) (by omega) (by omega) (by omega)]
                exact RS_ci2 hR
              · rw [g 5 2 (by omega) (by omega) (by omega) (by omega)]
                exact RS_im hR
              · rw [g 4 i (by omega) (by omega) (by omega) (by omega), g 267 i (by omega) (by omega) (by omega) (by omega)]
                exact RS_pv hR i hi
              · rw [g 6 i (by omega) (by omega) (by omega) (by omega), g 268 i (by omega) (by omega) (by omega) (by omega)]
                exact RS_iv hR i hi
              · by_cases q : s2 = s
                · subst q
                  refine ⟨n, hn0, hn8, ?_, ?_, fun i2 hi2 j2 hj2 => ?_, fun i2 hi2 => ?_, fun i2 hi2 => ?_, ?_⟩
                  · rw [g _ _ (by omega) (by omega) (by omega) (by omega)]
                    exact hS.2.2.1
                  · rw [g _ _ (by omega) (by omega) (by omega) (by omega)]
                    exact hS.2.2.2.1
                  · rw [g _ _ (by omega) (by omega) (by omega) (by omega), g _ _ (by omega) (by omega) (by omega) (by omega)]
                    exact hS.2.2.2.2.1 i2 hi2 j2 hj2
                  · rw [g _ _ (by omega) (by omega) (by omega) (by omega), g _ _ (by omega) (by omega) (by omega) (by omega)]
                    exact hS.2.2.2.2.2.1 i2 hi2
                  · by_cases q : i2 = j
                    · rw [q, gc, gm]
                    · rw [g _ _ (by omega) (by omega) (by omega) (by omega), g _ _ (by omega) (by omega) (by omega) (by omega)]
                      exact hS.2.2.2.2.2.2.1 i2 hi2
                  · rw [g _ _ (by omega) (by omega) (by omega) (by omega), g _ _ (by omega) (by omega) (by omega) (by omega)]
                    exact hS.2.2.2.2.2.2.2
                · obtain ⟨n2, hn2⟩ := RS_sys hR hs2
                  exact ⟨n2, SR_eq hn2 (fun a a1 a2 => funext fun j => g a j (by omega) (by omega) (by omega) (by omega)) ⟨g 262 s2 (by omega) (by omega) (by omega) (by omega), g 266 s2 (by omega) (by omega) (by omega) (by omega)⟩ (fun y hy => g 263 _ (by omega) (by omega) (by omega) (by omega)) (fun y hy => ⟨g 264 _ (by omega) (by omega) (by omega) (by omega), g 265 _ (by omega) (by omega) (by omega) (by omega)⟩)⟩
              · rw [g c j (by omega) (by omega) (by omega) (by omega)]
                exact RS_z hR c h1 h2 j
            · skip
              exact SM_t (w := 2) hR (by omega) (by omega) (lt_set_2 (Tx_same hP (t_X9_set2 (d := 10) (S := S) (fz := fz) (m := m) (p := p) (hd := by omega) (s := s) (k := k) (n := n) (i := i) (j := j) (x := x) (hP := hP) (hk := RS_k hR) (hk12 := hR.1) (hsk := hsk) (hm := hS.2.2.1) (hn0 := hS.1) (hn := hS.2.1) (hj := j8) (hr := hx) (h := by omega)))) (fun fz1 m1 p1 hP1 f hR1 => by
                have hm1 := hm1_of f hS
                exact (c_X10_setV2 (d := 11) (S := S) (fz := fz1) (m := m1) (p := p1) (hd := by omega) (s := s) (k := k) (n := n) (i := i) (j := j) (x := x) (hP := hP1) (hk := RS_k2 hR1) (hk12 := hR.1) (hsk := hsk) (hm := hm1) (hn0 := hS.1) (hn := hS.2.1) (hri := hi) (hj := j8) (hr := hx) (hx := by omega)))
        · skip
          exact SM_t (w := 1) hR (by omega) (by omega) (lt_set_1 (Tx_same hP (t_X9_setE2 (d := 10) (S := S) (fz := fz) (m := m) (p := p) (hd := by omega) (s := s) (k := k) (n := n) (x := i) (y := j) (z := x) (hP := hP) (hk := RS_k hR) (hk12 := hR.1) (hsk := hsk) (hm := hS.2.2.1) (hn0 := hS.1) (hn := hS.2.1) (hr := hj) (h := by omega)))) (fun fz1 m1 p1 hP1 f hR1 => by
            have hm1 := hm1_of f hS
            exact (c_X10_set2_10 (d := 11) (S := S) (fz := fz1) (m := m1) (p := p1) (hd := by omega) (s := s) (k := k) (n := n) (i := i) (j := j) (x := x) (hP := hP1) (hk := RS_k2 hR1) (hk12 := hR.1) (hsk := hsk) (hm := hm1) (hn0 := hS.1) (hn := hS.2.1) (hri := hi) (hrj := hj) (hj := by omega)))
      · skip
        · by_cases x8 : -10007 < x ∧ x < 10007
          · refine SM_of (w := 0) (by omega) (lr_set (Q := (fun x9 mC p1 => PI p1 ∧ x9 = m (117 + 12 * s) 4 ∧ w1 m (117 + 12 * s) 4 (toF x) = mC)) (Ct_mono (c_X9_set3 (d := 10) (S := S) (fz := fz) (m := m) (p := p) (hd := by omega) (s := s) (k := k) (n := n) (i := i) (j := j) (x := x) (hP := hP) (hk := RS_k hR) (hk12 := hR.1) (hsk := hsk) (hm := hS.2.2.1) (hn0 := hS.1) (hn := hS.2.1) (hx := x8)) (fun v m2 p2 h => ⟨_, h.1, h.2.1 ▸ hP, rfl, h.2.2⟩))) (fun fz1 m1 p1 hq => ?_)
            obtain ⟨x9, mC, e9, hP1, hx9, eC⟩ := hq
            have e1 : ∀ b t, b ≠ 280 → ¬ (b = 117 + 12 * s ∧ t = 4) → m1 b t = m b t := fun b t h1 h2 => by rw [w1_e e9 (fun z => h1 z.1), w1_e eC h2]
            have hm1 : m1 262 s = nF n := by rw [e1 262 s (by omega) (by omega)]; exact hS.2.2.2.1
            have hk9 : m1 261 0 = nF k := by rw [e1 261 0 (by omega) (by omega)]; exact RS_k2 hR
            refine ⟨hP1, Ct_mono (c_X10_set3 (d := 11) (S := S) (fz := fz1) (m := m1) (p := p1) (hd := by omega) (s := s) (k := k) (n := n) (i := i) (j := j) (x := x) (hP := hP1) (hk := hk9) (hk12 := hR.1) (hsk := hsk) (hm := hm1) (hn0 := hS.1) (hn := hS.2.1) (hri := hi) (hrj := hj) (hx := x8)) (fun v m2 p2 h => ?_)⟩
            obtain ⟨hv, hp2, eE⟩ := h
            generalize eF : w1 m1 261 21 0 = mF at eE
            have g : ∀ b t, b ≠ 280 → ¬ (b = 117 + 12 * s ∧ t = 4) → ¬ (b = 261 ∧ t = 21) → ¬ (b = 266 ∧ t = s) → m2 b t = m b t := fun b t h1 h2 h3 h4 => by rw [w1_e eE h4, w1_e eF h3, e1 b t h1 h2]
            have gc : m2 (117 + 12 * s) 4 = toF x := by rw [w1_e eE (by omega), w1_e eF (by omega), w1_e e9 (by omega), w1_v eC]
            have gm : m2 266 s = toF x := w1_v eE
            refine ⟨⟨_, hv, rg_vF _, fun _ => ?_⟩, hp2, by rw [w1_e eE (by omega), w1_v eF]; rfl, k, cp, ci, hR.1, hR.2.1, hR.2.2.1, ?_, ?_, ?_, ?_, ?_, ?_, ?_, ?_, fun i hi => ?_, fun i hi => ?_, fun s2 hs2 => ?_, fun c h1 h2 j => ?_⟩
            · rw [e1 266 s (by omega) (by omega), w1_e eE (by omega), w1_e eF (by omega), w1_v e9, hx9]
              exact congrArg vF (SR_d hS)
            · rw [g 1 1 (by omega) (by omega) (by omega) (by omega)]
              exact RS_k hR
            · rw [g 261 0 (by omega) (by omega) (by omega) (by omega)]
              exact RS_k2 hR
            · rw [g 3 1 (by omega) (by omega) (by omega) (by omega)]
              exact RS_cp hR
            · rw [g 261 6 (by omega) (by omega) (by omega) (by omega)]
              exact RS_cp2 hR
            · rw [g 3 2 (by omega) (by omega) (by omega) (by omega)]
              exact RS_pm hR
            · rw [g 5 1 (by omega) (by omega) (by omega) (by omega)]
              exact RS_ci hR
            · rw [g 261 8 (by omega) (by omega) (by omega) (by omega)]
              exact RS_ci2 hR
            · rw [g 5 2 (by omega) (by omega) (by omega) (by omega)]
              exact RS_im hR
            · rw [g 4 i (by omega) (by omega) (by omega) (by omega), g 267 i (by omega) (by omega) (by omega) (by omega)]
              exact RS_pv hR i hi
            · rw [g 6 i (by omega) (by omega) (by omega) (by omega), g 268 i (by omega) (by omega) (by omega) (by omega)]
              exact RS_iv hR i hi
            · by_cases q : s2 = s
              · subst q
                refine ⟨n, hn0, hn8, ?_, ?_, fun i2 hi2 j2 hj2 => ?_, fun i2 hi2 => ?_, fun i2 hi2 => ?_, ?_⟩
                · rw [g _ _ (by omega) (by omega) (by omega) (by omega)]
                  exact hS.2.2.1
                · rw [g _ _ (by omega) (by omega) (by omega) (by omega)]
                  exact hS.2.2.2.1
                · rw [g _ _ (by omega) (by omega) (by omega) (by omega), g _ _ (by omega) (by omega) (by omega) (by omega)]
                  exact hS.2.2.2.2.1 i2 hi2 j2 hj2
                · rw [g _ _ (by omega) (by omega) (by omega) (by omega), g _ _ (by omega) (by omega) (by omega) (by omega)]
                  exact hS.2.2.2.2.2.1 i2 hi2
                · rw [g _ _ (by omega) (by omega) (by omega) (by omega), g _ _ (by omega) (by omega) (by omega) (by omega)]
                  exact hS.2.2.2.2.2.2.1 i2 hi2
                · rw [gc, gm]
              · obtain ⟨n2, hn2⟩ := RS_sys hR hs2
                exact ⟨n2, SR_eq hn2 (fun a a1 a2 => funext fun j => g a j (by omega) (by omega) (by omega) (by omega)) ⟨g 262 s2 (by omega) (by omega) (by omega) (by omega), g 266 s2 (by omega) (by omega) (by omega) (by omega)⟩ (fun y hy => g 263 _ (by omega) (by omega) (by omega) (by omega)) (fun y hy => ⟨g 264 _ (by omega) (by omega) (by omega) (by omega), g 265 _ (by omega) (by omega) (by omega) (by omega)⟩)⟩
            · rw [g c j (by omega) (by omega) (by omega) (by omega)]
              exact RS_z hR c h1 h2 j
          · skip
            exact SM_t (w := 2) hR (by omega) (by omega) (lt_set_2 (Tx_same hP (t_X9_set3 (d := 10) (S := S) (fz := fz) (m := m) (p := p) (hd := by omega) (s := s) (k := k) (n := n) (i := i) (j := j) (x := x) (hP := hP) (hk := RS_k hR) (hk12 := hR.1) (hsk := hsk) (hm := hS.2.2.1) (hn0 := hS.1) (hn := hS.2.1) (hr := hx) (h := by omega)))) (fun fz1 m1 p1 hP1 f hR1 => by
              have hm1 := hm1_of f hS
              exact (c_X10_setV3 (d := 11) (S := S) (fz := fz1) (m := m1) (p := p1) (hd := by omega) (s := s) (k := k) (n := n) (i := i) (j := j) (x := x) (hP := hP1) (hk := RS_k2 hR1) (hk12 := hR.1) (hsk := hsk) (hm := hm1) (hn0 := hS.1) (hn := hS.2.1) (hri := hi) (hrj := hj) (hr := hx) (hx := by omega)))
  · skip
    exact SM_t (w := 1) hR (by omega) (by omega) (lt_set_1 (Tx_same hP (t_X9_set (d := 10) (S := S) (fz := fz) (m := m) (p := p) (hd := by omega) (s := a) (a1 := w) (a2 := i) (a3 := j) (a4 := x) (k := k) (hP := hP) (hk := RS_k hR) (hk12 := hR.1) (hs := ⟨ha, h⟩)))) (fun fz1 m1 p1 hP1 f hR1 => by
      exact (c_X10_setS (d := 11) (S := S) (fz := fz1) (m := m1) (p := p1) (hd := by omega) (s := a) (k := k) (w := w) (i := i) (j := j) (x := x) (hP := hP1) (hk := RS_k2 hR1) (hk12 := hR.1) (hr := ha) (h := h)))
