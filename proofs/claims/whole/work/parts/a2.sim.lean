/-! THE CLASS and the model side by side. -/
section
variable {n : Nat} {A A' : Nat → Nat → F} {b b' c c' : Nat → F}
theorem hs_cg {d : F} (hA : ∀ i, i < n → ∀ j, j < n → A i j = A' i j) (hb : ∀ i, i < n → b i = b' i) (hc : ∀ i, i < n → c i = c' i) (k : Nat) : hs n A b c d k = hs n A' b' c' d k := by
  unfold hs
  rw [dot_congr hc (fun i hi => kr_congr hA hb (k - 1) i hi)]
theorem xs_cg {u u' : Nat → F} (hA : ∀ i, i < n → ∀ j, j < n → A i j = A' i j) (hb : ∀ i, i < n → b i = b' i) (hu : ∀ i, u i = u' i) (l : Nat) : ∀ i, i < n → xs n A b u l i = xs n A' b' u' l i := by
  induction l with
  | zero => exact fun _ _ => rfl
  | succ l ih =>
    intro i hi
    show dot n (A i) (xs n A b u l) + b i * u l = dot n (A' i) (xs n A' b' u' l) + b' i * u' l
    rw [dot_congr (fun j hj => hA i hi j hj) (fun j hj => ih j hj), hb i hi, hu l]
theorem uu_cg {v v' : Nat → F} {k : Nat} (h : ∀ i, i < k → v i = v' i) (i : Nat) : uu v k i = uu v' k i := by
  unfold uu
  by_cases q : i < k
  · rw [if_pos q, if_pos q, h i q]
  · rw [if_neg q, if_neg q]
theorem av_cg {P P' x : Nat → F} (hA : ∀ i, i < n → ∀ j, j < n → A i j = A' i j) (hP : ∀ i, i < n → P i = P' i) (t : Nat) : t ≤ n → ∀ j, j < n → av n A P x t j = av n A' P' x t j := by
  induction t with
  | zero => exact fun _ _ _ => rfl
  | succ t ih =>
    intro ht j hj
    show dot n (av n A P x t) (fun i => A i j) - P t * av n A P x t j = dot n (av n A' P' x t) (fun i => A' i j) - P' t * av n A' P' x t j
    rw [hP t (by omega), ih (by omega) j hj, dot_congr (fun i hi => ih (by omega) i hi) (fun i hi => hA i hi j hj)]
theorem av_x {P x y : Nat → F} (h : ∀ i, i < n → x i = y i) (t : Nat) : ∀ j, j < n → av n A P x t j = av n A P y t j := by
  induction t with
  | zero => exact h
  | succ t ih =>
    intro j hj
    show dot n (av n A P x t) (fun i => A i j) - P t * av n A P x t j = dot n (av n A P y t) (fun i => A i j) - P t * av n A P y t j
    rw [ih j hj, dot_congr (fun i hi => ih i hi) (fun _ _ => rfl)]
theorem flG_cg {M M' : Nat → Nat → F} (hA : ∀ i, i < n → ∀ j, j < n → A i j = A' i j) (hM : ∀ i, i < n → ∀ j, j < n → M i j = M' i j) (i : Nat) (hi : i < n) (j : Nat) (hj : j < n) : flG n A M i j = flG n A' M' i j := dot_congr (fun l hl => hA i hi l hl) (fun l hl => hM l hl j hj)
theorem flt_cg {M M' : Nat → Nat → F} (hA : ∀ i, i < n → ∀ j, j < n → A i j = A' i j) (hM : ∀ i, i < n → ∀ j, j < n → M i j = M' i j) (s : Nat) : flt n A M s = flt n A' M' s := by
  unfold flt
  rw [sm_congr (fun i hi => flG_cg hA hM i hi i hi)]
theorem flM_cg (hA : ∀ i, i < n → ∀ j, j < n → A i j = A' i j) (s : Nat) : ∀ i, i < n → ∀ j, j < n → flM n A s i j = flM n A' s i j := by
  induction s with
  | zero => exact fun _ _ _ _ => rfl
  | succ s ih =>
    intro i hi j hj
    rw [flM_s, flM_s, flG_cg hA ih i hi j hj, flt_cg hA ih s]
theorem pbl_cg (hA : ∀ i, i < n → ∀ j, j < n → A i j = A' i j) (k : Nat) : pbl n A k = pbl n A' k := by
  unfold pbl
  rw [flt_cg hA (flM_cg hA _)]
theorem pab_cg (hA : ∀ i, i < n → ∀ j, j < n → A i j = A' i j) (hb : ∀ i, i < n → b i = b' i) (hc : ∀ i, i < n → c i = c' i) (k : Nat) : pab n A b c k = pab n A' b' c' k := by
  unfold pab
  rw [dot_congr hc (fun i hi => dot_congr (fun j hj => flM_cg hA _ i hi j hj) hb)]
section
variable {P P' : Nat → Nat → F} {q r : F}
theorem rb_cg (hP : ∀ i, i < n → ∀ j, j < n → P i j = P' i j) (hb : ∀ i, i < n → b i = b' i) (i : Nat) (hi : i < n) : rb n P b i = rb n P' b' i := dot_congr (fun j hj => hP i hi j hj) hb
theorem rm_cg (hP : ∀ i, i < n → ∀ j, j < n → P i j = P' i j) (hb : ∀ i, i < n → b i = b' i) : rm n P b r = rm n P' b' r := by
  unfold rm
  rw [dot_congr hb (fun i hi => rb_cg hP hb i hi)]
theorem rpa_cg (hA : ∀ i, i < n → ∀ j, j < n → A i j = A' i j) (hP : ∀ i, i < n → ∀ j, j < n → P i j = P' i j) (i : Nat) (hi : i < n) (j : Nat) (hj : j < n) : rpa n P A i j = rpa n P' A' i j := dot_congr (fun l hl => hP i hi l hl) (fun l hl => hA l hl j hj)
theorem rap_cg (hA : ∀ i, i < n → ∀ j, j < n → A i j = A' i j) (hP : ∀ i, i < n → ∀ j, j < n → P i j = P' i j) (hb : ∀ i, i < n → b i = b' i) (j : Nat) (hj : j < n) : rap n P A b j = rap n P' A' b' j := dot_congr (fun l hl => rb_cg hP hb l hl) (fun l hl => hA l hl j hj)
theorem rc_cg (hA : ∀ i, i < n → ∀ j, j < n → A i j = A' i j) (hb : ∀ i, i < n → b i = b' i) (hc : ∀ i, i < n → c i = c' i) (s : Nat) : ∀ i, i < n → ∀ j, j < n → rc n A b c q r s i j = rc n A' b' c' q r s i j := by
  induction s with
  | zero =>
    intro i hi j hj
    show q * (c i * c j) = q * (c' i * c' j)
    rw [hc i hi, hc j hj]
  | succ s ih =>
    intro i hi j hj
    rw [rc_s, rc_s]
    unfold rs rq rK
    rw [hc i hi, hc j hj, rm_cg ih hb, rap_cg hA ih hb i hi, dot_congr hb (fun l hl => rpa_cg hA ih l hl j hj), dot_congr (fun l hl => hA l hl i hi) (fun l hl => rpa_cg hA ih l hl j hj)]
end
end
theorem ecd_le (t : Nat) : ∀ (f g : Nat → F) (hd ld : Nat), ld ≤ hd → ecd t f g hd ld ≤ hd := by
  induction t with
  | zero => exact fun _ _ _ _ _ => Nat.le_refl _
  | succ t ih =>
    intro f g hd ld h
    show (if ld = 0 then hd else _) ≤ hd
    by_cases q : ld = 0
    · rw [if_pos q]
      exact Nat.le_refl _
    · rw [if_neg q]
      have h1 := dg_le (f := mdv hd (ld - 1) g f (hd - (ld - 1) + 1)) (ld - 1)
      have h2 := ih g (mdv hd (ld - 1) g f (hd - (ld - 1) + 1)) (ld - 1) (dg (mdv hd (ld - 1) g f (hd - (ld - 1) + 1)) (ld - 1)) h1
      omega
/-- system s of the class is system s of the model -/
def SR (m : M1) (s n : Nat) : Prop := 1 ≤ n ∧ n ≤ 8 ∧ m (117 + 12 * s) 0 = nF n ∧ m 262 s = nF n ∧ (∀ i, i < n → ∀ j, j < n → m (117 + 12 * s + 2 + i) j = m 263 (64 * s + 8 * i + j)) ∧ (∀ i, i < n → m (117 + 12 * s + 10) i = m 264 (8 * s + i)) ∧ (∀ i, i < n → m (117 + 12 * s + 11) i = m 265 (8 * s + i)) ∧ m (117 + 12 * s) 4 = m 266 s
def RS (k cp ci : Nat) (m : M1) : Prop := k ≤ 12 ∧ cp ≤ 16 ∧ ci ≤ 20 ∧ m 1 1 = nF k ∧ m 261 0 = nF k ∧ m 3 1 = nF cp ∧ m 261 6 = nF cp ∧ m 3 2 = nF 16 ∧ m 5 1 = nF ci ∧ m 261 8 = nF ci ∧ m 5 2 = nF 20 ∧ (∀ i, i < cp → m 4 i = m 267 i) ∧ (∀ i, i < ci → m 6 i = m 268 i) ∧ (∀ s, s < k → ∃ n, SR m s n) ∧ ∀ c, 117 + 12 * k ≤ c → c < 261 → ∀ j, m c j = 0
def RX (m : M1) : Prop := ∃ k cp ci, RS k cp ci m
theorem SR_eq {m m1 : M1} {s n : Nat} (h : SR m s n) (e1 : ∀ a, 117 + 12 * s ≤ a → a < 117 + 12 * s + 12 → m1 a = m a) (e2 : m1 262 s = m 262 s ∧ m1 266 s = m 266 s) (e3 : ∀ x, x < 64 → m1 263 (64 * s + x) = m 263 (64 * s + x)) (e4 : ∀ x, x < 8 → m1 264 (8 * s + x) = m 264 (8 * s + x) ∧ m1 265 (8 * s + x) = m 265 (8 * s + x)) : SR m1 s n := by
  obtain ⟨h1, h2, h3, h4, h5, h6, h7, h8⟩ := h
  refine ⟨h1, h2, by rw [e1 _ (by omega) (by omega)]; exact h3, by rw [e2.1]; exact h4, fun i hi j hj => ?_, fun i hi => ?_, fun i hi => ?_, ?_⟩
  · rw [e1 _ (by omega) (by omega), Nat.add_assoc (64 * s), e3 _ (by omega), ← Nat.add_assoc]
    exact h5 i hi j hj
  · rw [e1 _ (by omega) (by omega), (e4 i (by omega)).1]
    exact h6 i hi
  · rw [e1 _ (by omega) (by omega), (e4 i (by omega)).2]
    exact h7 i hi
  · rw [e1 _ (by omega) (by omega), e2.2]
    exact h8
def qf (a : Nat) : Prop := (7 ≤ a ∧ a < 117) ∨ a = 280
theorem RS_eq {k cp ci : Nat} {m m1 : M1} (h : RS k cp ci m) (e : ∀ a, ¬ qf a → a ≠ 261 → a < 269 → m1 a = m a) (e2 : m1 261 0 = m 261 0 ∧ m1 261 6 = m 261 6 ∧ m1 261 8 = m 261 8) : RS k cp ci m1 := by
  obtain ⟨h1, h2, h3, h4, h5, h6, h7, h8, h9, h10, h11, h12, h13, h14, h15⟩ := h
  have g : ∀ a, a < 7 ∨ (117 ≤ a ∧ a < 269 ∧ a ≠ 261) → m1 a = m a := fun a ha => e a (fun z => by unfold qf at z; omega) (by omega) (by omega)
  refine ⟨h1, h2, h3, by rw [g 1 (by omega)]; exact h4, by rw [e2.1]; exact h5, by rw [g 3 (by omega)]; exact h6, by rw [e2.2.1]; exact h7, by rw [g 3 (by omega)]; exact h8, by rw [g 5 (by omega)]; exact h9, by rw [e2.2.2]; exact h10, by rw [g 5 (by omega)]; exact h11, fun i hi => by rw [g 4 (by omega), g 267 (by omega)]; exact h12 i hi, fun i hi => by rw [g 6 (by omega), g 268 (by omega)]; exact h13 i hi, fun s hs => ?_, fun c c1 c2 j => by rw [g c (by omega)]; exact h15 c c1 c2 j⟩
  obtain ⟨n, hn⟩ := h14 s hs
  exact ⟨n, SR_eq hn (fun a a1 a2 => g a (by omega)) ⟨congrFun (g 262 (by omega)) s, congrFun (g 266 (by omega)) s⟩ (fun x _ => congrFun (g 263 (by omega)) _) (fun x _ => ⟨congrFun (g 264 (by omega)) _, congrFun (g 265 (by omega)) _⟩)⟩
theorem RS_fr {k cp ci : Nat} {m m1 : M1} (h : RS k cp ci m) (f : Fr qf m m1) : RS k cp ci m1 :=
  RS_eq h (fun a ha _ _ => f a ha) (by rw [f 261 (fun z => by unfold qf at z; omega)]; exact ⟨rfl, rfl, rfl⟩)
theorem RS_mq {k cp ci w : Nat} {m m1 : M1} (h : RS k cp ci m) (f : QMx w m m1) : RS k cp ci m1 :=
  RS_eq h (fun a _ ha h9 => f.1 a ha (Or.inl h9)) ⟨f.2.1 0 (by omega), f.2.1 6 (by omega), f.2.1 8 (by omega)⟩
theorem RS_sys {k cp ci s : Nat} {m : M1} (h : RS k cp ci m) (hs : s < k) : ∃ n, SR m s n := h.2.2.2.2.2.2.2.2.2.2.2.2.2.1 s hs
/-- one call: the law's method, then the model's; they say the same -/
def SM (S : MC) (arL arX : List Value) (kL kX : Nat) (fz : Bool) (m : M1) (p : M2) : Prop := ∃ (w : Nat) (b : Int) (m1 : M1) (p1 : M2) (m2 : M1) (fz1 : Bool) (c s : Nat), Ev 11 kL arL (hpM S fz (m, p)) (.inl (some (.int (iI (w : Int)))), hpM S fz1 (m1, p1), c, s) ∧ c ≤ 1 ∧ s ≤ 6 ∧ w ≤ 3 ∧ Ev 11 kX arX (hpM S fz1 (m1, p1)) (.inl (some (.int (iI b))), hpM S fz1 (m2, p1), 0, 0) ∧ rg b ∧ m2 261 21 = nF w ∧ (w = 0 → b = vF (m2 280 0)) ∧ RX m2 ∧ PI p1
theorem SM_of {S : MC} {arL arX : List Value} {kL kX w : Nat} {fz : Bool} {m : M1} {p : M2} {Q : M1 → M2 → Prop} (hw3 : w ≤ 3) (hW : WO 11 kL S fz arL m p w Q) (hX : ∀ fz1 m1 p1, Q m1 p1 → PI p1 ∧ Ct 11 kX S fz1 arX m1 p1 (fun v m2 p2 => (∃ b, v = some (.int (iI b)) ∧ rg b ∧ (w = 0 → b = vF (m2 280 0))) ∧ p1 = p2 ∧ m2 261 21 = nF w ∧ RX m2)) : SM S arL arX kL kX fz m p := by
  obtain ⟨m1, p1, fz1, c, s, hE, hc, hs, hq⟩ := hW
  obtain ⟨hP, v, m2, p2, hE2, ⟨b, rfl, hb, hb2⟩, rfl, ht, hR⟩ := hX fz1 m1 p1 hq
  exact ⟨w, b, m1, p1, m2, fz1, c, s, hE, hc, hs, hw3, hE2, hb, ht, hb2, hR, hP⟩
theorem WO_mono {d k : Nat} {S : MC} {fz : Bool} {ar : List Value} {m : M1} {p : M2} {w : Nat} {Q Q' : M1 → M2 → Prop} (h : WO d k S fz ar m p w Q) (hQ : ∀ m1 p1, Q m1 p1 → Q' m1 p1) : WO d k S fz ar m p w Q' := by
  obtain ⟨m1, p1, fz1, c, s, h1, h2, h3, h4⟩ := h
  exact ⟨m1, p1, fz1, c, s, h1, h2, h3, hQ _ _ h4⟩
/-- a question: the class leaves all but its own scratch -/
theorem SM_q {S : MC} {arL arX : List Value} {kL kX w k cp ci : Nat} {fz : Bool} {m : M1} {p : M2} {x : F} (hR : RS k cp ci m) (hw3 : w ≤ 3) (hW : WO 11 kL S fz arL m p w (fun m1 p1 => PI p1 ∧ Fr qf m m1 ∧ (w = 0 → m1 280 0 = x))) (hX : ∀ fz1 m1 p1, PI p1 → Fr qf m m1 → RS k cp ci m1 → Ct 11 kX S fz1 arX m1 p1 (fun v m2 p2 => (∃ b, v = some (.int (iI b)) ∧ rg b ∧ (w = 0 → b = vF x)) ∧ p1 = p2 ∧ QMx w m1 m2)) : SM S arL arX kL kX fz m p := by
  refine SM_of hw3 hW (fun fz1 m1 p1 hq => ⟨hq.1, Ct_mono (hX fz1 m1 p1 hq.1 hq.2.1 (RS_fr hR hq.2.1)) (fun v m2 p2 h => ?_)⟩)
  obtain ⟨⟨b, hb, hb1, hb2⟩, hp, hq2⟩ := h
  refine ⟨⟨b, hb, hb1, fun hw => ?_⟩, hp, hq2.2.2, k, cp, ci, RS_mq (RS_fr hR hq.2.1) hq2⟩
  rw [hb2 hw, ← hq.2.2 hw, hq2.1 280 (by omega) (Or.inr (Nat.le_refl _))]
theorem WO_q {d k : Nat} {S : MC} {fz : Bool} {ar : List Value} {m : M1} {p : M2} {x : F} (h : WO d k S fz ar m p 0 (fun m1 p1 => ∃ x' m2, w1 m2 280 0 x' = m1 ∧ (x' = x ∧ PI p1 ∧ Fr (fun a => 7 ≤ a ∧ a < 117) m m2))) : WO d k S fz ar m p 0 (fun m1 p1 => PI p1 ∧ Fr qf m m1 ∧ (0 = 0 → m1 280 0 = x)) :=
  WO_mono h (fun m1 p1 h => by
    obtain ⟨x', m2, h1, h2, h3, h4⟩ := h
    refine ⟨h3, fr_w h1 (Fr_mono h4 (fun a ha => Or.inl ha)) (Or.inr rfl), fun _ => ?_⟩
    rw [← h1, w1_at, h2])
theorem WO_t {d k w : Nat} {S : MC} {fz : Bool} {ar : List Value} {m : M1} {p : M2} {x : F} (hw : w ≠ 0) (h : WO d k S fz ar m p w (fun m1 p1 => PI p1 ∧ Fr (fun a => 7 ≤ a ∧ a < 117) m m1)) : WO d k S fz ar m p w (fun m1 p1 => PI p1 ∧ Fr qf m m1 ∧ (w = 0 → m1 280 0 = x)) :=
  WO_mono h (fun m1 p1 h => ⟨h.1, Fr_mono h.2 (fun a ha => Or.inl ha), fun z => absurd z hw⟩)
/-- a failing answer of the model's -/
theorem Ct_bad {d k w : Nat} {S : MC} {fz : Bool} {ar : List Value} {m : M1} {p : M2} {x : F} (hw : w ≠ 0) (h : Ct d k S fz ar m p (fun v m2 p2 => v = some (.int (iI 0)) ∧ p = p2 ∧ QMx w m m2)) : Ct d k S fz ar m p (fun v m2 p2 => (∃ b, v = some (.int (iI b)) ∧ rg b ∧ (w = 0 → b = vF x)) ∧ p = p2 ∧ QMx w m m2) :=
  Ct_mono h (fun v m2 p2 h => ⟨⟨0, h.1, ⟨by omega, by omega⟩, fun z => absurd z hw⟩, h.2.1, h.2.2⟩)
theorem Tx_same {d k E : Nat} {S : MC} {fz : Bool} {ar : List Value} {m : M1} {p : M2} (hP : PI p) (h : Tx d k S fz ar m p E (fun m' p' => m = m' ∧ p = p')) : Tx d k S fz ar m p E (fun m1 p1 => PI p1 ∧ Fr (fun a => 7 ≤ a ∧ a < 117) m m1) :=
  Tx_mono h (fun m1 p1 h => by rw [← h.1, ← h.2]; exact ⟨hP, Fr_rfl⟩)
theorem Tx_samep {d k E : Nat} {S : MC} {fz : Bool} {ar : List Value} {m : M1} {p : M2} (hP : PI p) (h : Tx d k S fz ar m p E (fun m' p' => p = p' ∧ Fr (fun a => 7 ≤ a ∧ a < 117) m m')) : Tx d k S fz ar m p E (fun m1 p1 => PI p1 ∧ Fr (fun a => 7 ≤ a ∧ a < 117) m m1) :=
  Tx_mono h (fun m1 p1 h => by rw [← h.1]; exact ⟨hP, h.2⟩)
/-- a failing question -/
theorem SM_t {S : MC} {arL arX : List Value} {kL kX w k cp ci : Nat} {fz : Bool} {m : M1} {p : M2} (hR : RS k cp ci m) (hw : w ≠ 0) (hw3 : w ≤ 3) (hW : WO 11 kL S fz arL m p w (fun m1 p1 => PI p1 ∧ Fr (fun a => 7 ≤ a ∧ a < 117) m m1)) (hX : ∀ fz1 m1 p1, PI p1 → Fr qf m m1 → RS k cp ci m1 → Ct 11 kX S fz1 arX m1 p1 (fun v m2 p2 => v = some (.int (iI 0)) ∧ p1 = p2 ∧ QMx w m1 m2)) : SM S arL arX kL kX fz m p :=
  SM_q (x := 0) hR hw3 (WO_t hw hW) (fun fz1 m1 p1 h1 h2 h3 => Ct_bad hw (hX fz1 m1 p1 h1 h2 h3))
