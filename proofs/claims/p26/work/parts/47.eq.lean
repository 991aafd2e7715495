/-! EQUATIONS: eight rows of nine, in some order. -/
def EQ (p : M2) (e : Nat) (R : Nat → Nat) : Prop := SH e = (11, 0) ∧ p e 0 = some (e + 1) ∧ (SH (e + 1) = (3, 8) ∧ (∀ i, i < 8 → p (e + 1) i = some (R i)) ∧ (∀ i, i < 8 → SH (R i) = (1, 9))) ∧ (∀ i, i < 8 → e + 2 ≤ R i ∧ R i < e + 10) ∧ (∀ i j, i < 8 → j < 8 → R i = R j → i = j)
def swR (R : Nat → Nat) (a b : Nat) : Nat → Nat := fun i => if i = b then R a else if i = a then R b else R i
/-- references that stand but in one cell -/
def Pk (x : Nat) (p p' : M2) : Prop := ∀ c, c ≠ x → p' c = p c
theorem Pk_rfl {x : Nat} {p : M2} : Pk x p p := fun _ _ => rfl
theorem Pk_trans {x : Nat} {p p' p'' : M2} (h : Pk x p p') (h' : Pk x p' p'') : Pk x p p'' := fun c hc => (h' c hc).trans (h c hc)
theorem SQ_pk {x q : Nat} {p p' : M2} {R : Nat → Nat} (h : SQ p q R) (k : Pk x p p') (hx : q ≠ x) : SQ p' q R := ⟨h.1, fun i hi => by rw [k q hx]; exact h.2.1 i hi, h.2.2⟩
theorem PL_pk {x t : Nat} {p p' : M2} (h : PL p t) (k : Pk x p p') (hx : t ≠ x) (hx' : t + 1 ≠ x) : PL p' t := by
  obtain ⟨h1, h2, h3, h4, h5, h6, h7⟩ := h
  exact ⟨h1, by rw [k t hx]; exact h2, by rw [k t hx]; exact h3, by rw [k t hx]; exact h4, h5, h6, SQ_pk h7 k hx'⟩
theorem EQ_pk {x e : Nat} {p p' : M2} {R : Nat → Nat} (h : EQ p e R) (k : Pk x p p') (hx : e ≠ x) (hx' : e + 1 ≠ x) : EQ p' e R := by
  obtain ⟨h1, h2, h3, h4⟩ := h
  exact ⟨h1, by rw [k e hx]; exact h2, ⟨h3.1, fun i hi => by rw [k (e + 1) hx']; exact h3.2.1 i hi, h3.2.2⟩, h4⟩
theorem EQ_sw {e a b : Nat} {p p1 p2 : M2} {R : Nat → Nat} (h : EQ p e R) (ha : a < 8) (hb : b < 8) (h1 : w2 p (e + 1) a (some (R b)) = p1) (h2 : w2 p1 (e + 1) b (some (R a)) = p2) : EQ p2 e (swR R a b) ∧ Pk (e + 1) p p2 := by
  obtain ⟨q1, q2, ⟨q3, q4, q5⟩, q6, q7⟩ := h
  have hk : Pk (e + 1) p p2 := fun c hc => by rw [← h2, ← h1, w2_a hc, w2_a hc]
  have hs : ∀ i, i < 8 → ∃ j, j < 8 ∧ swR R a b i = R j ∧ ((i = b ∧ j = a) ∨ (i ≠ b ∧ i = a ∧ j = b) ∨ (i ≠ b ∧ i ≠ a ∧ j = i)) := fun i hi => by
    unfold swR
    by_cases c1 : i = b
    · exact ⟨a, ha, by rw [if_pos c1], Or.inl ⟨c1, rfl⟩⟩
    · by_cases c2 : i = a
      · exact ⟨b, hb, by rw [if_neg c1, if_pos c2], Or.inr (Or.inl ⟨c1, c2, rfl⟩)⟩
      · exact ⟨i, hi, by rw [if_neg c1, if_neg c2], Or.inr (Or.inr ⟨c1, c2, rfl⟩)⟩
  refine ⟨⟨q1, ?_, ⟨q3, fun i hi => ?_, fun i hi => ?_⟩, fun i hi => ?_, fun i j hi hj he => ?_⟩, hk⟩
  · rw [hk e (by omega)]
    exact q2
  · rw [← h2, ← h1]
    unfold swR
    by_cases c1 : i = b
    · rw [c1, w2_at, if_pos rfl]
    · rw [w2_ne (fun z => c1 z.2), if_neg c1]
      by_cases c2 : i = a
      · rw [c2, w2_at, if_pos rfl]
      · rw [w2_ne (fun z => c2 z.2), if_neg c2]
        exact q4 i hi
  · obtain ⟨j, hj, e1, _⟩ := hs i hi
    rw [e1]
    exact q5 j hj
  · obtain ⟨j, hj, e1, _⟩ := hs i hi
    rw [e1]
    exact q6 j hj
  · obtain ⟨i', hi', e1, c1⟩ := hs i hi
    obtain ⟨j', hj', e2, c2⟩ := hs j hj
    rw [e1, e2] at he
    have := q7 i' j' hi' hj' he
    subst this
    omega
theorem ta_step {X : Nat → Prop} {m m1 m2 : M1} {n i : Nat} {R : Nat → Nat} {ta : Nat → Nat → F} (hF : Fr X m m1) (h1 : ∀ k, k < i → ∀ j, j ≤ n → m1 (R k) j = ta k j) (h2 : ∀ k, i ≤ k → k < 8 → m1 (R k) = m (R k)) (hF2 : Fr (fun a => a = R i) m1 m2) (h3 : ∀ j, j ≤ n → m2 (R i) j = ta i j) (inj : ∀ a b, a < 8 → b < 8 → R a = R b → a = b) (hi : i < 8) (hX : ∀ k, k < 8 → X (R k)) : Fr X m m2 ∧ (∀ k, k < i + 1 → ∀ j, j ≤ n → m2 (R k) j = ta k j) ∧ (∀ k, i + 1 ≤ k → k < 8 → m2 (R k) = m (R k)) := by
  refine ⟨fun a ha => (hF2 a (fun e => ha (by rw [e]; exact hX i hi))).trans (hF a ha), fun k hk j hj => ?_, fun k hk hk8 => ?_⟩
  · by_cases e : k = i
    · rw [e]
      exact h3 j hj
    · rw [hF2 (R k) (fun z => e (inj k i (by omega) hi z))]
      exact h1 k (by omega) j hj
  · rw [hF2 (R k) (fun z => by have := inj k i hk8 hi z; omega)]
    exact h2 k (by omega) hk8
