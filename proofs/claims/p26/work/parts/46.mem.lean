/-! SHAPES and fills. -/
/-- a square of n rows: the cell of its rows, where each row lies -/
def SQ (p : M2) (q : Nat) (R : Nat → Nat) : Prop := SH q = (3, 8) ∧ (∀ i, i < 8 → p q i = some (R i)) ∧ (∀ i, i < 8 → SH (R i) = (1, 8))
/-- a plant -/
def PL (p : M2) (t : Nat) : Prop := SH t = (13, 0) ∧ p t 1 = some (t + 1) ∧ p t 2 = some (t + 10) ∧ p t 3 = some (t + 11) ∧ SH (t + 10) = (1, 8) ∧ SH (t + 11) = (1, 8) ∧ SQ p (t + 1) (fun i => t + 2 + i)
theorem fr_w {X : Nat → Prop} {m m1 m2 : M1} {b i : Nat} {x : F} (hm : w1 m1 b i x = m2) (h : Fr X m m1) (hb : X b) : Fr X m m2 := by
  rw [← hm]
  exact Fr_w1 h hb
theorem fill_w {m1 m2 : M1} {b i : Nat} {x : F} {f g : Nat → F} (hm : w1 m1 b i x = m2) (h : ∀ j, m1 b j = if j < i then f j else g j) (hx : x = f i) : ∀ j, m2 b j = if j < i + 1 then f j else g j := by
  intro j
  rw [← hm]
  by_cases e : j = i
  · subst e
    rw [w1_at, if_pos (by omega), hx]
  · rw [w1_ne (fun z => e z.2), h j]
    by_cases q : j < i
    · rw [if_pos q, if_pos (by omega)]
    · rw [if_neg q, if_neg (by omega)]
/-- a value among those that a loop downward fills -/
theorem filld_w {m1 m2 : M1} {b k : Nat} {x : F} {P P' : Nat → Prop} [DecidablePred P] [DecidablePred P'] {f g : Nat → F} (hm : w1 m1 b k x = m2) (h : ∀ j, m1 b j = if P j then f j else g j) (hx : x = f k) (hP : ∀ j, P' j ↔ (P j ∨ j = k)) : ∀ j, m2 b j = if P' j then f j else g j := by
  intro j
  rw [← hm]
  by_cases e : j = k
  · subst e
    rw [w1_at, if_pos ((hP _).mpr (Or.inr rfl)), hx]
  · rw [w1_ne (fun z => e z.2), h j]
    by_cases q : P j
    · rw [if_pos q, if_pos ((hP _).mpr (Or.inl q))]
    · rw [if_neg q, if_neg (fun z => ((hP _).mp z).elim q e)]
theorem dot_congr {n : Nat} {f g f' g' : Nat → F} (h : ∀ i, i < n → f i = f' i) (h' : ∀ i, i < n → g i = g' i) : dot n f g = dot n f' g' := sm_congr (fun i hi => by rw [h i hi, h' i hi])
/-- rows that are filled one after another -/
theorem rows_w {X : Nat → Prop} {m m1 m2 : M1} {n i : Nat} {T : Nat → Nat} {PP : Nat → (Nat → F) → Prop} (hF : Fr (fun a => a = T i) m1 m2) (hi : i < n) (inj : ∀ a b, a < n → b < n → T a = T b → a = b) (h : ∀ k, k < i → PP k (m1 (T k))) (h0 : Fr X m m1) (hn : PP i (m2 (T i))) (hX : ∀ k, k < n → X (T k)) : Fr X m m2 ∧ ∀ k, k < i + 1 → PP k (m2 (T k)) := by
  refine ⟨fun a ha => (hF a (fun e => ha (by rw [e]; exact hX i hi))).trans (h0 a ha), fun k hk => ?_⟩
  by_cases e : k = i
  · rw [e]
    exact hn
  · rw [hF (T k) (fun z => e (inj k i (by omega) hi z))]
    exact h k (by omega)
