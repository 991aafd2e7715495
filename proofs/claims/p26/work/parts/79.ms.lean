/-- the step back in the model's words -/
def ms (n : Nat) (A : Nat → Nat → F) (b c : Nat → F) (q r : F) (P : Nat → Nat → F) (i j : Nat) : F := dot n (fun l => A l i) (fun l => rpa n P A l j) + rq q c i j - rap n P A b i * rap n P A b j * iv (rm n P b r)
def mc (n : Nat) (A : Nat → Nat → F) (b c : Nat → F) (q r : F) : Nat → Nat → Nat → F
  | 0 => rq q c
  | s + 1 => ms n A b c q r (mc n A b c q r s)
theorem rpa_congr {n : Nat} {P P' A : Nat → Nat → F} (h : ∀ i, i < n → ∀ j, j < n → P i j = P' i j) (i j : Nat) (hi : i < n) : rpa n P A i j = rpa n P' A i j := dot_congr (fun c hc => h i hi c hc) (fun _ _ => rfl)
theorem rap_congr {n : Nat} {P P' A : Nat → Nat → F} {b : Nat → F} (h : ∀ i, i < n → ∀ j, j < n → P i j = P' i j) (j : Nat) : rap n P A b j = rap n P' A b j := dot_congr (fun i hi => dot_congr (fun c hc => h i hi c hc) (fun _ _ => rfl)) (fun _ _ => rfl)
theorem rm_congr {n : Nat} {P P' : Nat → Nat → F} {b : Nat → F} {r : F} (h : ∀ i, i < n → ∀ j, j < n → P i j = P' i j) : rm n P b r = rm n P' b r := congrArg (fun z => r + z) (dot_congr (fun _ _ => rfl) (fun i hi => dot_congr (fun c hc => h i hi c hc) (fun _ _ => rfl)))
theorem ms_congr {n : Nat} {P P' A : Nat → Nat → F} {b c : Nat → F} {q r : F} (h : ∀ i, i < n → ∀ j, j < n → P i j = P' i j) (i j : Nat) : ms n A b c q r P i j = ms n A b c q r P' i j := by
  unfold ms
  rw [rap_congr h i, rap_congr h j, rm_congr h, dot_congr (fun _ _ => rfl) (fun l hl => rpa_congr h l j hl)]
theorem dot_comm (n : Nat) (f g : Nat → F) : dot n f g = dot n g f := sm_congr (fun i _ => by grind)
theorem flM_s {n u : Nat} {A : Nat → Nat → F} {i j : Nat} : flM n A (u + 1) i j = flG n A (flM n A u) i j + if i = j then flt n A (flM n A u) u else 0 := rfl
