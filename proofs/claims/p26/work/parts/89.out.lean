/-! OUTPUTS by states and by the numbers h. -/
section
variable {n : Nat} {A : Nat → Nat → F} {b c u : Nat → F} {d : F}
theorem xs_kr (l : Nat) : ∀ r, r < n → xs n A b u l r = sm l (fun i => u i * kr n A b (l - 1 - i) r) := by
  induction l with
  | zero => exact fun r _ => rfl
  | succ l ih =>
    intro r hr
    show dot n (A r) (xs n A b u l) + b r * u l = sm l (fun i => u i * kr n A b (l + 1 - 1 - i) r) + u l * kr n A b (l + 1 - 1 - l) r
    have e1 : dot n (A r) (xs n A b u l) = dot n (A r) (fun z => sm l (fun i => u i * kr n A b (l - 1 - i) z)) := dot_congr (fun _ _ => rfl) (fun z hz => ih z hz)
    rw [e1, dot_smr (g := fun i z => u i * kr n A b (l - 1 - i) z), show l + 1 - 1 - l = 0 by omega]
    have e2 : sm l (fun t => dot n (A r) (fun z => u t * kr n A b (l - 1 - t) z)) = sm l (fun i => u i * kr n A b (l + 1 - 1 - i) r) := sm_congr (fun i hi => by
      rw [dot_scaler, show l + 1 - 1 - i = (l - 1 - i) + 1 by omega]
      rfl)
    rw [e2]
    show _ + b r * u l = _ + u l * b r
    grind
theorem out_eq (l : Nat) : sm (l + 1) (fun i => hs n A b c d (l - i) * u i) = dot n c (xs n A b u l) + d * u l := by
  have e1 : dot n c (xs n A b u l) = dot n c (fun z => sm l (fun i => u i * kr n A b (l - 1 - i) z)) := dot_congr (fun _ _ => rfl) (fun z hz => xs_kr l z hz)
  rw [e1, dot_smr (g := fun i z => u i * kr n A b (l - 1 - i) z), sm_s, Nat.sub_self]
  have e2 : sm l (fun t => dot n c (fun z => u t * kr n A b (l - 1 - t) z)) = sm l (fun i => hs n A b c d (l - i) * u i) := sm_congr (fun i hi => by
    unfold hs
    rw [dot_scaler, if_neg (by omega), show l - i - 1 = l - 1 - i by omega]
    grind)
  rw [e2]
  show _ + (if 0 = 0 then d else _) * u l = _
  rw [if_pos rfl]
end
