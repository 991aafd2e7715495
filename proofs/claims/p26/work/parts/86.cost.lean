/-! THE COST: back from the end, and by going. -/
def qfm (n : Nat) (P : Nat → Nat → F) (x : Nat → F) : F := dot n x (fun i => dot n (P i) x)
def Sym (n : Nat) (P : Nat → Nat → F) : Prop := ∀ i, i < n → ∀ j, j < n → P i j = P j i
theorem dot_add {n : Nat} {f g x : Nat → F} : dot n (fun c => f c + g c) x = dot n f x + dot n g x := by
  unfold dot
  rw [← sm_add]
  exact sm_congr (fun i _ => by grind)
theorem dot_addr {n : Nat} {f g x : Nat → F} : dot n x (fun c => f c + g c) = dot n x f + dot n x g := by
  rw [dot_comm, dot_add, dot_comm n f, dot_comm n g]
theorem cost_id {q cx py w v m r : F} (h : m * v = 1) : q * (cx * cx) + py - w * (v * w) = q * (cx * cx) + r * ((0 - v * w) * (0 - v * w)) + (py + 2 * ((0 - v * w) * w) + (0 - v * w) * (0 - v * w) * (m - r)) := by
  have h1 : (0 - v * w) * (0 - v * w) * (m - r) = (m * v) * (v * w * w) - r * ((0 - v * w) * (0 - v * w)) := by grind
  rw [h1, h]
  clear h h1
  grind
section
variable {n : Nat} {P A : Nat → Nat → F} {b c x : Nat → F} {q r : F}
theorem rb_sym (h : Sym n P) {j : Nat} (hj : j < n) : dot n b (fun l => P l j) = rb n P b j := by
  rw [dot_comm]
  exact dot_congr (fun i hi => h i hi j hj) (fun _ _ => rfl)
theorem rpa_b (h : Sym n P) (j : Nat) : dot n b (fun l => rpa n P A l j) = rap n P A b j := by
  show dot n b (fun l => dot n (P l) (fun i => A i j)) = _
  rw [dot_adj]
  exact dot_congr (fun i hi => rb_sym h hi) (fun _ _ => rfl)
theorem rK_sym (h : Sym n P) (j : Nat) : rK n P A b r j = iv (rm n P b r) * rap n P A b j := by
  unfold rK
  rw [rpa_b h]
theorem apa_sym (h : Sym n P) (i j : Nat) : dot n (fun l => A l i) (fun l => rpa n P A l j) = dot n (fun l => A l j) (fun l => rpa n P A l i) := by
  have e : ∀ i j, dot n (fun l => A l i) (fun l => rpa n P A l j) = dot n (fun c => dot n (fun l => A l i) (fun l => P l c)) (fun l => A l j) := fun i j => by
    show dot n (fun l => A l i) (fun l => dot n (P l) (fun i => A i j)) = _
    rw [dot_adj]
  rw [e i j, dot_comm]
  refine dot_congr (fun _ _ => rfl) (fun l hl => ?_)
  show dot n (fun l => A l i) (fun c => P c l) = dot n (P l) (fun z => A z i)
  rw [dot_comm]
  exact dot_congr (fun c hc => h c hc l hl) (fun _ _ => rfl)
theorem rs_sym (h : Sym n P) : Sym n (rs n A b c q r P) := fun i hi j hj => by
  unfold rs rq
  rw [rK_sym h, rK_sym h, apa_sym h i j]
  grind
theorem rs_ms (h : Sym n P) (i j : Nat) : ms n A b c q r P i j = rs n A b c q r P i j := by
  unfold ms rs
  rw [rK_sym h]
  grind
theorem qf_rs (h : Sym n P) (hm : rm n P b r ≠ 0) : qfm n (rs n A b c q r P) x = hc n c q x + r * ((0 - dot n (rK n P A b r) x) * (0 - dot n (rK n P A b r) x)) + qfm n P (fun i => dot n (A i) x + b i * (0 - dot n (rK n P A b r) x)) := by
  generalize hy : (fun i => dot n (A i) x) = y
  have hy' : ∀ i, dot n (A i) x = y i := fun i => congrFun hy i
  have hw : dot n (rap n P A b) x = dot n y (rb n P b) := by
    rw [dot_comm n y, ← hy]
    show dot n (fun j => dot n (rb n P b) (fun l => A l j)) x = _
    rw [← dot_adj]
  have hK : dot n (rK n P A b r) x = iv (rm n P b r) * dot n y (rb n P b) := by
    rw [← hw, ← dot_scale]
    exact dot_congr (fun j _ => rK_sym h j) (fun _ _ => rfl)
  have hiv := iv_r hm
  -- the left side
  have e1 : ∀ i, dot n (rs n A b c q r P i) x = q * (c i * dot n c x) + dot n (fun l => A l i) (fun l => dot n (P l) y) - rap n P A b i * dot n (rK n P A b r) x := fun i => by
    have e2 : dot n (rs n A b c q r P i) x = dot n (fun j => (q * c i * c j + dot n (fun l => A l i) (fun l => rpa n P A l j)) - rap n P A b i * rK n P A b r j) x := dot_congr (fun j _ => by unfold rs rq; grind) (fun _ _ => rfl)
    rw [e2, dot_less (g := rK n P A b r), dot_add, dot_scale]
    have e3 : dot n (fun j => dot n (fun l => A l i) (fun l => rpa n P A l j)) x = dot n (fun l => A l i) (fun l => dot n (P l) y) := by
      rw [← dot_adj (A := fun l j => rpa n P A l j)]
      refine dot_congr (fun _ _ => rfl) (fun l _ => ?_)
      show dot n (fun j => dot n (P l) (fun i => A i j)) x = dot n (P l) y
      rw [← dot_adj, ← hy]
    rw [e3]
    grind
  have e4 : qfm n (rs n A b c q r P) x = q * (dot n c x * dot n c x) + qfm n P y - dot n y (rb n P b) * dot n (rK n P A b r) x := by
    unfold qfm
    have e5 : dot n x (fun i => dot n (rs n A b c q r P i) x) = dot n (fun i => (q * dot n c x * c i + dot n (fun l => A l i) (fun l => dot n (P l) y)) - dot n (rK n P A b r) x * rap n P A b i) x := by
      rw [dot_comm]
      exact dot_congr (fun i _ => by rw [e1 i]; grind) (fun _ _ => rfl)
    rw [e5, dot_less (g := rap n P A b), dot_add, dot_scale, hw]
    have e6 : dot n (fun i => dot n (fun l => A l i) (fun l => dot n (P l) y)) x = dot n y (fun i => dot n (P i) y) := by
      have e7 : dot n (fun i => dot n (fun l => A l i) (fun l => dot n (P l) y)) x = dot n (fun i => dot n (fun l => dot n (P l) y) (fun l => A l i)) x := dot_congr (fun i _ => dot_comm _ _ _) (fun _ _ => rfl)
      rw [e7, ← dot_adj, dot_comm, ← hy]
    rw [e6]
    grind
  -- the right side
  have e8 : ∀ u : F, qfm n P (fun i => dot n (A i) x + b i * u) = qfm n P y + 2 * (u * dot n y (rb n P b)) + u * u * dot n b (rb n P b) := fun u => by
    unfold qfm
    have e9 : ∀ i, dot n (P i) (fun i => dot n (A i) x + b i * u) = dot n (P i) y + u * rb n P b i := fun i => by
      have e10 : dot n (P i) (fun i => dot n (A i) x + b i * u) = dot n (P i) (fun i => y i + u * b i) := dot_congr (fun _ _ => rfl) (fun l _ => by rw [hy' l]; grind)
      rw [e10, dot_addr, dot_scaler]
      rfl
    have e11 : dot n (fun i => dot n (A i) x + b i * u) (fun i => dot n (P i) (fun i => dot n (A i) x + b i * u)) = dot n (fun i => y i + u * b i) (fun i => dot n (P i) y + u * rb n P b i) := dot_congr (fun i _ => by rw [hy' i]; grind) (fun i _ => e9 i)
    rw [e11, dot_add, dot_addr, dot_addr, dot_scaler, dot_scale, dot_scale, dot_scaler]
    have e12 : dot n b (fun i => dot n (P i) y) = dot n y (rb n P b) := by
      rw [dot_adj, dot_comm]
      exact dot_congr (fun _ _ => rfl) (fun j hj => rb_sym h hj)
    rw [e12]
    grind
  rw [e4, e8, hK]
  unfold hc
  have e13 : dot n b (rb n P b) = rm n P b r - r := by unfold rm; grind
  rw [e13]
  exact cost_id hiv
theorem rc_sym (s : Nat) : Sym n (rc n A b c q r s) := by
  induction s with
  | zero => exact fun i _ j _ => by show q * (c i * c j) = q * (c j * c i); grind
  | succ s ih => exact rs_sym ih
theorem mc_rc (s : Nat) : ∀ i, i < n → ∀ j, j < n → mc n A b c q r s i j = rc n A b c q r s i j := by
  induction s with
  | zero => exact fun _ _ _ _ => rfl
  | succ s ih =>
    intro i hi j hj
    show ms n A b c q r (mc n A b c q r s) i j = rs n A b c q r (rc n A b c q r s) i j
    rw [ms_congr ih i j, rs_ms (rc_sym s)]
/-- what the going costs -/
theorem gc_rc {l : Nat} (hm : ∀ z, z < l → rm n (rc n A b c q r z) b r ≠ 0) (t : Nat) : t ≤ l → gc n A b c q r (fun z => rK n (rc n A b c q r z) A b r) l t + qfm n (rc n A b c q r (l - t)) (gx n A b (fun z => rK n (rc n A b c q r z) A b r) l t) = qfm n (rc n A b c q r l) (fun _ => 1) := by
  induction t with
  | zero =>
    intro _
    show 0 + qfm n (rc n A b c q r (l - 0)) (fun _ => 1) = _
    rw [Nat.sub_zero]
    grind
  | succ t ih =>
    intro ht
    have h1 := ih (by omega)
    rw [show l - t = (l - 1 - t) + 1 by omega, rc_s, qf_rs (rc_sym _) (hm (l - 1 - t) (by omega))] at h1
    rw [show l - (t + 1) = l - 1 - t by omega]
    show gc n A b c q r _ l t + hc n c q (gx n A b (fun z => rK n (rc n A b c q r z) A b r) l t) + r * ((0 - dot n (rK n (rc n A b c q r (l - 1 - t)) A b r) (gx n A b (fun z => rK n (rc n A b c q r z) A b r) l t)) * (0 - dot n (rK n (rc n A b c q r (l - 1 - t)) A b r) (gx n A b (fun z => rK n (rc n A b c q r z) A b r) l t))) + qfm n (rc n A b c q r (l - 1 - t)) (fun i => dot n (A i) (gx n A b (fun z => rK n (rc n A b c q r z) A b r) l t) + b i * (0 - dot n (rK n (rc n A b c q r (l - 1 - t)) A b r) (gx n A b (fun z => rK n (rc n A b c q r z) A b r) l t))) = _
    grind
theorem qf_1 {P : Nat → Nat → F} : qfm n P (fun _ => 1) = sm n (fun i => sm n (fun j => P i j)) := by
  unfold qfm dot
  exact sm_congr (fun i _ => by
    have : sm n (fun j => P i j * 1) = sm n (fun j => P i j) := sm_congr (fun j _ => by grind)
    show 1 * sm n (fun j => P i j * 1) = _
    rw [this]
    grind)
theorem cost_eq {l : Nat} (hm : ∀ z, z < l → rm n (rc n A b c q r z) b r ≠ 0) : gc n A b c q r (fun z => rK n (rc n A b c q r z) A b r) l l + hc n c q (gx n A b (fun z => rK n (rc n A b c q r z) A b r) l l) = sm n (fun i => sm n (fun j => rc n A b c q r l i j)) := by
  have h1 := gc_rc hm l (Nat.le_refl l)
  rw [Nat.sub_self, qf_1] at h1
  rw [← h1]
  refine congrArg (fun z => _ + z) ?_
  generalize gx n A b _ l l = x
  show q * (dot n c x * dot n c x) = dot n x (fun i => dot n (fun j => q * (c i * c j)) x)
  have e : dot n x (fun i => dot n (fun j => q * (c i * c j)) x) = dot n (fun i => (q * dot n c x) * c i) x := by
    rw [dot_comm]
    refine dot_congr (fun i _ => ?_) (fun _ _ => rfl)
    have e2 : dot n (fun j => q * (c i * c j)) x = dot n (fun j => (q * c i) * c j) x := dot_congr (fun j _ => by grind) (fun _ _ => rfl)
    rw [e2, dot_scale]
    grind
  rw [e, dot_scale]
  grind
end
