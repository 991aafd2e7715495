/-! WHAT the law's own methods reckon. -/
/-- a square in a row of 64 -/
def Mv (n : N2) (w N : Nat) (G : Nat → Nat → F) : Prop := ∀ r, r < N → ∀ c, c < N → n w (8 * r + c) = vF (G r c)
theorem Mv_cg {n : N2} {w N : Nat} {G G' : Nat → Nat → F} (h : Mv n w N G) (hG : ∀ r, r < N → ∀ c, c < N → G r c = G' r c) : Mv n w N G' := fun r hr c hc => (h r hr c hc).trans (congrArg vF (hG r hr c hc))
theorem Mv_k {n n' : N2} {w N : Nat} {G : Nat → Nat → F} (h : Mv n w N G) (k : n' w = n w) : Mv n' w N G := fun r hr c hc => (congrFun k _).trans (h r hr c hc)
theorem Mv_st {n e : N2} {w N i k : Nat} {x : F} {G : Nat → Nat → F} (h : wI n w (8 * i + k) (vF x) = e) (hv : Mv n w N G) (hN : N ≤ 8) (hk : k < 8) : Mv e w N (fun r c => if r = i ∧ c = k then x else G r c) := by
  intro r hr c hc
  show e w (8 * r + c) = vF (if r = i ∧ c = k then x else G r c)
  rw [← h]
  by_cases q : r = i ∧ c = k
  · rw [if_pos q, q.1, q.2, wI_at]
  · rw [if_neg q, wI_ne (fun z => q ⟨by omega, by omega⟩)]
    exact hv r hr c hc
/-- the law's elimination -/
def dsw (A : Nat → Nat → F) (r k : Nat) : Nat → Nat → F := fun i c => if i = r ∧ r < k then 0 - A k c else if i = k ∧ r < k then A r c else A i c
def dlo (B : Nat → Nat → F) (r j : Nat) : Nat → Nat → F := fun i c => if r < i then B i c - B i j * iv (B r j) * B r c else B i c
def dl (n : Nat) (g : (Nat → Nat → F) × Nat × F) (j : Nat) : (Nat → Nat → F) × Nat × F :=
  if ff (fun i => g.1 i j) n g.2.1 < n then (dlo (dsw g.1 g.2.1 (ff (fun i => g.1 i j) n g.2.1)) g.2.1 j, g.2.1 + 1, g.2.2 * dsw g.1 g.2.1 (ff (fun i => g.1 i j) n g.2.1) g.2.1 j) else (g.1, g.2.1, 0)
def dls (n : Nat) (W : Nat → Nat → F) : Nat → (Nat → Nat → F) × Nat × F
  | 0 => (W, 0, 1)
  | j + 1 => dl n (dls n W j) j
theorem dls_le {n : Nat} {W : Nat → Nat → F} (j : Nat) : (dls n W j).2.1 ≤ j := by
  induction j with
  | zero => exact Nat.le_refl 0
  | succ j ih =>
    show (dl n (dls n W j) j).2.1 ≤ j + 1
    unfold dl
    split
    · show (dls n W j).2.1 + 1 ≤ j + 1
      omega
    · exact Nat.le_succ_of_le ih
theorem dls_some {n j r k : Nat} {W A : Nat → Nat → F} {al : F} (h : dls n W j = (A, r, al)) (hr : r ≤ n) (hk : IsF (fun i => A i j) n r k) (hn : k < n) : dls n W (j + 1) = (dlo (dsw A r k) r j, r + 1, al * dsw A r k r j) := by
  show dl n (dls n W j) j = _
  rw [h]
  have e : ff (fun i => A i j) n r = k := IsF_uniq (ff_is hr) hk (fun _ _ _ => rfl)
  unfold dl
  show (if ff (fun i => A i j) n r < n then _ else _) = _
  rw [if_pos (by rw [e]; exact hn), e]
theorem dls_none {n j r k : Nat} {W A : Nat → Nat → F} {al : F} (h : dls n W j = (A, r, al)) (hr : r ≤ n) (hk : IsF (fun i => A i j) n r k) (hn : ¬ k < n) : dls n W (j + 1) = (A, r, 0) := by
  show dl n (dls n W j) j = _
  rw [h]
  have e : ff (fun i => A i j) n r = k := IsF_uniq (ff_is hr) hk (fun _ _ _ => rfl)
  unfold dl
  show (if ff (fun i => A i j) n r < n then _ else _) = _
  rw [if_neg (by rw [e]; exact hn)]
/-- what 'determinant' answers, what 'rank' -/
def dtv (n : Nat) (W : Nat → Nat → F) : Int := if (dls n W n).2.1 = n then vF (dls n W n).2.2 else (((dls n W n).2.1 : Nat) : Int) - 1000000
def drk (n : Nat) (W : Nat → Nat → F) : Nat := (dls n W n).2.1
theorem drk_le {n : Nat} {W : Nat → Nat → F} : drk n W ≤ n := dls_le n
theorem dtv_rg {n : Nat} {W : Nat → Nat → F} (hn : n ≤ 8) : (drk n W = n ∧ 0 ≤ dtv n W ∧ dtv n W ≤ 10006) ∨ (drk n W < n ∧ dtv n W = ((drk n W : Nat) : Int) - 1000000) := by
  unfold dtv
  have h1 : (dls n W n).2.1 ≤ n := dls_le n
  by_cases q : (dls n W n).2.1 = n
  · rw [if_pos q]
    have := vF_ge (dls n W n).2.2
    have := vF_lt (dls n W n).2.2
    exact Or.inl ⟨q, by omega, by omega⟩
  · rw [if_neg q]
    exact Or.inr ⟨Nat.lt_of_le_of_ne h1 q, rfl⟩
/-- the value of a polynomial, from the top -/
def hor (n : Nat) (C : Nat → F) (x : F) : Nat → F
  | 0 => 0
  | t + 1 => hor n C x t * x + C (n - t)
/-- the square whose determinant 'at' wants -/
def atM (A : Nat → Nat → F) (b c : Nat → F) (x mo : F) (i j : Nat) : F := (if i = j then x else 0) - A i j + mo * b i * c j
theorem Mv_row {n : N2} {w N i : Nat} {G : Nat → Nat → F} (h : ∀ z, z < i → ∀ c, c < N → n w (8 * z + c) = vF (G z c)) (hi : i = N) : Mv n w N G := fun r hr c hc => h r (by omega) c hc
