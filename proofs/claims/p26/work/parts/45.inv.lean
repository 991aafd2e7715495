/-! THE INVERSE by Fermat: fourteen squares. -/
def tb (i : Nat) : Int := if (10005 / 2 ^ i) % 2 = 1 then 1 else 0
def Pw (b : F) : Nat → F
  | 0 => b
  | i + 1 => Pw b i * Pw b i
def Rs (a b : F) : Nat → F
  | 0 => a
  | i + 1 => if tb i = 1 then Rs a b i * Pw b i else Rs a b i
def iv (b : F) : F := Rs 1 b 14
theorem Rs_mul (a b : F) (i : Nat) : Rs a b i = a * Rs 1 b i := by
  induction i with
  | zero => show a = a * 1; grind
  | succ i ih =>
    show (if tb i = 1 then Rs a b i * Pw b i else Rs a b i) = a * (if tb i = 1 then Rs 1 b i * Pw b i else Rs 1 b i)
    split
    · rw [ih]; grind
    · exact ih
def PwN (b : Nat) : Nat → Nat
  | 0 => b
  | i + 1 => PwN b i * PwN b i % 10007
def goN (b r : Nat) : List Bool → Nat
  | [] => r
  | q :: l => goN (b * b % 10007) (if q then r * b % 10007 else r) l
def bitsN : List Bool := [true, false, true, false, true, false, false, false, true, true, true, false, false, true]
def allN (f : Nat → Bool) : Nat → Bool
  | 0 => true
  | n + 1 => f n && allN f n
theorem allN_at {f : Nat → Bool} {n : Nat} (h : allN f n = true) : ∀ i, i < n → f i = true := by
  induction n with
  | zero => intro i hi; omega
  | succ n ih =>
    intro i hi
    have h' : (f n && allN f n) = true := h
    rw [Bool.and_eq_true] at h'
    rcases Nat.lt_succ_iff_lt_or_eq.mp hi with q | q
    · exact ih h'.2 i q
    · rw [q]; exact h'.1
theorem inv_all : allN (fun i => allN (fun j => let b := 101 * i + j; b == 0 || b * goN b 1 bitsN % 10007 == 1 || decide (10007 ≤ b)) 101) 100 = true := by decide +kernel
def goF (b r : F) : List Bool → F
  | [] => r
  | q :: l => goF (b * b) (if q then r * b else r) l
theorem goF_val (l : List Bool) : ∀ b r : F, (goF b r l).val = goN b.val r.val l := by
  induction l with
  | nil => intro b r; rfl
  | cons q l ih =>
    intro b r
    show (goF (b * b) (if q then r * b else r) l).val = goN (b.val * b.val % 10007) (if q then r.val * b.val % 10007 else r.val) l
    rw [ih, Fin.val_mul]
    cases q
    · rfl
    · show goN _ (r * b).val l = _
      rw [Fin.val_mul]
      rfl
theorem Rs_goF (b : F) (n : Nat) : ∀ i r, goF (Pw b i) r ((List.range' i n).map fun k => decide (tb k = 1)) = (List.range' i n).foldl (fun r k => if tb k = 1 then r * Pw b k else r) r := by
  induction n with
  | zero => intro i r; rfl
  | succ n ih =>
    intro i r
    rw [List.range'_succ, List.map_cons, List.foldl_cons]
    show goF (Pw b (i + 1)) _ _ = _
    rw [← ih (i + 1)]
    by_cases q : tb i = 1
    · simp [q]
    · simp [q]
theorem iv_goF (b : F) : iv b = goF b 1 bitsN := by
  have h := Rs_goF b 14 0 1
  have e : (List.range' 0 14).map (fun k => decide (tb k = 1)) = bitsN := by decide
  rw [e] at h
  exact h.symm ▸ rfl
theorem iv_r {b : F} (hb : b ≠ 0) : b * iv b = 1 := by
  have h := allN_at inv_all (b.val / 101) (by have := b.isLt; omega)
  have h2 := allN_at h (b.val % 101) (by omega)
  have e : 101 * (b.val / 101) + b.val % 101 = b.val := by omega
  simp only [e] at h2
  have hv : b.val ≠ 0 := fun z => hb (Fin.eq_of_val_eq z)
  have hlt : ¬ 10007 ≤ b.val := by have := b.isLt; omega
  have h3 : b.val * goN b.val 1 bitsN % 10007 = 1 := by
    simpa [hv, hlt] using h2
  apply Fin.eq_of_val_eq
  rw [Fin.val_mul, iv_goF, goF_val]
  exact h3
theorem iv_l {b : F} (hb : b ≠ 0) : iv b * b = 1 := by rw [show iv b * b = b * iv b by grind]; exact iv_r hb
theorem F_mul0 {a b : F} (h : a * b = 0) : a = 0 ∨ b = 0 := by
  by_cases q : b = 0
  · exact Or.inr q
  · left
    have h1 : a = a * b * iv b := by
      have := iv_r q
      grind
    rw [h1, h]
    grind
theorem tb_bit : ∀ i : Fin 14, ((iI 10005 >>> (iI ((i : Nat) : Int) &&& 31)) &&& iI 1) = iI (tb i) := by decide
theorem tb_at {i : Nat} (h : i < 14) : ((iI 10005 >>> (iI (i : Int) &&& 31)) &&& iI 1) = iI (tb i) := tb_bit ⟨i, h⟩
theorem tb_01 (i : Nat) : tb i = 0 ∨ tb i = 1 := by unfold tb; split <;> omega
def hf (i : Nat) : Nat := 10005 / 2 ^ i
theorem hf_0 : hf 0 = 10005 := rfl
theorem hf_s (i : Nat) : hf (i + 1) = hf i / 2 := by unfold hf; rw [Nat.div_div_eq_div_mul, Nat.pow_succ]
theorem hf_14 : hf 14 = 0 := by decide
theorem hf_pos' : ∀ i : Fin 14, 0 < hf i := by decide
theorem hf_pos {i : Nat} (h : i ≤ 14) : (i = 14 ∧ hf i = 0) ∨ (i < 14 ∧ 0 < hf i) := by
  by_cases q : i = 14
  · exact Or.inl ⟨q, by rw [q]; exact hf_14⟩
  · exact Or.inr ⟨by omega, hf_pos' ⟨i, by omega⟩⟩
theorem hf_le (i : Nat) : hf i ≤ 10005 := Nat.div_le_self _ _
theorem tb_hf (i : Nat) : (tb i = 1 ∧ hf i % 2 = 1) ∨ (tb i = 0 ∧ hf i % 2 = 0) := by
  unfold tb hf
  split <;> omega
theorem Rs_1 {a b : F} {i : Nat} (h : tb i = 1) : Rs a b i * Pw b i = Rs a b (i + 1) := (if_pos h).symm
theorem Rs_0 {a b : F} {i : Nat} (h : ¬ tb i = 1) : Rs a b i = Rs a b (i + 1) := (if_neg h).symm
