/-! FLAT MEMORY: when all cells are made, what they hold is two functions (cell, place): whole numbers, and references. -/
def iI (a : Int) : Int32 := Int32.ofInt a
abbrev F : Type := Fin 10007
def vF (x : F) : Int := (x.val : Int)
abbrev M1 : Type := Nat → Nat → F
abbrev M2 : Type := Nat → Nat → Option Nat
abbrev Mem : Type := M1 × M2
/-- of each class, which fields are references -/
def sf : Nat → List Bool := fun k => match k with
  | 0 => [true, true, true, true]
  | 1 => [true]
  | 2 => [true, true, true, true]
  | 3 => [false, true, true, true, false]
  | 4 => [true, true, true, true, true, true, true]
  | 5 => [true, true, true, true, true, true, true]
  | 6 => [true, false, false]
  | 7 => [true, false, true, true, true, true, true, true, true, true, true]
  | 8 => [false, true, true, true, true, true, false, true, false, true, true, true, true, true, true, true, true, true, true, true, true, false]
  | _ => []
abbrev i_PB : Nat := 117
/-- the shape of each cell: 1 ints, 2 longs, 3 rows of ints, 4 plants (with their length), 10 + class -/
def shP : Nat → Nat × Nat := fun r => [(13, 0), (3, 8), (1, 8), (1, 8), (1, 8), (1, 8), (1, 8), (1, 8), (1, 8), (1, 8), (1, 8), (1, 8)].getD r (0, 0)
def shL : List (Nat × Nat) := [(0, 0), (17, 0), (4, 12), (16, 0), (1, 20), (16, 0), (1, 20), (13, 0), (3, 8), (1, 8), (1, 8), (1, 8), (1, 8), (1, 8), (1, 8), (1, 8), (1, 8), (1, 8), (1, 8), (12, 0), (11, 0), (3, 8), (1, 9), (1, 9), (1, 9), (1, 9), (1, 9), (1, 9), (1, 9), (1, 9), (1, 8), (1, 8), (1, 9), (1, 8), (1, 8), (14, 0), (1, 9), (1, 9), (3, 8), (1, 8), (1, 8), (1, 8), (1, 8), (1, 8), (1, 8), (1, 8), (1, 8), (3, 8), (1, 8), (1, 8), (1, 8), (1, 8), (1, 8), (1, 8), (1, 8), (1, 8), (1, 8), (1, 9), (1, 9), (10, 0), (1, 41), (1, 8), (1, 8), (11, 0), (3, 8), (1, 9), (1, 9), (1, 9), (1, 9), (1, 9), (1, 9), (1, 9), (1, 9), (15, 0), (3, 8), (1, 8), (1, 8), (1, 8), (1, 8), (1, 8), (1, 8), (1, 8), (1, 8), (3, 8), (1, 8), (1, 8), (1, 8), (1, 8), (1, 8), (1, 8), (1, 8), (1, 8), (3, 20), (1, 8), (1, 8), (1, 8), (1, 8), (1, 8), (1, 8), (1, 8), (1, 8), (1, 8), (1, 8), (1, 8), (1, 8), (1, 8), (1, 8), (1, 8), (1, 8), (1, 8), (1, 8), (1, 8), (1, 8), (1, 8), (1, 8), (1, 8), (1, 8)]
def SH (j : Nat) : Nat × Nat := if j < 117 then shL.getD j (0, 0) else if j < 261 then shP ((j - 117) % 12) else (0, 0)
theorem SH_pl {k r : Nat} (hk : k < 12) (hr : r < 12) : SH (i_PB + 12 * k + r) = shP r := by
  have h1 : ¬ i_PB + 12 * k + r < 117 := by show ¬ 117 + 12 * k + r < 117; omega
  have h2 : i_PB + 12 * k + r < 261 := by show 117 + 12 * k + r < 261; omega
  have h3 : (i_PB + 12 * k + r - 117) % 12 = r := by show (117 + 12 * k + r - 117) % 12 = r; omega
  unfold SH
  rw [if_neg h1, if_pos h2, h3]
abbrev i_1_plants : Nat := 2
abbrev i_1_poles : Nat := 3
abbrev i_1_inputs : Nat := 5
abbrev i_1_turned : Nat := 7
abbrev i_1_placing : Nat := 19
abbrev i_1_gains : Nat := 33
abbrev i_1_watch : Nat := 34
abbrev i_1_polynomials : Nat := 35
abbrev i_1_answers : Nat := 59
abbrev i_1_stepsBack : Nat := 73
abbrev i_3_values : Nat := 4
abbrev i_5_values : Nat := 6
abbrev i_7_square : Nat := 8
abbrev i_7_column : Nat := 17
abbrev i_7_row : Nat := 18
abbrev i_19_equations : Nat := 20
abbrev i_19_state : Nat := 30
abbrev i_19_next : Nat := 31
abbrev i_19_asked : Nat := 32
abbrev i_20_rows : Nat := 21
abbrev i_35_below : Nat := 36
abbrev i_35_above : Nat := 37
abbrev i_35_square : Nat := 38
abbrev i_35_grown : Nat := 47
abbrev i_35_column : Nat := 56
abbrev i_35_high : Nat := 57
abbrev i_35_low : Nat := 58
abbrev i_59_h : Nat := 60
abbrev i_59_state : Nat := 61
abbrev i_59_next : Nat := 62
abbrev i_59_equations : Nat := 63
abbrev i_63_rows : Nat := 64
abbrev i_73_p : Nat := 74
abbrev i_73_pa : Nat := 83
abbrev i_73_rowsK : Nat := 92
abbrev i_73_pb : Nat := 113
abbrev i_73_apb : Nat := 114
abbrev i_73_state : Nat := 115
abbrev i_73_next : Nat := 116

def flds (c j : Nat) (M : Mem) : List Value := (sf c).zipIdx.map (fun q => if q.1 then va_rf (M.2 j q.2) else .int (iI (vF (M.1 j q.2))))
def cellM (q : Nat × Nat) (M : Mem) (j : Nat) : Option MC :=
  if q.1 = 1 then some (mI q.2 (fun i => iI (vF (M.1 j i)))) else if q.1 = 2 then some (mJ q.2 (fun i => (iI (vF (M.1 j i))).toInt64)) else if q.1 = 3 then some (mQ 0 q.2 (M.2 j)) else if q.1 = 4 then some (mQ 1 q.2 (M.2 j)) else if 10 ≤ q.1 then some (mO (q.1 - 10) (flds (q.1 - 10) j M)) else none
/-- all other cells: how many there are, and what they hold -/
abbrev Env : Type := Nat × (Nat → Option MC)
def hpM (S : Env) (fz : Bool) (M : Mem) : MH := (S.1, fz, fun j => if 1 ≤ j ∧ j ≤ 260 then cellM (SH j) M j else S.2 j)
def w1 (m : M1) (a i : Nat) (x : F) : M1 := fun a' i' => if a' = a ∧ i' = i then x else m a' i'
def w2 (p : M2) (a i : Nat) (q : Option Nat) : M2 := fun a' i' => if a' = a ∧ i' = i then q else p a' i'
def u1 (M : Mem) (a i : Nat) (x : F) : Mem := (w1 M.1 a i x, M.2)
def u2 (M : Mem) (a i : Nat) (q : Option Nat) : Mem := (M.1, w2 M.2 a i q)
theorem u1_at {M : Mem} {a i : Nat} {x : F} : (u1 M a i x).1 a i = x := if_pos ⟨rfl, rfl⟩
theorem u1_ne {M : Mem} {a i a' i' : Nat} {x : F} (h : ¬ (a' = a ∧ i' = i)) : (u1 M a i x).1 a' i' = M.1 a' i' := if_neg h
theorem u2_at {M : Mem} {a i : Nat} {x : Option Nat} : (u2 M a i x).2 a i = x := if_pos ⟨rfl, rfl⟩
theorem u2_ne {M : Mem} {a i a' i' : Nat} {x : Option Nat} (h : ¬ (a' = a ∧ i' = i)) : (u2 M a i x).2 a' i' = M.2 a' i' := if_neg h
/-- what an int may be -/
def rg (a : Int) : Prop := -2147483648 ≤ a ∧ a < 2147483648
theorem iI_toInt {a : Int} (h : rg a) : (iI a).toInt = a := Int32.toInt_ofInt_of_le (by have := h.1; omega) (by have := h.2; omega)
theorem iI_of (x : Int32) : iI x.toInt = x := Int32.ofInt_toInt x
theorem rg_of (x : Int32) : rg x.toInt := ⟨by have := x.le_toInt; omega, by have := x.toInt_lt; omega⟩
theorem iI_add (a b : Int) : iI a + iI b = iI (a + b) := (Int32.ofInt_add a b).symm
theorem iI_sub (a b : Int) : iI a - iI b = iI (a - b) := (Int32.ofInt_sub a b).symm
theorem iI_mul (a b : Int) : iI a * iI b = iI (a * b) := (Int32.ofInt_mul a b).symm
theorem iI_neg (a : Int) : -iI a = iI (-a) := (Int32.ofInt_neg a).symm
theorem iI_lt {a b : Int} (ha : rg a) (hb : rg b) : iI a < iI b ↔ a < b := by rw [Int32.lt_iff_toInt_lt, iI_toInt ha, iI_toInt hb]
theorem iI_le {a b : Int} (ha : rg a) (hb : rg b) : iI a ≤ iI b ↔ a ≤ b := by rw [Int32.le_iff_toInt_le, iI_toInt ha, iI_toInt hb]
theorem iI_eq {a b : Int} (ha : rg a) (hb : rg b) : iI a = iI b ↔ a = b := by rw [← Int32.toInt_inj, iI_toInt ha, iI_toInt hb]
theorem iI_0 : iI 0 = 0 := rfl
theorem iI_tdiv {a b : Int} (ha : rg a) (hb : rg b) : iI a / iI b = iI (a.tdiv b) := (Int32.ofInt_tdiv (by have := ha.1; exact this) (by have := ha.2; show a ≤ 2147483647; omega) (by have := hb.1; exact this) (by have := hb.2; show b ≤ 2147483647; omega)).symm
theorem iI_rem {a b : Int} (ha : rg a) (hb : rg b) : iI a - iI a / iI b * iI b = iI (a.tmod b) := by
  rw [iI_tdiv ha hb, iI_mul, iI_sub]
  refine congrArg iI ?_
  have := Int.mul_tdiv_add_tmod a b
  have e : b * a.tdiv b = a.tdiv b * b := Int.mul_comm _ _
  omega
theorem iI_clamp {j : Nat} (h : j < 2147483648) : (iI (j : Int)).toNatClampNeg = j := by
  have h1 := Int32.toNatClampNeg_ofInt_of_le (n := (j : Int)) (by omega) (by omega)
  rw [show (iI (j : Int)).toNatClampNeg = (Int32.ofInt (j : Int)).toNatClampNeg from rfl, h1]
  omega
theorem iI_in {j n : Nat} (h : j < n) (hn : n ≤ 100000) : ¬ (iI (j : Int) < 0 ∨ n ≤ (iI (j : Int)).toNatClampNeg) := by
  rw [iI_clamp (by omega), show (0 : Int32) = iI 0 from rfl, iI_lt ⟨by omega, by omega⟩ ⟨by omega, by omega⟩]
  omega
theorem flds_len (c j : Nat) (M : Mem) : (flds c j M).length = (sf c).length := by simp [flds]
theorem flds_at {c j y : Nat} {M : Mem} {q : Bool} (h : (sf c)[y]? = some q) : (flds c j M)[y]? = some (if q then va_rf (M.2 j y) else .int (iI (vF (M.1 j y)))) := by
  unfold flds
  rw [List.getElem?_map, List.getElem?_zipIdx, h]
  simp
theorem cellM_u1 {M : Mem} {a i j : Nat} {x : F} {q : Nat × Nat} (h : j ≠ a) : cellM q (u1 M a i x) j = cellM q M j := by
  have e : ∀ i', (u1 M a i x).1 j i' = M.1 j i' := fun i' => u1_ne (fun z => h z.1)
  simp only [cellM, flds, e]
  rfl
theorem cellM_u2 {M : Mem} {a i j : Nat} {x : Option Nat} {q : Nat × Nat} (h : j ≠ a) : cellM q (u2 M a i x) j = cellM q M j := by
  have e : ∀ i', (u2 M a i x).2 j i' = M.2 j i' := fun i' => u2_ne (fun z => h z.1)
  have e2 : (u2 M a i x).2 j = M.2 j := funext e
  simp only [cellM, flds, e2]
  rfl
theorem hpM_at {S : Env} {fz : Bool} {M : Mem} {a : Nat} (ha : 1 ≤ a ∧ a ≤ 260) : (hpM S fz M).2.2 a = cellM (SH a) M a := if_pos ha
theorem SH_0 : SH 0 = (0, 0) := rfl
theorem SH_n0 {a t w : Nat} (h : SH a = (t, w)) (hq : t ≠ 0) : 1 ≤ a ∧ a ≤ 260 := by
  refine ⟨?_, ?_⟩
  · by_cases e : a = 0
    · subst e
      rw [SH_0] at h
      cases h
      exact absurd rfl hq
    · omega
  · by_cases e : a ≤ 260
    · exact e
    · unfold SH at h
      rw [if_neg (by omega), if_neg (by omega)] at h
      cases h
      exact absurd rfl hq
theorem SH_ne {a t w : Nat} (h : SH a = (t, w)) (hq : t ≠ 0) : a ≠ 0 := by have := (SH_n0 h hq).1; omega
theorem hup_hp {S : Env} {fz : Bool} {M M' : Mem} {a : Nat} {x : MC} (ha : 1 ≤ a ∧ a ≤ 260) (h1 : cellM (SH a) M' a = some x) (h2 : ∀ j, j ≠ a → cellM (SH j) M' j = cellM (SH j) M j) : hup (hpM S fz M) a x = hpM S fz M' := by
  unfold hup hpM
  refine congrArg (fun f => (S.1, fz, f)) (funext fun j => ?_)
  by_cases e : j = a
  · subst e
    simp only [if_true, if_pos ha, h1]
  · simp only [if_neg e, h2 j e]
theorem hup_u1 {S : Env} {fz : Bool} {M : Mem} {a i n : Nat} {x : F} (hs : SH a = (1, n)) : hup (hpM S fz M) a (mI n (upd (fun i => iI (vF (M.1 a i))) i (iI (vF x)))) = hpM S fz (u1 M a i x) := by
  refine hup_hp (SH_n0 hs (by decide)) ?_ (fun j hj => cellM_u1 hj)
  rw [hs]
  show some (mI n (fun i' => iI (vF ((u1 M a i x).1 a i')))) = _
  refine congrArg (fun f => some (mI n f)) (funext fun i' => ?_)
  by_cases e : i' = i
  · subst e
    rw [u1_at]
    exact (if_pos rfl).symm
  · rw [u1_ne (fun z => e z.2)]
    exact (if_neg e).symm
theorem hup_J {S : Env} {fz : Bool} {M : Mem} {a i n : Nat} {x : F} (hs : SH a = (2, n)) : hup (hpM S fz M) a (mJ n (vp_updL (fun i => (iI (vF (M.1 a i))).toInt64) i (iI (vF x)).toInt64)) = hpM S fz (u1 M a i x) := by
  refine hup_hp (SH_n0 hs (by decide)) ?_ (fun j hj => cellM_u1 hj)
  rw [hs]
  show some (mJ n (fun i' => (iI (vF ((u1 M a i x).1 a i'))).toInt64)) = _
  refine congrArg (fun f => some (mJ n f)) (funext fun i' => ?_)
  by_cases e : i' = i
  · subst e
    rw [u1_at]
    exact (if_pos rfl).symm
  · rw [u1_ne (fun z => e z.2)]
    exact (if_neg e).symm
theorem hup_Q {S : Env} {fz : Bool} {M : Mem} {a i n t q : Nat} (hs : SH a = (3 + t, n)) (ht : t < 2) : hup (hpM S fz M) a (mQ t n (va_up (M.2 a) i (some q))) = hpM S fz (u2 M a i (some q)) := by
  have e : (fun i' => (u2 M a i (some q)).2 a i') = va_up (M.2 a) i (some q) := funext fun i' => by
    by_cases e : i' = i
    · subst e
      rw [u2_at]
      exact (if_pos rfl).symm
    · rw [u2_ne (fun z => e z.2)]
      exact (if_neg e).symm
  refine hup_hp (SH_n0 hs (by show 3 + t ≠ 0; omega)) ?_ (fun j hj => cellM_u2 hj)
  rw [hs]
  rcases (show t = 0 ∨ t = 1 by omega) with rfl | rfl
  · show some (mQ 0 n (fun i' => (u2 M a i (some q)).2 a i')) = _
    rw [e]
  · show some (mQ 1 n (fun i' => (u2 M a i (some q)).2 a i')) = _
    rw [e]
theorem hup_F1 {S : Env} {fz : Bool} {M : Mem} {a y c n : Nat} {x : F} (hs : SH a = (10 + c, n)) (hf : (sf c)[y]? = some false) : hup (hpM S fz M) a (mO c ((flds c a M).set y (.int (iI (vF x))))) = hpM S fz (u1 M a y x) := by
  refine hup_hp (SH_n0 hs (by show 10 + c ≠ 0; omega)) ?_ (fun j hj => cellM_u1 hj)
  rw [hs]
  have e1 : cellM (10 + c, n) (u1 M a y x) a = some (mO c (flds c a (u1 M a y x))) := by
    have h1 : ¬ 10 + c = 1 := by omega
    have h2 : ¬ 10 + c = 2 := by omega
    have h3 : ¬ 10 + c = 3 := by omega
    have h4 : ¬ 10 + c = 4 := by omega
    have h5 : 10 ≤ 10 + c := by omega
    have h6 : 10 + c - 10 = c := by omega
    simp only [cellM, h1, h2, h3, h4, h5, h6, if_false, if_true]
  rw [e1]
  refine congrArg (fun f => some (mO c f)) (List.ext_getElem? fun i => ?_)
  rw [List.getElem?_set]
  by_cases e : y = i
  · subst e
    have hl : y < (sf c).length := (List.getElem?_eq_some_iff.mp hf).1
    rw [if_pos rfl, if_pos (by rw [flds_len]; exact hl), flds_at hf, u1_at]
    rfl
  · rw [if_neg e]
    cases hq : (sf c)[i]? with
    | none =>
      have hl : (sf c).length ≤ i := List.getElem?_eq_none_iff.mp hq
      rw [List.getElem?_eq_none (by rw [flds_len]; exact hl), List.getElem?_eq_none (by rw [flds_len]; exact hl)]
    | some q =>
      rw [flds_at hq, flds_at hq, u1_ne (fun z => e z.2.symm)]
      rfl
theorem hup_F2 {S : Env} {fz : Bool} {M : Mem} {a y c n q : Nat} (hs : SH a = (10 + c, n)) (hf : (sf c)[y]? = some true) : hup (hpM S fz M) a (mO c ((flds c a M).set y (.ref q))) = hpM S fz (u2 M a y (some q)) := by
  refine hup_hp (SH_n0 hs (by show 10 + c ≠ 0; omega)) ?_ (fun j hj => cellM_u2 hj)
  rw [hs]
  have e1 : cellM (10 + c, n) (u2 M a y (some q)) a = some (mO c (flds c a (u2 M a y (some q)))) := by
    have h1 : ¬ 10 + c = 1 := by omega
    have h2 : ¬ 10 + c = 2 := by omega
    have h3 : ¬ 10 + c = 3 := by omega
    have h4 : ¬ 10 + c = 4 := by omega
    have h5 : 10 ≤ 10 + c := by omega
    have h6 : 10 + c - 10 = c := by omega
    simp only [cellM, h1, h2, h3, h4, h5, h6, if_false, if_true]
  rw [e1]
  refine congrArg (fun f => some (mO c f)) (List.ext_getElem? fun i => ?_)
  rw [List.getElem?_set]
  by_cases e : y = i
  · subst e
    have hl : y < (sf c).length := (List.getElem?_eq_some_iff.mp hf).1
    rw [if_pos rfl, if_pos (by rw [flds_len]; exact hl), flds_at hf, u2_at]
    rfl
  · rw [if_neg e]
    cases hq : (sf c)[i]? with
    | none =>
      have hl : (sf c).length ≤ i := List.getElem?_eq_none_iff.mp hq
      rw [List.getElem?_eq_none (by rw [flds_len]; exact hl), List.getElem?_eq_none (by rw [flds_len]; exact hl)]
    | some q =>
      rw [flds_at hq, flds_at hq, u2_ne (fun z => e z.2.symm)]
      rfl
theorem hp_obj {S : Env} {fz : Bool} {M : Mem} {a c n : Nat} (hs : SH a = (10 + c, n)) : (hpM S fz M).2.2 a = some (mO c (flds c a M)) := by
  rw [hpM_at (SH_n0 hs (by show 10 + c ≠ 0; omega)), hs]
  have h1 : ¬ 10 + c = 1 := by omega
  have h2 : ¬ 10 + c = 2 := by omega
  have h3 : ¬ 10 + c = 3 := by omega
  have h4 : ¬ 10 + c = 4 := by omega
  have h5 : 10 ≤ 10 + c := by omega
  have h6 : 10 + c - 10 = c := by omega
  simp only [cellM, h1, h2, h3, h4, h5, h6, if_false, if_true]
theorem hp_I {S : Env} {fz : Bool} {M : Mem} {a n : Nat} (hs : SH a = (1, n)) : (hpM S fz M).2.2 a = some (mI n (fun i => iI (vF (M.1 a i)))) := by
  rw [hpM_at (SH_n0 hs (by decide)), hs]
  rfl
theorem hp_J {S : Env} {fz : Bool} {M : Mem} {a n : Nat} (hs : SH a = (2, n)) : (hpM S fz M).2.2 a = some (mJ n (fun i => (iI (vF (M.1 a i))).toInt64)) := by
  rw [hpM_at (SH_n0 hs (by decide)), hs]
  rfl
theorem hp_Q {S : Env} {fz : Bool} {M : Mem} {a n t : Nat} (hs : SH a = (3 + t, n)) (ht : t < 2) : (hpM S fz M).2.2 a = some (mQ t n (M.2 a)) := by
  rw [hpM_at (SH_n0 hs (by show 3 + t ≠ 0; omega)), hs]
  rcases (show t = 0 ∨ t = 1 by omega) with rfl | rfl <;> rfl

