/-! THE MODEL MACHINE AND THE MACHINE: how their states belong together. -/
def ad (b sz : Nat) (a : Nat) : Nat := match a with
  | 0 => b
  | a + 1 => sz + a
def cv (b sz : Nat) (v : Value) : Value := match v with
  | .ref a => .ref (ad b sz a)
  | v => v
theorem cv_cat (b sz : Nat) (v : Value) : (cv b sz v).category = v.category := by cases v <;> rfl
theorem cv_cats (b sz : Nat) (st : List Value) : ((st.map (cv b sz)).map fun v => v.category) = st.map fun v => v.category := by
  rw [List.map_map]
  exact List.map_congr_left fun v _ => cv_cat b sz v
/-- the classes of int[], long[], int[][], Plant[] -/
abbrev KK : Type := ClassId × ClassId × ClassId × ClassId
def ce (K : KK) (b sz : Nat) (x : Option MC) : va_E := match x with
  | some (.inl (ci, fs)) => .inr (ci, fs.map (cv b sz))
  | some (.inr (.inl (n, f))) => .inl (K.1, n, .inl f)
  | some (.inr (.inr (.inl (n, f)))) => .inl (K.2.1, n, .inr (.inl f))
  | some (.inr (.inr (.inr (t, n, g)))) => .inl (if t = 0 then K.2.2.1 else K.2.2.2, n, .inr (.inr (.inr (.inr (fun j => (g j).map (ad b sz))))))
  | none => .inr (0, [])
def mkw (K : KK) (b sz : Nat) (h : MH) : va_W := (List.range h.1).map fun i => (sz + i, ce K b sz (h.2.2 (i + 1)))
theorem mkw_get {K : KK} {b sz : Nat} {h : MH} {a : Nat} {x : MC} (hx : h.2.2 a = some x) (h0 : a ≠ 0) (hN : a ≤ h.1) : (mkw K b sz h)[a - 1]? = some (ad b sz a, ce K b sz (some x)) := by
  obtain ⟨i, rfl⟩ : ∃ i, a = i + 1 := ⟨a - 1, by omega⟩
  simp only [mkw, List.getElem?_map, Nat.add_sub_cancel]
  rw [List.getElem?_range (by omega)]
  simp [hx, ad]
theorem mkw_at {K : KK} {b sz : Nat} {h : MH} {i : Nat} {q : Nat × va_E} (hq : (mkw K b sz h)[i]? = some q) : q.1 = sz + i ∧ i < h.1 := by
  have hl : i < h.1 := by
    have := (List.getElem?_eq_some_iff.mp hq).1
    simpa [mkw] using this
  refine ⟨?_, hl⟩
  simp only [mkw, List.getElem?_map] at hq
  rw [List.getElem?_range hl] at hq
  cases hq
  rfl
theorem mkw_D {K : KK} {b sz : Nat} {h : MH} : va_D (fun q => sz ≤ q) (mkw K b sz h) := by
  refine ⟨fun i j p q hi hj e => ?_, fun k q hk => ?_⟩
  · have h1 := (mkw_at hi).1
    have h2 := (mkw_at hj).1
    omega
  · have h1 := (mkw_at hk).1
    show sz ≤ q.1
    omega
theorem mkw_set {K : KK} {b sz : Nat} {h : MH} {a : Nat} {x : MC} (h0 : a ≠ 0) (hN : a ≤ h.1) : (mkw K b sz h).set (a - 1) (ad b sz a, ce K b sz (some x)) = mkw K b sz (hup h a x) := by
  obtain ⟨i, rfl⟩ : ∃ i, a = i + 1 := ⟨a - 1, by omega⟩
  apply List.ext_getElem?
  intro j
  simp only [mkw, hup, List.getElem?_set, List.getElem?_map, List.length_map, List.length_range, Nat.add_sub_cancel]
  by_cases hj : j < h.1
  · rw [List.getElem?_range hj]
    by_cases e : i = j
    · subst e
      simp [ad, hj]
    · simp [e, Ne.symm e]
  · have e : (List.range h.1)[j]? = none := List.getElem?_eq_none (by rw [List.length_range]; omega)
    rw [e]
    have e2 : ¬ i = j := by omega
    simp [e2]
theorem mkw_push {K : KK} {b sz : Nat} {h : MH} {x : MC} : mkw K b sz h ++ [(sz + h.1, ce K b sz (some x))] = mkw K b sz (hpush h x) := by
  simp only [mkw, hpush]
  rw [List.range_succ, List.map_append]
  congr 1
  · apply List.map_congr_left
    intro i hi
    have := List.mem_range.mp hi
    have e : ¬ i = h.1 := by omega
    simp [e]
  · simp
theorem mkw_grid {K : KK} {b sz : Nat} {h : MH} {n m : Nat} : (mkw K b sz h ++ [(sz + h.1, ce K b sz (some (mQ 0 n (fun i => if i < n then some (h.1 + 2 + i) else none))))]) ++ (List.range n).map (fun i => (sz + h.1 + 1 + i, ce K b sz (some (mI m (fun _ => 0))))) = mkw K b sz (hgrid h n m) := by
  simp only [mkw, hgrid]
  rw [List.range_add, List.range_succ, List.map_append, List.map_append, List.map_map]
  congr 1
  · congr 1
    · apply List.map_congr_left
      intro i hi
      have := List.mem_range.mp hi
      have e : ¬ i + 1 = h.1 + 1 := by omega
      have e2 : ¬ (h.1 + 1 < i + 1 ∧ i + 1 ≤ h.1 + 1 + n) := by omega
      simp only [e, e2, if_false]
    · simp
  · apply List.map_congr_left
    intro i hi
    have := List.mem_range.mp hi
    have e : ¬ h.1 + 1 + i + 1 = h.1 + 1 := by omega
    have e2 : h.1 + 1 < h.1 + 1 + i + 1 ∧ h.1 + 1 + i + 1 ≤ h.1 + 1 + n := by omega
    simp only [Function.comp, e, e2, if_false, if_true, and_self, true_and]
    exact congrArg (fun q => (q, _)) (by omega)
/-- the heaps belong together -/
def RH (D : va_G) (K : KK) (b sz L : Nat) (xs : Nat → Int32) (H0 : Heap) (h : MH) (H : Heap) (locs : List Loc) : Prop :=
  va_P D vwCl (mkw K b sz h) H ∧ va_S (fun q => sz ≤ q) H0 H locs ∧ (∀ a x, h.2.2 a = some x → a ≤ h.1) ∧ h.2.2 0 = some (mI L xs)
def lvl (b sz : Nat) : Nat → List (Option Value) → List (Nat × Value)
  | _, [] => []
  | i, none :: l => lvl b sz (i + 1) l
  | i, some v :: l => (i, cv b sz v) :: lvl b sz (i + 1) l
theorem lvl_of {b sz : Nat} : ∀ (l : List (Option Value)) (i : Nat) (q : Nat × Value), q ∈ lvl b sz i l → ∃ j v, l[j]? = some (some v) ∧ q = (i + j, cv b sz v)
  | [], _, _, h => by cases h
  | none :: l, i, q, h => by
    obtain ⟨j, v, h1, h2⟩ := lvl_of l (i + 1) q h
    exact ⟨j + 1, v, h1, by rw [h2]; exact congrArg (fun z => (z, _)) (by omega)⟩
  | some v :: l, i, q, h => by
    rcases List.mem_cons.mp h with h | h
    · exact ⟨0, v, rfl, h⟩
    · obtain ⟨j, w, h1, h2⟩ := lvl_of l (i + 1) q h
      exact ⟨j + 1, w, h1, by rw [h2]; exact congrArg (fun z => (z, _)) (by omega)⟩
theorem lvl_in {b sz : Nat} : ∀ (l : List (Option Value)) (i j : Nat) (v : Value), l[j]? = some (some v) → (i + j, cv b sz v) ∈ lvl b sz i l
  | [], _, _, _, h => by simp at h
  | none :: l, i, 0, _, h => by simp at h
  | none :: l, i, j + 1, v, h => by
    have := lvl_in (b := b) (sz := sz) l (i + 1) j v (by simpa using h)
    rw [show i + (j + 1) = i + 1 + j by omega]
    exact this
  | some w :: l, i, 0, v, h => by
    have e : w = v := by simpa using h
    subst e
    exact List.mem_cons_self
  | some w :: l, i, j + 1, v, h => by
    have := lvl_in (b := b) (sz := sz) l (i + 1) j v (by simpa using h)
    rw [show i + (j + 1) = i + 1 + j by omega]
    exact List.mem_cons_of_mem _ this
/-- the locals belong together -/
def LV (b sz nL : Nat) (lv : List (Option Value)) (ls : Array Slot) : Prop := lv.length = nL ∧ (ls.size = nL ∧ lv_wf ls) ∧ ∀ (j : Nat) (v : Value), lv[j]? = some (some v) → ls[j]? = some (Slot.val (cv b sz v)) ∧ v.category = 1
theorem LV.has {b sz nL : Nat} {lv : List (Option Value)} {ls : Array Slot} (h : LV b sz nL lv ls) : lv_has ls nL (lvl b sz 0 lv) := by
  refine ⟨h.2.1.1, h.2.1.2, fun q hq => ?_⟩
  obtain ⟨j, v, h1, rfl⟩ := lvl_of lv 0 q hq
  show ls[0 + j]? = _
  rw [Nat.zero_add]
  exact (h.2.2 j v h1).1
theorem LV.store {b sz nL n : Nat} {lv : List (Option Value)} {ls ls' : Array Slot} {w : Value} (h : LV b sz nL lv ls) (x : Option Value) (hx : ∀ v, x = some v → cv b sz v = w ∧ v.category = 1)
    (h' : lv_has ls' nL ((n, w) :: (lvl b sz 0 lv).filter (fun q => !(q.1 == n) && !(q.1 + 1 == n && q.2.category == 2)))) : LV b sz nL (lv.set n x) ls' := by
  refine ⟨by rw [List.length_set]; exact h.1, ⟨h'.1, h'.2.1⟩, fun j v hj => ?_⟩
  rw [List.getElem?_set] at hj
  by_cases e : n = j
  · subst e
    rw [if_pos rfl] at hj
    by_cases hl : n < lv.length
    · rw [if_pos hl] at hj
      obtain ⟨h1, h2⟩ := hx v (Option.some.inj hj)
      refine ⟨?_, h2⟩
      rw [h1]
      exact h'.2.2 (n, w) List.mem_cons_self
    · rw [if_neg hl] at hj
      cases hj
  · rw [if_neg e] at hj
    refine ⟨h'.2.2 (j, cv b sz v) (List.mem_cons_of_mem _ (List.mem_filter.mpr ⟨?_, ?_⟩)), (h.2.2 j v hj).2⟩
    · have := lvl_in (b := b) (sz := sz) lv 0 j v hj
      rw [Nat.zero_add] at this
      exact this
    · have e1 : ¬ j = n := fun q => e q.symm
      have e2 : (cv b sz v).category = 1 := (cv_cat b sz v).trans (h.2.2 j v hj).2
      simp [e1, e2]
theorem lookup_mem {α : Type} : ∀ (l : List (Nat × α)) (k : Nat) (x : α), l.lookup k = some x → (k, x) ∈ l
  | [], _, _, h => by cases h
  | (i, y) :: l, k, x, h => by
    rw [List.lookup_cons] at h
    by_cases e : k = i
    · subst e
      rw [beq_self_eq_true] at h
      cases h
      exact List.mem_cons_self
    · have e2 : (k == i) = false := by simp [e]
      rw [e2] at h
      exact List.mem_cons_of_mem _ (lookup_mem l k x (by simpa using h))
