/-! THE MODEL MACHINE AND THE MACHINE: how their states belong together. -/
def ad (b sz : Nat) (a : Nat) : Nat := match a with
  | 0 => b
  | a + 1 => sz + a
def cv (b sz : Nat) (v : Value) : Value := match v with
  | .ref a => .ref (ad b sz a)
  | v => v
theorem cv_cat (b sz : Nat) (v : Value) : (cv b sz v).category = v.category := by cases v <;> rfl
theorem cv_cats (b sz : Nat) (st : List Value) : ((st.map (cv b sz)).map fun v => v.category) = st.map fun v => v.category := by
  rw [List.map_map]
  exact List.map_congr_left fun v _ => cv_cat b sz v
/-- the classes of int[], long[], int[][], Plant[] -/
abbrev KK : Type := ClassId × ClassId × ClassId × ClassId
def ce (K : KK) (b sz : Nat) (x : Option MC) : va_E := match x with
  | some (.inl (ci, fs)) => .inr (ci, fs.map (cv b sz))
  | some (.inr (.inl (n, f))) => .inl (K.1, n, .inl f)
  | some (.inr (.inr (.inl (n, f)))) => .inl (K.2.1, n, .inr (.inl f))
  | some (.inr (.inr (.inr (t, n, g)))) => .inl (if t = 0 then K.2.2.1 else K.2.2.2, n, .inr (.inr (.inr (.inr (fun j => (g j).map (ad b sz))))))
  | none => .inr (0, [])
def mkf (K : KK) (b sz : Nat) (h : MH) (i : Nat) : Option (Nat × va_E) := (h.2.2 (i + 1)).map fun x => (sz + i, ce K b sz (some x))
def mkw (K : KK) (b sz : Nat) (h : MH) : va_W := (List.range h.1).filterMap (mkf K b sz h)
/-- where cell a stands in that list -/
def mps (K : KK) (b sz : Nat) (h : MH) (a : Nat) : Nat := ((List.range (a - 1)).filterMap (mkf K b sz h)).length
theorem fm_congr {α : Type} {f g : Nat → Option α} {l : List Nat} (h : ∀ i ∈ l, f i = g i) : l.filterMap f = l.filterMap g := by
  induction l with
  | nil => rfl
  | cons a l ih =>
    have e := ih (fun i hi => h i (List.mem_cons_of_mem _ hi))
    have e2 := h a List.mem_cons_self
    cases q : g a with
    | none => rw [List.filterMap_cons_none (e2.trans q), List.filterMap_cons_none q, e]
    | some x => rw [List.filterMap_cons_some (e2.trans q), List.filterMap_cons_some q, e]
theorem fm_split {α : Type} (f : Nat → Option α) {n k : Nat} {x : α} (hk : f k = some x) (hn : k < n) : ∃ R : List Nat, (List.range n).filterMap f = (List.range k).filterMap f ++ x :: R.filterMap f ∧ ∀ j ∈ R, k < j := by
  obtain ⟨r, rfl⟩ : ∃ r, n = k + 1 + r := ⟨n - (k + 1), by omega⟩
  refine ⟨(List.range r).map (fun i => k + 1 + i), ?_, fun j hj => ?_⟩
  · rw [List.range_add, List.range_succ, List.filterMap_append, List.filterMap_append, List.append_assoc]
    refine congrArg _ ?_
    show (List.filterMap f [k]) ++ _ = _
    rw [List.filterMap_cons_some hk]
    rfl
  · obtain ⟨i, -, rfl⟩ := List.mem_map.mp hj
    omega
theorem mkf_some {K : KK} {b sz : Nat} {h : MH} {a : Nat} {x : MC} (hx : h.2.2 (a + 1) = some x) : mkf K b sz h a = some (ad b sz (a + 1), ce K b sz (some x)) := by
  unfold mkf
  rw [hx]
  rfl
theorem mkw_get {K : KK} {b sz : Nat} {h : MH} {a : Nat} {x : MC} (hx : h.2.2 a = some x) (h0 : a ≠ 0) (hN : a ≤ h.1) : (mkw K b sz h)[mps K b sz h a]? = some (ad b sz a, ce K b sz (some x)) := by
  obtain ⟨i, rfl⟩ : ∃ i, a = i + 1 := ⟨a - 1, by omega⟩
  obtain ⟨R, e, -⟩ := fm_split (mkf K b sz h) (mkf_some hx) (n := h.1) (by omega)
  unfold mkw mps
  rw [e, Nat.add_sub_cancel, List.getElem?_append_right (Nat.le_refl _), Nat.sub_self]
  rfl
theorem mkw_mem {K : KK} {b sz : Nat} {h : MH} {q : Nat × va_E} (hq : q ∈ mkw K b sz h) : sz ≤ q.1 := by
  obtain ⟨i, -, hi⟩ := List.mem_filterMap.mp hq
  unfold mkf at hi
  cases hx : h.2.2 (i + 1) with
  | none => rw [hx] at hi; cases hi
  | some x =>
    rw [hx] at hi
    cases hi
    exact Nat.le_add_right _ _
theorem mkw_lt {K : KK} {b sz : Nat} {h : MH} : (mkw K b sz h).Pairwise (fun p q => p.1 < q.1) := by
  unfold mkw
  refine List.Pairwise.filterMap (R := fun i j : Nat => i < j) (S := fun p q : Nat × va_E => p.1 < q.1) (mkf K b sz h) ?_ List.pairwise_lt_range
  intro i j hij p hp q hq
  unfold mkf at hp hq
  cases hx : h.2.2 (i + 1) with
  | none => rw [hx] at hp; cases hp
  | some x =>
    cases hy : h.2.2 (j + 1) with
    | none => rw [hy] at hq; cases hq
    | some y =>
      rw [hx] at hp
      rw [hy] at hq
      cases hp
      cases hq
      show sz + i < sz + j
      omega
theorem mkw_D {K : KK} {b sz : Nat} {h : MH} : va_D (fun q => sz ≤ q) (mkw K b sz h) := by
  refine ⟨fun i j p q hi hj e => ?_, fun k q hk => mkw_mem (List.mem_of_getElem? hk)⟩
  have hp := List.pairwise_iff_getElem.mp (mkw_lt (K := K) (b := b) (sz := sz) (h := h))
  obtain ⟨li, ei⟩ := List.getElem?_eq_some_iff.mp hi
  obtain ⟨lj, ej⟩ := List.getElem?_eq_some_iff.mp hj
  rcases Nat.lt_trichotomy i j with c | c | c
  · have := hp i j li lj c
    rw [ei, ej] at this
    omega
  · exact c
  · have := hp j i lj li c
    rw [ei, ej] at this
    omega
theorem mkw_set {K : KK} {b sz : Nat} {h : MH} {a : Nat} {x y : MC} (hy : h.2.2 a = some y) (h0 : a ≠ 0) (hN : a ≤ h.1) : (mkw K b sz h).set (mps K b sz h a) (ad b sz a, ce K b sz (some x)) = mkw K b sz (hup h a x) := by
  obtain ⟨i, rfl⟩ : ∃ i, a = i + 1 := ⟨a - 1, by omega⟩
  have hx : (hup h (i + 1) x).2.2 (i + 1) = some x := if_pos rfl
  have hl : i < h.1 := by omega
  unfold mkw mps
  have e0 : (hup h (i + 1) x).1 = h.1 := rfl
  rw [e0, Nat.add_sub_cancel]
  have e1 : ∀ j, j ≠ i → mkf K b sz h j = mkf K b sz (hup h (i + 1) x) j := fun j hj => by
    unfold mkf hup
    simp only [show ¬ j + 1 = i + 1 by omega, if_false]
  obtain ⟨r, hr⟩ : ∃ r, h.1 = i + 1 + r := ⟨h.1 - (i + 1), by omega⟩
  rw [hr, List.range_add, List.range_succ, List.filterMap_append, List.filterMap_append, List.filterMap_append, List.filterMap_append]
  rw [show (List.range i).filterMap (mkf K b sz (hup h (i + 1) x)) = (List.range i).filterMap (mkf K b sz h) from fm_congr (fun j hj => (e1 j (by have := List.mem_range.mp hj; omega)).symm)]
  rw [show ((List.range r).map (fun z => i + 1 + z)).filterMap (mkf K b sz (hup h (i + 1) x)) = ((List.range r).map (fun z => i + 1 + z)).filterMap (mkf K b sz h) from fm_congr (fun j hj => by
    obtain ⟨z, -, rfl⟩ := List.mem_map.mp hj
    exact (e1 _ (by omega)).symm)]
  rw [List.filterMap_cons_some (mkf_some hy), List.filterMap_cons_some (mkf_some hx), List.append_assoc, List.set_append_right _ _ (Nat.le_refl _), Nat.sub_self, List.append_assoc]
  rfl
theorem mkw_push {K : KK} {b sz : Nat} {h : MH} {x : MC} : mkw K b sz h ++ [(sz + h.1, ce K b sz (some x))] = mkw K b sz (hpush h x) := by
  unfold mkw
  have e0 : (hpush h x).1 = h.1 + 1 := rfl
  have hx : (hpush h x).2.2 (h.1 + 1) = some x := if_pos rfl
  rw [e0, List.range_succ, List.filterMap_append, List.filterMap_cons_some (mkf_some hx)]
  refine congrArg (fun l => l ++ _) (fm_congr (fun i hi => ?_))
  have := List.mem_range.mp hi
  unfold mkf hpush
  simp only [show ¬ i + 1 = h.1 + 1 by omega, if_false]
theorem mkw_th {K : KK} {b sz : Nat} {h : MH} (hh : h.2.2 (h.1 + 1) = none) : mkw K b sz (hth h) = mkw K b sz h := by
  unfold mkw
  have e0 : (hth h).1 = h.1 + 1 := rfl
  have hx : mkf K b sz (hth h) h.1 = none := by
    unfold mkf
    rw [show (hth h).2.2 = h.2.2 from rfl, hh]
    rfl
  rw [e0, List.range_succ, List.filterMap_append, List.filterMap_cons_none hx, List.filterMap_nil, List.append_nil]
  rfl
theorem fm_map {α : Type} (f : Nat → Option α) (g : Nat → α) (l : List Nat) (h : ∀ i ∈ l, f i = some (g i)) : l.filterMap f = l.map g := by
  induction l with
  | nil => rfl
  | cons a l ih =>
    rw [List.filterMap_cons_some (h a List.mem_cons_self), List.map_cons, ih (fun i hi => h i (List.mem_cons_of_mem _ hi))]
theorem mkw_grid {K : KK} {b sz : Nat} {h : MH} {n m : Nat} : (mkw K b sz h ++ [(sz + h.1, ce K b sz (some (mQ 0 n (fun i => if i < n then some (h.1 + 2 + i) else none))))]) ++ (List.range n).map (fun i => (sz + h.1 + 1 + i, ce K b sz (some (mI m (fun _ => 0))))) = mkw K b sz (hgrid h n m) := by
  unfold mkw
  have e0 : (hgrid h n m).1 = h.1 + 1 + n := rfl
  have hx : (hgrid h n m).2.2 (h.1 + 1) = some (mQ 0 n (fun i => if i < n then some (h.1 + 2 + i) else none)) := if_pos rfl
  rw [e0, List.range_add, List.range_succ, List.filterMap_append, List.filterMap_append, List.filterMap_cons_some (mkf_some hx)]
  congr 1
  · refine congrArg (fun l => l ++ _) (fm_congr (fun i hi => ?_))
    have := List.mem_range.mp hi
    unfold mkf hgrid
    simp only [show ¬ i + 1 = h.1 + 1 by omega, show ¬ (h.1 + 1 < i + 1 ∧ i + 1 ≤ h.1 + 1 + n) by omega, if_false]
  · rw [List.filterMap_map]
    refine (fm_map _ _ _ (fun i hi => ?_)).symm
    have := List.mem_range.mp hi
    have hy : (hgrid h n m).2.2 (h.1 + 1 + i + 1) = some (mI m (fun _ => 0)) := by
      unfold hgrid
      simp only [show ¬ h.1 + 1 + i + 1 = h.1 + 1 by omega, show (h.1 + 1 < h.1 + 1 + i + 1 ∧ h.1 + 1 + i + 1 ≤ h.1 + 1 + n) by omega, and_self, if_false, if_true]
    rw [show (mkf K b sz (hgrid h n m) ∘ fun x => h.1 + 1 + x) i = mkf K b sz (hgrid h n m) (h.1 + 1 + i) from rfl, mkf_some hy]
    exact congrArg (fun q => some (q, _)) (by show sz + (h.1 + 1 + i) = sz + h.1 + 1 + i; omega)
/-- the heaps belong together -/
def RH (D : va_G) (K : KK) (b sz L : Nat) (xs : Nat → Int32) (H0 : Heap) (h : MH) (H : Heap) (locs : List Loc) : Prop :=
  va_P D vwCl (mkw K b sz h) H ∧ va_S (fun q => sz ≤ q) H0 H locs ∧ (∀ a x, h.2.2 a = some x → a ≤ h.1) ∧ h.2.2 0 = some (mI L xs) ∧ sz + h.1 ≤ H.size
def lvl (b sz : Nat) : Nat → List (Option Value) → List (Nat × Value)
  | _, [] => []
  | i, none :: l => lvl b sz (i + 1) l
  | i, some v :: l => (i, cv b sz v) :: lvl b sz (i + 1) l
theorem lvl_of {b sz : Nat} : ∀ (l : List (Option Value)) (i : Nat) (q : Nat × Value), q ∈ lvl b sz i l → ∃ j v, l[j]? = some (some v) ∧ q = (i + j, cv b sz v)
  | [], _, _, h => by cases h
  | none :: l, i, q, h => by
    obtain ⟨j, v, h1, h2⟩ := lvl_of l (i + 1) q h
    exact ⟨j + 1, v, h1, by rw [h2]; exact congrArg (fun z => (z, _)) (by omega)⟩
  | some v :: l, i, q, h => by
    rcases List.mem_cons.mp h with h | h
    · exact ⟨0, v, rfl, h⟩
    · obtain ⟨j, w, h1, h2⟩ := lvl_of l (i + 1) q h
      exact ⟨j + 1, w, h1, by rw [h2]; exact congrArg (fun z => (z, _)) (by omega)⟩
theorem lvl_in {b sz : Nat} : ∀ (l : List (Option Value)) (i j : Nat) (v : Value), l[j]? = some (some v) → (i + j, cv b sz v) ∈ lvl b sz i l
  | [], _, _, _, h => by simp at h
  | none :: l, i, 0, _, h => by simp at h
  | none :: l, i, j + 1, v, h => by
    have := lvl_in (b := b) (sz := sz) l (i + 1) j v (by simpa using h)
    rw [show i + (j + 1) = i + 1 + j by omega]
    exact this
  | some w :: l, i, 0, v, h => by
    have e : w = v := by simpa using h
    subst e
    exact List.mem_cons_self
  | some w :: l, i, j + 1, v, h => by
    have := lvl_in (b := b) (sz := sz) l (i + 1) j v (by simpa using h)
    rw [show i + (j + 1) = i + 1 + j by omega]
    exact List.mem_cons_of_mem _ this
/-- the locals belong together -/
def LV (b sz nL : Nat) (lv : List (Option Value)) (ls : Array Slot) : Prop := lv.length = nL ∧ (ls.size = nL ∧ lv_wf ls) ∧ ∀ (j : Nat) (v : Value), lv[j]? = some (some v) → ls[j]? = some (Slot.val (cv b sz v)) ∧ v.category = 1
theorem LV.has {b sz nL : Nat} {lv : List (Option Value)} {ls : Array Slot} (h : LV b sz nL lv ls) : lv_has ls nL (lvl b sz 0 lv) := by
  refine ⟨h.2.1.1, h.2.1.2, fun q hq => ?_⟩
  obtain ⟨j, v, h1, rfl⟩ := lvl_of lv 0 q hq
  show ls[0 + j]? = _
  rw [Nat.zero_add]
  exact (h.2.2 j v h1).1
theorem LV.store {b sz nL n : Nat} {lv : List (Option Value)} {ls ls' : Array Slot} {w : Value} (h : LV b sz nL lv ls) (x : Option Value) (hx : ∀ v, x = some v → cv b sz v = w ∧ v.category = 1)
    (h' : lv_has ls' nL ((n, w) :: (lvl b sz 0 lv).filter (fun q => !(q.1 == n) && !(q.1 + 1 == n && q.2.category == 2)))) : LV b sz nL (lv.set n x) ls' := by
  refine ⟨by rw [List.length_set]; exact h.1, ⟨h'.1, h'.2.1⟩, fun j v hj => ?_⟩
  rw [List.getElem?_set] at hj
  by_cases e : n = j
  · subst e
    rw [if_pos rfl] at hj
    by_cases hl : n < lv.length
    · rw [if_pos hl] at hj
      obtain ⟨h1, h2⟩ := hx v (Option.some.inj hj)
      refine ⟨?_, h2⟩
      rw [h1]
      exact h'.2.2 (n, w) List.mem_cons_self
    · rw [if_neg hl] at hj
      cases hj
  · rw [if_neg e] at hj
    refine ⟨h'.2.2 (j, cv b sz v) (List.mem_cons_of_mem _ (List.mem_filter.mpr ⟨?_, ?_⟩)), (h.2.2 j v hj).2⟩
    · have := lvl_in (b := b) (sz := sz) lv 0 j v hj
      rw [Nat.zero_add] at this
      exact this
    · have e1 : ¬ j = n := fun q => e q.symm
      have e2 : (cv b sz v).category = 1 := (cv_cat b sz v).trans (h.2.2 j v hj).2
      simp [e1, e2]
theorem lookup_mem {α : Type} : ∀ (l : List (Nat × α)) (k : Nat) (x : α), l.lookup k = some x → (k, x) ∈ l
  | [], _, _, h => by cases h
  | (i, y) :: l, k, x, h => by
    rw [List.lookup_cons] at h
    by_cases e : k = i
    · subst e
      rw [beq_self_eq_true] at h
      cases h
      exact List.mem_cons_self
    · have e2 : (k == i) = false := by simp [e]
      rw [e2] at h
      exact List.mem_cons_of_mem _ (lookup_mem l k x (by simpa using h))
