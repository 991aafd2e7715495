/-! THE LAW'S ELIMINATION is the determinant, and the rank; the polynomial of a system is its determinant. -/
theorem ff_zz {f g : Nat → F} {n r : Nat} (hr : r ≤ n) (h : ∀ i, r ≤ i → i < n → (f i = 0 ↔ g i = 0)) : ff f n r = ff g n r := by
  have h1 := ff_is (f := f) hr
  obtain ⟨a1, a2, a3, a4⟩ := h1
  have h2 : IsF g n r (ff f n r) := ⟨a1, a2, fun q e => a3 q ((h _ a1 q).mpr e), fun i q1 q2 => (h i q1 (by omega)).mp (a4 i q1 q2)⟩
  exact IsF_uniq h2 (ff_is hr) (fun _ _ _ => rfl)
theorem iv_sg {s x : F} (h : s * x ≠ 0) : iv (s * x) * s = iv x := by
  have hx : x ≠ 0 := fun e => h (by rw [e]; grind)
  have h1 := iv_r h
  have h2 := iv_r hx
  have h3 : iv (s * x) * s = iv (s * x) * s * (x * iv x) := by rw [h2]; grind
  rw [h3]
  have h4 : iv (s * x) * s * (x * iv x) = (s * x * iv (s * x)) * iv x := by grind
  rw [h4, h1]
  grind
def Sg (s : F) : Prop := s = 1 ∨ s = 0 - 1
theorem Sg_ne {s x : F} (h : Sg s) : s * x = 0 ↔ x = 0 := by
  refine ⟨fun e => ?_, fun e => by rw [e]; grind⟩
  rcases h with rfl | rfl
  · grind
  · grind
theorem dls_els {n : Nat} {W : Nat → Nat → F} (j : Nat) : j ≤ n → (dls n W j).2.1 = (els n W j).2 ∧ ∃ s : Nat → F, (∀ i, Sg (s i)) ∧ ∀ i, i < n → ∀ c, c < n → (dls n W j).1 i c = s i * (els n W j).1 i c := by
  induction j with
  | zero => exact fun _ => ⟨rfl, fun _ => 1, fun _ => Or.inl rfl, fun i _ c _ => by show W i c = 1 * W i c; grind⟩
  | succ j ih =>
    intro hj
    obtain ⟨h1, s, h2, h3⟩ := ih (by omega)
    have hle := els_le (n := n) (A := W) j (by omega)
    have hff : ff (fun i => (dls n W j).1 i j) n (dls n W j).2.1 = ff (fun i => (els n W j).1 i j) n (els n W j).2 := by
      rw [h1]
      exact ff_zz (by omega) (fun i _ hi => by rw [h3 i hi j (by omega)]; exact Sg_ne (h2 i))
    have hf := ff_is (f := fun i => (els n W j).1 i j) (n := n) (r := (els n W j).2) (by omega)
    show (dl n (dls n W j) j).2.1 = (el n (els n W j) j).2 ∧ ∃ s : Nat → F, (∀ i, Sg (s i)) ∧ ∀ i, i < n → ∀ c, c < n → (dl n (dls n W j) j).1 i c = s i * (el n (els n W j) j).1 i c
    generalize hr : (els n W j).2 = r at *
    generalize hk : ff (fun i => (els n W j).1 i j) n r = k at *
    by_cases q : k < n
    · have e1 : dl n (dls n W j) j = (dlo (dsw (dls n W j).1 r k) r j, r + 1, (dls n W j).2.2 * dsw (dls n W j).1 r k r j) := by
        unfold dl
        rw [hff, if_pos q, h1]
      have e2 : el n (els n W j) j = ((fun i c => if i ≤ r then swA (els n W j).1 r k i c else swA (els n W j).1 r k i c - swA (els n W j).1 r k i j * iv (swA (els n W j).1 r k r j) * swA (els n W j).1 r k r c), r + 1) := by
        have := el_some (n := n) (j := j) (g := els n W j) (by rw [hr, hk]; exact q)
        rw [this, hr, hk]
      rw [e1, e2]
      have hrn : r < n := by have := hf.1; omega
      refine ⟨rfl, fun i => if i = r then (if r < k then (0 - 1) * s k else s r) else if i = k then s r else s i, fun i => ?_, ?_⟩
      · show Sg (if i = r then _ else _)
        have hn : Sg ((0 - 1) * s k) := by
          rcases h2 k with e | e
          · rw [e]; exact Or.inr (by grind)
          · rw [e]; exact Or.inl (by grind)
        split
        · split
          · exact hn
          · exact h2 r
        · split
          · exact h2 r
          · exact h2 i
      · generalize hs' : (fun i => if i = r then (if r < k then (0 - 1) * s k else s r) else if i = k then s r else s i) = s'
        have hB : ∀ i, i < n → ∀ c, c < n → dsw (dls n W j).1 r k i c = s' i * swA (els n W j).1 r k i c := by
          intro i hi c hc
          have hs2 : s' i = if i = r then (if r < k then (0 - 1) * s k else s r) else if i = k then s r else s i := by rw [← hs']
          rw [hs2]
          unfold dsw swA
          by_cases c1 : i = r
          · by_cases c2 : r < k
            · rw [if_pos ⟨c1, c2⟩, if_pos c1, if_pos c2, if_neg (by omega), if_pos c1, h3 k q c hc]
              grind
            · have c3 : r = k := by have := hf.1; omega
              rw [if_neg (by omega), if_neg (by omega), if_pos c1, if_neg c2, if_pos (by omega), c1, h3 r hrn c hc]
          · by_cases c2 : i = k
            · have c3 : r < k := by have := hf.1; omega
              rw [if_neg (by omega), if_pos ⟨c2, c3⟩, if_neg c1, if_pos c2, if_pos c2, h3 r hrn c hc]
            · rw [if_neg (by omega), if_neg (by omega), if_neg c1, if_neg c2, if_neg c2, if_neg c1, h3 i hi c hc]
        have hp : dsw (dls n W j).1 r k r j ≠ 0 := by
          rw [hB r hrn j (by omega)]
          have hss : Sg (s' r) := by
            rw [← hs']
            show Sg (if r = r then _ else _)
            rw [if_pos rfl]
            split
            · rcases h2 k with e | e
              · rw [e]; exact Or.inr (by grind)
              · rw [e]; exact Or.inl (by grind)
            · exact h2 r
          refine fun e => ?_
          have e3 := (Sg_ne hss).mp e
          have e4 : swA (els n W j).1 r k r j = (els n W j).1 k j := by
            unfold swA
            by_cases c1 : r = k
            · rw [if_pos c1, c1]
            · rw [if_neg c1, if_pos rfl]
          rw [e4] at e3
          exact hf.2.2.1 q e3
        intro i hi c hc
        show dlo _ r j i c = s' i * (if i ≤ r then _ else _)
        unfold dlo
        by_cases c1 : r < i
        · rw [if_pos c1, if_neg (by omega), hB i hi c hc, hB i hi j (by omega), hB r hrn c hc, hB r hrn j (by omega)]
          rw [hB r hrn j (by omega)] at hp
          have h9 := iv_sg hp
          generalize iv (s' r * swA (els n W j).1 r k r j) = z at *
          rw [← h9]
          grind
        · rw [if_neg c1, if_pos (by omega), hB i hi c hc]
    · have e1 : dl n (dls n W j) j = ((dls n W j).1, (dls n W j).2.1, 0) := by
        unfold dl
        rw [hff, if_neg q]
      have e2 : el n (els n W j) j = els n W j := el_none (by rw [hr, hk]; exact q)
      rw [e1, e2]
      exact ⟨h1.trans hr.symm, s, h2, h3⟩
theorem drk_rk {n : Nat} {W : Nat → Nat → F} : drk n W = rk n W := (dls_els n (Nat.le_refl n)).1
theorem dsw_dt {n r k : Nat} {A : Nat → Nat → F} (hr : r < n) (hk : k < n) : dt n (dsw A r k) = dt n A := by
  by_cases q : r < k
  · rw [← dt_swp (M := A) hr hk (by omega)]
    refine congrArg (dt n) (funext fun i => funext fun c => ?_)
    unfold dsw
    by_cases c1 : i = r
    · rw [if_pos ⟨c1, q⟩, if_pos c1]
    · rw [if_neg (by omega), if_neg c1]
      by_cases c2 : i = k
      · rw [if_pos ⟨c2, q⟩, if_pos c2]
      · rw [if_neg (by omega), if_neg c2]
  · refine congrArg (dt n) (funext fun i => funext fun c => ?_)
    unfold dsw
    rw [if_neg (by omega), if_neg (by omega)]
theorem dlo_dt {n r j : Nat} {B : Nat → Nat → F} (hr : r < n) : dt n (dlo B r j) = dt n B := dt_low (fun i => B i j * iv (B r j)) hr
theorem dls_dt {n : Nat} {W : Nat → Nat → F} (j : Nat) : j ≤ n → dt n (dls n W j).1 = dt n W := by
  induction j with
  | zero => exact fun _ => rfl
  | succ j ih =>
    intro hj
    rw [← ih (by omega)]
    have hle := dls_le (n := n) (W := W) j
    have hf := ff_is (f := fun i => (dls n W j).1 i j) (n := n) (r := (dls n W j).2.1) (by omega)
    show dt n (dl n (dls n W j) j).1 = _
    unfold dl
    split
    · next q => exact (dlo_dt (by have := hf.1; omega)).trans (dsw_dt (by have := hf.1; omega) q)
    · rfl
theorem dgp_cg {M M' : Nat → Nat → F} (k : Nat) (h : ∀ i, i < k → M i i = M' i i) : dgp M k = dgp M' k := by
  induction k with
  | zero => rfl
  | succ k ih => show dgp M k * M k k = dgp M' k * M' k k; rw [ih (fun i hi => h i (by omega)), h k (by omega)]
theorem dgp_ne {M : Nat → Nat → F} (k : Nat) (h : ∀ i, i < k → M i i ≠ 0) : dgp M k ≠ 0 := by
  induction k with
  | zero => show (1 : F) ≠ 0; decide
  | succ k ih =>
    intro e
    rcases F_mul0 e with e | e
    · exact ih (fun i hi => h i (by omega)) e
    · exact h k (by omega) e
theorem dls_all {n : Nat} {W : Nat → Nat → F} (j : Nat) : j ≤ n → (dls n W j).2.1 = j → (dls n W j).2.2 = dgp (dls n W j).1 j := by
  induction j with
  | zero => exact fun _ _ => rfl
  | succ j ih =>
    intro hj h
    have hle := dls_le (n := n) (W := W) j
    have hf := ff_is (f := fun i => (dls n W j).1 i j) (n := n) (r := (dls n W j).2.1) (by omega)
    have h' : (dl n (dls n W j) j).2.1 = j + 1 := h
    show (dl n (dls n W j) j).2.2 = dgp (dl n (dls n W j) j).1 (j + 1)
    unfold dl at h' ⊢
    by_cases q : ff (fun i => (dls n W j).1 i j) n (dls n W j).2.1 < n
    · rw [if_pos q] at h' ⊢
      have h2 : (dls n W j).2.1 = j := Nat.succ.inj h'
      have h3 := ih (by omega) h2
      generalize (dls n W j).1 = A at *
      rw [h2] at hf q ⊢
      generalize ff (fun i => A i j) n j = k at *
      show (dls n W j).2.2 * dsw A j k j j = dgp (dlo (dsw A j k) j j) j * dlo (dsw A j k) j j j j
      rw [h3, show dlo (dsw A j k) j j j j = dsw A j k j j from if_neg (by omega), dgp_cg j (M := dlo (dsw A j k) j j) (M' := A) (fun i hi => by
        unfold dlo dsw
        have := hf.1
        rw [if_neg (by omega), if_neg (by omega), if_neg (by omega)])]
    · rw [if_neg q] at h'
      have h2 : (dls n W j).2.1 = j + 1 := h'
      omega
theorem dls_tri {n : Nat} {W : Nat → Nat → F} (h : rk n W = n) : dt n W = dgp (dls n W n).1 n ∧ ∀ i, i < n → (dls n W n).1 i i ≠ 0 := by
  obtain ⟨h1, s, h2, h3⟩ := dls_els (n := n) (W := W) n (Nat.le_refl n)
  obtain ⟨-, hz⟩ := els_z (n := n) (A := W) n (Nat.le_refl n)
  obtain ⟨z1, z2⟩ := hz h
  refine ⟨?_, fun i hi e => z1 i hi ((Sg_ne (h2 i)).mp ((h3 i hi i hi).symm.trans e))⟩
  rw [← dls_dt n (Nat.le_refl n)]
  exact dt_tri n _ (fun i hi c hc => by rw [h3 i hi c (by omega), z2 c (by omega) i hc hi]; grind)
theorem dt_ne {n : Nat} {W : Nat → Nat → F} (h : rk n W = n) : dt n W ≠ 0 := by
  obtain ⟨h1, h2⟩ := dls_tri h
  rw [h1]
  exact dgp_ne n h2
/-- what 'at' answers is the determinant -/
theorem dta_dt {n : Nat} {W : Nat → Nat → F} : dta n W = vF (dt n W) := by
  unfold dta
  by_cases q : drk n W = n
  · rw [if_pos q]
    unfold dtv
    have q' : (dls n W n).2.1 = n := q
    rw [if_pos q', dls_all n (Nat.le_refl n) q', (dls_tri (drk_rk.symm.trans q)).1]
  · rw [if_neg q]
    have hl : drk n W < n := Nat.lt_of_le_of_ne drk_le q
    obtain ⟨h1, s, h2, h3⟩ := dls_els (n := n) (W := W) n (Nat.le_refl n)
    obtain ⟨hz, -⟩ := els_z (n := n) (A := W) n (Nat.le_refl n)
    have h4 : dt n (dls n W n).1 = 0 := dt_z hl (fun c hc => by
      rw [h3 _ hl c hc, hz c hc (drk n W) (Nat.le_of_eq h1.symm) hl]
      grind)
    rw [← dls_dt n (Nat.le_refl n), h4]
    rfl
/-! Polynomials at a point. -/
def pw (x : F) : Nat → F
  | 0 => 1
  | k + 1 => pw x k * x
def pe (n : Nat) (C : Nat → F) (x : F) : F := sm (n + 1) (fun k => C k * pw x k)
theorem hor_sm {n : Nat} {C : Nat → F} {x : F} (t : Nat) : t ≤ n + 1 → hor n C x t = sm t (fun k => C (n + 1 - t + k) * pw x k) := by
  induction t with
  | zero => exact fun _ => rfl
  | succ t ih =>
    intro ht
    show hor n C x t * x + C (n - t) = _
    rw [ih (by omega), sm_first, ← sm_mulr]
    have e1 : sm t (fun i => C (n + 1 - (t + 1) + (i + 1)) * pw x (i + 1)) = sm t (fun k => C (n + 1 - t + k) * pw x k * x) := sm_congr (fun k _ => by
      rw [show n + 1 - (t + 1) + (k + 1) = n + 1 - t + k by omega]
      show C _ * (pw x k * x) = _
      grind)
    rw [e1, show n + 1 - (t + 1) + 0 = n - t by omega]
    show _ = C (n - t) * 1 + _
    grind
theorem hor_pe {n : Nat} {C : Nat → F} {x : F} : hor n C x (n + 1) = pe n C x := by
  rw [hor_sm (n + 1) (Nat.le_refl _)]
  exact sm_congr (fun k _ => by rw [Nat.sub_self, Nat.zero_add])
theorem sm_rev {n : Nat} {f : Nat → F} : sm n (fun k => f (n - 1 - k)) = sm n f := by
  induction n generalizing f with
  | zero => rfl
  | succ n ih =>
    rw [sm_first, sm_s]
    have e : sm n (fun i => f (n + 1 - 1 - (i + 1))) = sm n (fun k => f (n - 1 - k)) := sm_congr (fun i _ => by rw [show n + 1 - 1 - (i + 1) = n - 1 - i by omega])
    rw [e, ih, show n + 1 - 1 - 0 = n by omega]
    grind
/-! A square whose determinant is a polynomial's value. -/
def Hx (x : F) (g : Nat → F) (i c : Nat) : F := if i = 0 then g c else if c + 1 = i then 0 - 1 else if c = i then x else 0
theorem dt_Hx {x : F} (n : Nat) : ∀ g : Nat → F, dt (n + 1) (Hx x g) = sm (n + 1) (fun k => g k * pw x (n - k)) := by
  induction n with
  | zero =>
    intro g
    rw [dt_fst (fun i h1 h2 => by omega)]
    show Hx x g 0 0 * 1 = 0 + g 0 * 1
    show (if 0 = 0 then g 0 else _) * 1 = _
    rw [if_pos rfl]
    grind
  | succ n ih =>
    intro g
    have h1 := dt_more (n := n + 2) (M := Hx x g) (i := 0) (j := 1) (a := g 0) (by omega) (by omega) (by omega)
    generalize hM : upr (Hx x g) 0 (fun c => Hx x g 0 c + g 0 * Hx x g 1 c) = M1 at h1
    have h2 := dt_swp (n := n + 2) (M := M1) (i := 0) (j := 1) (by omega) (by omega) (by omega)
    have m1 : ∀ c, M1 0 c = g c + g 0 * Hx x g 1 c := fun c => by rw [← hM]; rfl
    have m2 : ∀ i, i ≠ 0 → M1 i = Hx x g i := fun i hi => by rw [← hM]; exact if_neg hi
    have hx0 : ∀ c, Hx x g 1 c = if c = 0 then 0 - 1 else if c = 1 then x else 0 := fun c => by
      unfold Hx
      rw [if_neg (by omega)]
      by_cases q : c = 0
      · rw [if_pos (by omega), if_pos q]
      · rw [if_neg (by omega), if_neg q]
    rw [dt_fst (fun i i1 i2 => by
      by_cases q : i = 1
      · rw [if_neg (by omega), if_pos q, m1, hx0, if_pos rfl]
        grind
      · rw [if_neg (by omega), if_neg q, m2 i (by omega)]
        unfold Hx
        rw [if_neg (by omega), if_neg (by omega), if_neg (by omega)])] at h2
    have e1 : (if 0 = 0 then (fun c => 0 - M1 1 c) else if 0 = 1 then M1 0 else M1 0) 0 = (1 : F) := by
      rw [if_pos rfl, m2 1 (by omega), hx0, if_pos rfl]
      grind
    rw [e1] at h2
    have e2 : (fun i c => (if i + 1 = 0 then (fun c => 0 - M1 1 c) else if i + 1 = 1 then M1 0 else M1 (i + 1)) (c + 1)) = Hx x (fun c => g (c + 1) + if c = 0 then g 0 * x else 0) := funext fun i => funext fun c => by
      rw [if_neg (by omega)]
      by_cases q : i = 0
      · rw [if_pos (by omega), m1, hx0, if_neg (by omega)]
        unfold Hx
        rw [if_pos q]
        show _ = g (c + 1) + if c = 0 then g 0 * x else 0
        by_cases q2 : c = 0
        · rw [if_pos (by omega), if_pos q2]
        · rw [if_neg (by omega), if_neg q2]
          grind
      · rw [if_neg (by omega), m2 (i + 1) (by omega)]
        unfold Hx
        rw [if_neg (by omega), if_neg q]
        by_cases q2 : c + 1 = i
        · rw [if_pos (by omega), if_pos q2]
        · rw [if_neg (by omega), if_neg q2]
          by_cases q3 : c = i
          · rw [if_pos (by omega), if_pos q3]
          · rw [if_neg (by omega), if_neg q3]
    rw [e2, ih] at h2
    rw [← h1, ← h2, sm_first (n := n + 1)]
    have e3 : sm (n + 1) (fun k => (g (k + 1) + if k = 0 then g 0 * x else 0) * pw x (n - k)) = sm (n + 1) (fun k => g (k + 1) * pw x (n - k)) + sm (n + 1) (fun k => (if k = 0 then g 0 * x else 0) * pw x (n - k)) := by
      rw [← sm_add]
      exact sm_congr (fun k _ => by grind)
    rw [e3, sm_one (n := n + 1) (k := 0) (f := fun k => (if k = 0 then g 0 * x else 0) * pw x (n - k)) (by omega) (fun i _ hi => by show (if i = 0 then g 0 * x else 0) * _ = 0; rw [if_neg hi]; grind), if_pos rfl, show n + 1 - 0 = n + 1 by omega, show n - 0 = n by omega]
    have e4 : sm (n + 1) (fun i => g (i + 1) * pw x (n + 1 - (i + 1))) = sm (n + 1) (fun k => g (k + 1) * pw x (n - k)) := sm_congr (fun k _ => by rw [show n + 1 - (k + 1) = n - k by omega])
    rw [e4]
    show _ = g 0 * (pw x n * x) + _
    grind
