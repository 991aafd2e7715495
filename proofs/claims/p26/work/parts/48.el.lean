/-! ELIMINATION, as it is reckoned: rows, a pivot, and what the rows behind become. -/
def IsF (f : Nat → F) (n r k : Nat) : Prop := r ≤ k ∧ k ≤ n ∧ (k < n → f k ≠ 0) ∧ ∀ i, r ≤ i → i < k → f i = 0
theorem IsF_uniq {f g : Nat → F} {n r k l : Nat} (hk : IsF f n r k) (hl : IsF g n r l) (h : ∀ i, r ≤ i → i < n → f i = g i) : k = l := by
  obtain ⟨k1, k2, k3, k4⟩ := hk
  obtain ⟨l1, l2, l3, l4⟩ := hl
  rcases Nat.lt_trichotomy k l with q | q | q
  · exact absurd ((h k k1 (by omega)).trans (l4 k k1 q)) (k3 (by omega))
  · exact q
  · exact absurd ((h l l1 (by omega)).symm.trans (k4 l l1 q)) (l3 (by omega))
def ffu (f : Nat → F) (r : Nat) : Nat → Nat
  | 0 => r
  | t + 1 => if f r = 0 then ffu f (r + 1) t else r
theorem ffu_is (f : Nat → F) (t : Nat) : ∀ r, IsF f (r + t) r (ffu f r t) := by
  induction t with
  | zero => intro r; exact ⟨Nat.le_refl _, Nat.le_refl _, fun h => absurd h (Nat.lt_irrefl _), fun i h h' => absurd (Nat.lt_of_le_of_lt h h') (Nat.lt_irrefl _)⟩
  | succ t ih =>
    intro r
    show IsF f (r + (t + 1)) r (if f r = 0 then ffu f (r + 1) t else r)
    by_cases q : f r = 0
    · rw [if_pos q]
      obtain ⟨h1, h2, h3, h4⟩ := ih (r + 1)
      refine ⟨by omega, by omega, fun h => h3 (by omega), fun i hi hlt => ?_⟩
      by_cases e : i = r
      · rw [e]; exact q
      · exact h4 i (by omega) hlt
    · rw [if_neg q]
      exact ⟨Nat.le_refl _, by omega, fun _ => q, fun i h h' => by omega⟩
def ff (f : Nat → F) (n r : Nat) : Nat := ffu f r (n - r)
theorem ff_is {f : Nat → F} {n r : Nat} (h : r ≤ n) : IsF f n r (ff f n r) := by
  have := ffu_is f (n - r) r
  rw [show r + (n - r) = n by omega] at this
  exact this
def swA (A : Nat → Nat → F) (r k : Nat) : Nat → Nat → F := fun i => if i = k then A r else if i = r then A k else A i
/-- one column: where it has a pivot from row r on, that row comes to r, and the rows behind it lose the column -/
def el (n : Nat) (g : (Nat → Nat → F) × Nat) (j : Nat) : (Nat → Nat → F) × Nat :=
  let k := ff (fun i => g.1 i j) n g.2
  if k < n then ((fun i c => if i ≤ g.2 then swA g.1 g.2 k i c else swA g.1 g.2 k i c - swA g.1 g.2 k i j * iv (swA g.1 g.2 k g.2 j) * swA g.1 g.2 k g.2 c), g.2 + 1) else g
def els (n : Nat) (A : Nat → Nat → F) : Nat → (Nat → Nat → F) × Nat
  | 0 => (A, 0)
  | j + 1 => el n (els n A j) j
def rk (n : Nat) (A : Nat → Nat → F) : Nat := (els n A n).2
theorem el_none {n j : Nat} {g : (Nat → Nat → F) × Nat} (h : ¬ ff (fun i => g.1 i j) n g.2 < n) : el n g j = g := if_neg h
theorem el_some {n j : Nat} {g : (Nat → Nat → F) × Nat} (h : ff (fun i => g.1 i j) n g.2 < n) : el n g j = ((fun i c => if i ≤ g.2 then swA g.1 g.2 (ff (fun i => g.1 i j) n g.2) i c else swA g.1 g.2 (ff (fun i => g.1 i j) n g.2) i c - swA g.1 g.2 (ff (fun i => g.1 i j) n g.2) i j * iv (swA g.1 g.2 (ff (fun i => g.1 i j) n g.2) g.2 j) * swA g.1 g.2 (ff (fun i => g.1 i j) n g.2) g.2 c), g.2 + 1) := if_pos h
theorem els_le {n : Nat} {A : Nat → Nat → F} (j : Nat) : j ≤ n → (els n A j).2 ≤ j := by
  induction j with
  | zero => intro _; exact Nat.le_refl 0
  | succ j ih =>
    intro hj
    show (el n (els n A j) j).2 ≤ j + 1
    have := ih (by omega)
    by_cases h : ff (fun i => (els n A j).1 i j) n (els n A j).2 < n
    · rw [el_some h]
      show (els n A j).2 + 1 ≤ j + 1
      omega
    · rw [el_none h]
      omega
theorem rk_le {n : Nat} {A : Nat → Nat → F} : rk n A ≤ n := els_le n (Nat.le_refl n)
theorem dot_scale {n : Nat} {a : F} {f g : Nat → F} : dot n (fun c => a * f c) g = a * dot n f g := by
  unfold dot
  rw [← sm_mul]
  exact sm_congr (fun i _ => by grind)
theorem dot_less {n : Nat} {a : F} {f g x : Nat → F} : dot n (fun c => f c - a * g c) x = dot n f x - a * dot n g x := by
  induction n with
  | zero => rw [dot_0, dot_0, dot_0]; grind
  | succ n ih => rw [dot_s, dot_s, dot_s, ih]; grind
/-- x solves the n equations whose right sides stand behind -/
def Sat (n : Nat) (M : Nat → Nat → F) (x : Nat → F) : Prop := ∀ i, i < n → dot n (M i) x = M i n
theorem Sat_congr {n : Nat} {M M' : Nat → Nat → F} {x : Nat → F} (h : ∀ i, i < n → ∀ c, c ≤ n → M i c = M' i c) : Sat n M x ↔ Sat n M' x := by
  refine ⟨fun s i hi => ?_, fun s i hi => ?_⟩
  · rw [← h i hi n (Nat.le_refl n), ← s i hi]
    exact dot_congr (fun c hc => (h i hi c (by omega)).symm) (fun _ _ => rfl)
  · rw [h i hi n (Nat.le_refl n), ← s i hi]
    exact dot_congr (fun c hc => h i hi c (by omega)) (fun _ _ => rfl)
theorem Sat_sw {n r k : Nat} {M : Nat → Nat → F} {x : Nat → F} (hr : r < n) (hk : k < n) : Sat n (swA M r k) x ↔ Sat n M x := by
  refine ⟨fun s i hi => ?_, fun s i hi => ?_⟩
  · by_cases c1 : i = k
    · have := s r hr
      unfold swA at this
      by_cases c2 : r = k
      · rw [if_pos c2] at this
        rw [c1, ← c2]
        exact this
      · rw [if_neg c2, if_pos rfl] at this
        rw [c1]
        exact this
    · by_cases c2 : i = r
      · have := s k hk
        unfold swA at this
        rw [if_pos rfl] at this
        rw [c2]
        exact this
      · have := s i hi
        unfold swA at this
        rw [if_neg c1, if_neg c2] at this
        exact this
  · unfold swA
    by_cases c1 : i = k
    · rw [if_pos c1]
      exact s r hr
    · rw [if_neg c1]
      by_cases c2 : i = r
      · rw [if_pos c2]
        exact s k hk
      · rw [if_neg c2]
        exact s i hi
/-- the step of Gauss and Jordan at row r, column j -/
def gj (M : Nat → Nat → F) (r j : Nat) : Nat → Nat → F := fun i c => if i = r then iv (M r j) * M r c else M i c - M i j * (iv (M r j) * M r c)
theorem Sat_gj {n r j : Nat} {M : Nat → Nat → F} {x : Nat → F} (hr : r < n) (h : M r j ≠ 0) : Sat n (gj M r j) x ↔ Sat n M x := by
  have hv := iv_l h
  have e1 : ∀ i, i = r → dot n (gj M r j i) x = iv (M r j) * dot n (M r) x := fun i e => by
    rw [show gj M r j i = fun c => iv (M r j) * M r c from funext fun c => if_pos e]
    exact dot_scale
  have e2 : ∀ i, i ≠ r → dot n (gj M r j i) x = dot n (M i) x - M i j * (iv (M r j) * dot n (M r) x) := fun i e => by
    rw [show gj M r j i = fun c => M i c - M i j * (iv (M r j) * M r c) from funext fun c => if_neg e, dot_less (g := fun c => iv (M r j) * M r c), dot_scale]
  refine ⟨fun s => ?_, fun s i hi => ?_⟩
  · have s0 : dot n (M r) x = M r n := by
      have := s r hr
      rw [e1 r rfl, show gj M r j r n = iv (M r j) * M r n from if_pos rfl] at this
      have h3 : M r j * (iv (M r j) * dot n (M r) x) = M r j * (iv (M r j) * M r n) := by rw [this]
      grind
    intro i hi
    by_cases e : i = r
    · rw [e]; exact s0
    · have := s i hi
      rw [e2 i e, show gj M r j i n = M i n - M i j * (iv (M r j) * M r n) from if_neg e, s0] at this
      grind
  · by_cases e : i = r
    · rw [e1 i e, show gj M r j i n = iv (M r j) * M r n from if_pos e, s r hr]
    · rw [e2 i e, show gj M r j i n = M i n - M i j * (iv (M r j) * M r n) from if_neg e, s r hr, s i hi]
/-- ones where row and column are the same, in the first columns -/
def Idc (n j : Nat) (M : Nat → Nat → F) : Prop := ∀ c, c < j → ∀ i, i < n → M i c = if i = c then 1 else 0
theorem Idc_gj {n j k : Nat} {M : Nat → Nat → F} (h : Idc n j M) (hj : j < n) (hk : j ≤ k) (hkn : k < n) (hp : M k j ≠ 0) : Idc n (j + 1) (gj (swA M j k) j j) := by
  have hp' : swA M j k j j ≠ 0 := by
    unfold swA
    by_cases c : j = k
    · rw [if_pos c]; rw [← c] at hp; exact hp
    · rw [if_neg c, if_pos rfl]; exact hp
  have hb : ∀ c, c < j → ∀ i, i < n → swA M j k i c = if i = c then 1 else 0 := fun c hc i hi => by
    unfold swA
    by_cases c1 : i = k
    · rw [if_pos c1, h c hc j hj, if_neg (by omega), if_neg (by omega)]
    · rw [if_neg c1]
      by_cases c2 : i = j
      · rw [if_pos c2, h c hc k hkn, if_neg (by omega), if_neg (by omega)]
      · rw [if_neg c2]
        exact h c hc i hi
  have hv := iv_l hp'
  intro c hc i hi
  unfold gj
  by_cases e : c = j
  · subst e
    by_cases q : i = c
    · rw [if_pos q, if_pos q]
      exact hv
    · rw [if_neg q, if_neg q, hv]
      grind
  · have h1 := hb c (by omega) j hj
    rw [if_neg (by omega)] at h1
    by_cases q : i = j
    · rw [if_pos q, if_neg (by omega), h1]
      grind
    · rw [if_neg q, h1, hb c (by omega) i hi]
      grind
theorem dot_unit {n i : Nat} {x : Nat → F} (hi : i < n) : dot n (fun c => if i = c then 1 else 0) x = x i := by
  have key : ∀ k, dot k (fun c => if i = c then 1 else 0) x = if i < k then x i else 0 := by
    intro k
    induction k with
    | zero => rfl
    | succ k ih =>
      rw [dot_s, ih]
      by_cases q : i < k
      · rw [if_pos q, if_neg (by omega), if_pos (by omega)]
        grind
      · rw [if_neg q]
        by_cases e : i = k
        · rw [if_pos e, if_pos (by omega), e]
          grind
        · rw [if_neg e, if_neg (by omega)]
          grind
  rw [key n, if_pos hi]
theorem Sat_id {n : Nat} {M : Nat → Nat → F} {x : Nat → F} (h : Idc n n M) : Sat n M x ↔ ∀ i, i < n → x i = M i n := by
  have e : ∀ i, i < n → dot n (M i) x = x i := fun i hi => by
    rw [← dot_unit (x := x) hi]
    exact dot_congr (fun c hc => h c hc i hi) (fun _ _ => rfl)
  exact ⟨fun s i hi => (e i hi).symm.trans (s i hi), fun s i hi => (e i hi).trans (s i hi)⟩
/-- the rows behind are what the elimination makes of them -/
theorem gj_el {n j k : Nat} {M : Nat → Nat → F} {g : (Nat → Nat → F) × Nat} (hr : g.2 ≤ n) (hj : j < n) (hM : ∀ i, g.2 ≤ i → i < n → ∀ c, c < n → M i c = g.1 i c) (hk : IsF (fun i => M i j) n g.2 k) :
    (k < n → (el n g j).2 = g.2 + 1 ∧ ∀ i, g.2 + 1 ≤ i → i < n → ∀ c, c < n → gj (swA M g.2 k) g.2 j i c = (el n g j).1 i c) ∧ (¬ k < n → el n g j = g) := by
  have e : k = ff (fun i => g.1 i j) n g.2 := IsF_uniq hk (ff_is hr) (fun i h1 h2 => hM i h1 h2 j hj)
  refine ⟨fun h => ?_, fun h => el_none (by rw [← e]; exact h)⟩
  rw [e] at h
  rw [el_some h, ← e]
  rw [← e] at h
  refine ⟨rfl, fun i h1 h2 c hc => ?_⟩
  have hs : ∀ i, g.2 ≤ i → i < n → ∀ c, c < n → swA M g.2 k i c = swA g.1 g.2 k i c := fun i h1 h2 c hc => by
    unfold swA
    by_cases c1 : i = k
    · rw [if_pos c1, if_pos c1]
      exact hM _ (Nat.le_refl _) (by omega) c hc
    · rw [if_neg c1, if_neg c1]
      by_cases c2 : i = g.2
      · rw [if_pos c2, if_pos c2]
        exact hM k hk.1 h c hc
      · rw [if_neg c2, if_neg c2]
        exact hM i h1 h2 c hc
  show (if i = g.2 then _ else _) = (if i ≤ g.2 then _ else _)
  rw [if_neg (by omega), if_neg (by omega), hs i (by omega) h2 c hc, hs i (by omega) h2 j hj, hs g.2 (Nat.le_refl _) (by omega) c hc, hs g.2 (Nat.le_refl _) (by omega) j hj]
  grind
