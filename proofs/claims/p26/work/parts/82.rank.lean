/-! RANK and kernel. -/
def upx (x : Nat → F) (k : Nat) (v : F) : Nat → F := fun c => if c = k then v else x c
theorem dot_upx {n k : Nat} {f x : Nat → F} {v : F} (hk : k < n) : dot n f (upx x k v) = dot n f x + f k * (v - x k) := by
  have key : ∀ l, dot l f (upx x k v) = dot l f x + if k < l then f k * (v - x k) else 0 := by
    intro l
    induction l with
    | zero => show (0 : F) = 0 + if k < 0 then _ else 0; rw [if_neg (by omega)]; grind
    | succ l ih =>
      rw [dot_s, dot_s, ih]
      unfold upx
      by_cases e : l = k
      · rw [if_pos e, if_neg (by omega), if_pos (by omega), e]; grind
      · rw [if_neg e]
        by_cases q : k < l
        · rw [if_pos q, if_pos (by omega)]; grind
        · rw [if_neg q, if_neg (by omega)]; grind
  rw [key n, if_pos hk]
theorem dot_zero_l {n : Nat} {f x : Nat → F} (h : ∀ c, c < n → f c = 0 ∨ x c = 0) : dot n f x = 0 :=
  sm_zero (fun c hc => by rcases h c hc with e | e <;> rw [e] <;> grind)
/-- a triangle can be solved -/
theorem tri_ex {n j : Nat} {T : Nat → Nat → F} (hj : j ≤ n) (hd : ∀ c, c < j → T c c ≠ 0) (hl : ∀ c, c < j → ∀ i, c < i → i < j → T i c = 0) (z ρ : Nat → F) : ∃ x, (∀ c, j ≤ c → x c = z c) ∧ ∀ i, i < j → dot n (T i) x = ρ i := by
  have key : ∀ t, t ≤ j → ∃ x, (∀ c, j ≤ c → x c = z c) ∧ ∀ i, j - t ≤ i → i < j → dot n (T i) x = ρ i := by
    intro t
    induction t with
    | zero => exact fun _ => ⟨z, fun _ _ => rfl, fun i h1 h2 => by omega⟩
    | succ t ih =>
      intro ht
      obtain ⟨x, h1, h2⟩ := ih (by omega)
      have hk : j - (t + 1) < j := by omega
      generalize hkk : j - (t + 1) = k at hk
      have hv := iv_r (hd k hk)
      refine ⟨upx x k (x k + iv (T k k) * (ρ k - dot n (T k) x)), fun c hc => ?_, fun i hi hij => ?_⟩
      · unfold upx
        rw [if_neg (by omega)]
        exact h1 c hc
      · rw [dot_upx (by omega)]
        by_cases e : i = k
        · rw [e]
          have : T k k * (x k + iv (T k k) * (ρ k - dot n (T k) x) - x k) = T k k * iv (T k k) * (ρ k - dot n (T k) x) := by grind
          rw [this, hv]
          grind
        · rw [hl k hk i (by omega) hij, h2 i (by omega) hij]
          grind
  obtain ⟨x, h1, h2⟩ := key j (Nat.le_refl j)
  exact ⟨x, h1, fun i hi => h2 i (by omega) hi⟩
theorem sw_all {P : (Nat → F) → Prop} {n r k : Nat} {M : Nat → Nat → F} (hr : r < n) (hk : k < n) : (∀ i, i < n → P (swA M r k i)) ↔ ∀ i, i < n → P (M i) := by
  refine ⟨fun s i hi => ?_, fun s i hi => ?_⟩
  · by_cases c1 : i = k
    · have := s r hr
      unfold swA at this
      by_cases c2 : r = k
      · rw [if_pos c2] at this
        rw [c1, ← c2]
        exact this
      · rw [if_neg c2, if_pos rfl] at this
        rw [c1]
        exact this
    · by_cases c2 : i = r
      · have := s k hk
        unfold swA at this
        rw [if_pos rfl] at this
        rw [c2]
        exact this
      · have := s i hi
        unfold swA at this
        rw [if_neg c1, if_neg c2] at this
        exact this
  · unfold swA
    by_cases c1 : i = k
    · rw [if_pos c1]
      exact s r hr
    · rw [if_neg c1]
      by_cases c2 : i = r
      · rw [if_pos c2]
        exact s k hk
      · rw [if_neg c2]
        exact s i hi
def LinF (L : (Nat → F) → F) : Prop := ∀ f g a, L (fun c => f c - a * g c) = L f - a * L g
theorem LinF_dot {n : Nat} {x : Nat → F} : LinF (fun f => dot n f x) := fun _ _ _ => dot_less
theorem LinF_sat {n : Nat} {x : Nat → F} : LinF (fun f => dot n f x - f n) := fun f g a => by
  show dot n (fun c => f c - a * g c) x - (f n - a * g n) = (dot n f x - f n) - a * (dot n g x - g n)
  rw [dot_less]
  grind
theorem el_lin {L : (Nat → F) → F} (hL : LinF L) {n j : Nat} {g : (Nat → Nat → F) × Nat} (hg : g.2 ≤ n) : (∀ i, i < n → L ((el n g j).1 i) = 0) ↔ ∀ i, i < n → L (g.1 i) = 0 := by
  by_cases q : ff (fun i => g.1 i j) n g.2 < n
  · have hf := ff_is (f := fun i => g.1 i j) hg
    rw [← sw_all (P := fun f => L f = 0) (M := g.1) (r := g.2) (k := ff (fun i => g.1 i j) n g.2) (Nat.lt_of_le_of_lt hf.1 q) q, el_some q]
    generalize ff (fun i => g.1 i j) n g.2 = k at *
    have hrn : g.2 < n := Nat.lt_of_le_of_lt hf.1 q
    have e1 : ∀ i, i ≤ g.2 → (fun c => if i ≤ g.2 then swA g.1 g.2 k i c else swA g.1 g.2 k i c - swA g.1 g.2 k i j * iv (swA g.1 g.2 k g.2 j) * swA g.1 g.2 k g.2 c) = swA g.1 g.2 k i := fun i hi => funext fun c => if_pos hi
    have e2 : ∀ i, ¬ i ≤ g.2 → (fun c => if i ≤ g.2 then swA g.1 g.2 k i c else swA g.1 g.2 k i c - swA g.1 g.2 k i j * iv (swA g.1 g.2 k g.2 j) * swA g.1 g.2 k g.2 c) = fun c => swA g.1 g.2 k i c - swA g.1 g.2 k i j * iv (swA g.1 g.2 k g.2 j) * swA g.1 g.2 k g.2 c := fun i hi => funext fun c => if_neg hi
    refine ⟨fun s => ?_, fun s i hi => ?_⟩
    · have s0 : L (swA g.1 g.2 k g.2) = 0 := by
        have := s g.2 hrn
        rw [← e1 g.2 (Nat.le_refl _)]
        exact this
      intro i hi
      have := s i hi
      by_cases c : i ≤ g.2
      · rw [← e1 i c]
        exact this
      · have h3 : L (fun c => swA g.1 g.2 k i c - swA g.1 g.2 k i j * iv (swA g.1 g.2 k g.2 j) * swA g.1 g.2 k g.2 c) = 0 := by
          rw [← e2 i c]
          exact this
        rw [hL, s0] at h3
        grind
    · show L (fun c => if i ≤ g.2 then swA g.1 g.2 k i c else swA g.1 g.2 k i c - swA g.1 g.2 k i j * iv (swA g.1 g.2 k g.2 j) * swA g.1 g.2 k g.2 c) = 0
      by_cases c : i ≤ g.2
      · rw [e1 i c]
        exact s i hi
      · rw [e2 i c, hL, s i hi, s g.2 hrn]
        grind
  · rw [el_none q]
theorem els_lin {L : (Nat → F) → F} (hL : LinF L) {n : Nat} {A : Nat → Nat → F} (j : Nat) : j ≤ n → ((∀ i, i < n → L ((els n A j).1 i) = 0) ↔ ∀ i, i < n → L (A i) = 0) := by
  induction j with
  | zero => exact fun _ => Iff.rfl
  | succ j ih =>
    intro hj
    have := els_le (n := n) (A := A) j (by omega)
    exact (el_lin hL (by omega)).trans (ih (by omega))
/-- ahead of column j: the rows from the rank on are 0 there; where all had pivots, a triangle -/
theorem els_z {n : Nat} {A : Nat → Nat → F} (j : Nat) : j ≤ n → (∀ c, c < j → ∀ i, (els n A j).2 ≤ i → i < n → (els n A j).1 i c = 0) ∧ ((els n A j).2 = j → (∀ c, c < j → (els n A j).1 c c ≠ 0) ∧ ∀ c, c < j → ∀ i, c < i → i < n → (els n A j).1 i c = 0) := by
  induction j with
  | zero => exact fun _ => ⟨fun c hc => absurd hc (Nat.not_lt_zero c), fun _ => ⟨fun c hc => absurd hc (Nat.not_lt_zero c), fun c hc => absurd hc (Nat.not_lt_zero c)⟩⟩
  | succ j ih =>
    intro hj
    obtain ⟨h1, h2⟩ := ih (by omega)
    have hle := els_le (n := n) (A := A) j (by omega)
    have hf := ff_is (f := fun i => (els n A j).1 i j) (n := n) (r := (els n A j).2) (by omega)
    show (∀ c, c < j + 1 → ∀ i, (el n (els n A j) j).2 ≤ i → i < n → (el n (els n A j) j).1 i c = 0) ∧ ((el n (els n A j) j).2 = j + 1 → (∀ c, c < j + 1 → (el n (els n A j) j).1 c c ≠ 0) ∧ ∀ c, c < j + 1 → ∀ i, c < i → i < n → (el n (els n A j) j).1 i c = 0)
    by_cases q : ff (fun i => (els n A j).1 i j) n (els n A j).2 < n
    · rw [el_some q]
      generalize ff (fun i => (els n A j).1 i j) n (els n A j).2 = k at *
      generalize hT : (els n A j).1 = T at *
      generalize hR : (els n A j).2 = r at *
      have hk1 := hf.1
      have hp : T k j ≠ 0 := hf.2.2.1 q
      have hsr : swA T r k r = T k := by
        unfold swA
        by_cases c : r = k
        · rw [if_pos c, c]
        · rw [if_neg c, if_pos rfl]
      have hs0 : ∀ c, c < j → ∀ i, r ≤ i → i < n → swA T r k i c = 0 := fun c hc i hi hin => by
        unfold swA
        split
        · exact h1 c hc r (Nat.le_refl r) (by omega)
        · split
          · exact h1 c hc k hk1 q
          · exact h1 c hc i hi hin
      have hsl : ∀ c i, i < r → swA T r k i c = T i c := fun c i hi => by
        unfold swA
        rw [if_neg (by omega), if_neg (by omega)]
      have hcl : ∀ c, c < j + 1 → ∀ i, r < i → i < n → (if i ≤ r then swA T r k i c else swA T r k i c - swA T r k i j * iv (swA T r k r j) * swA T r k r c) = 0 := fun c hc i hi hin => by
        rw [if_neg (by omega), hsr]
        by_cases e : c = j
        · rw [e]
          have := iv_l hp
          grind
        · rw [hs0 c (by omega) i (by omega) hin, h1 c (by omega) k hk1 q]
          grind
      refine ⟨fun c hc i hi hin => hcl c hc i hi hin, fun hr1 => ?_⟩
      have hrj : r = j := by
        have : r + 1 = j + 1 := hr1
        omega
      subst hrj
      obtain ⟨h3, h4⟩ := h2 rfl
      refine ⟨fun c hc => ?_, fun c hc i hi hin => ?_⟩
      · show (if c ≤ r then swA T r k c c else _) ≠ 0
        rw [if_pos (by omega)]
        by_cases e : c = r
        · rw [e, hsr]
          exact hp
        · rw [hsl c c (by omega)]
          exact h3 c (by omega)
      · by_cases e : i ≤ r
        · show (if i ≤ r then swA T r k i c else _) = 0
          rw [if_pos e]
          by_cases e2 : i = r
          · rw [e2]
            exact hs0 c (by omega) r (Nat.le_refl r) (by omega)
          · rw [hsl c i (by omega)]
            exact h4 c (by omega) i hi hin
        · exact hcl c hc i (by omega) hin
    · rw [el_none q]
      have hz : ∀ i, (els n A j).2 ≤ i → i < n → (els n A j).1 i j = 0 := fun i hi hin => hf.2.2.2 i hi (by have := hf.2.1; omega)
      refine ⟨fun c hc i hi hin => ?_, fun hr => by omega⟩
      by_cases e : c = j
      · rw [e]
        exact hz i hi hin
      · exact h1 c (by omega) i hi hin
theorem els_up {n : Nat} {A : Nat → Nat → F} (j : Nat) : (els n A j).2 ≤ (els n A (j + 1)).2 ∧ (els n A (j + 1)).2 ≤ (els n A j).2 + 1 := by
  show (els n A j).2 ≤ (el n (els n A j) j).2 ∧ (el n (els n A j) j).2 ≤ (els n A j).2 + 1
  by_cases q : ff (fun i => (els n A j).1 i j) n (els n A j).2 < n
  · rw [el_some q]
    exact ⟨Nat.le_succ _, Nat.le_refl _⟩
  · rw [el_none q]
    exact ⟨Nat.le_refl _, Nat.le_succ _⟩
theorem els_all {n : Nat} {A : Nat → Nat → F} (h : rk n A = n) {j : Nat} (hj : j ≤ n) : (els n A j).2 = j := by
  have key : ∀ t, t ≤ n → n - t ≤ (els n A (n - t)).2 := by
    intro t
    induction t with
    | zero => exact fun _ => Nat.le_of_eq h.symm
    | succ t ih =>
      intro ht
      have h1 := ih (by omega)
      have h2 := (els_up (n := n) (A := A) (n - (t + 1))).2
      rw [show n - (t + 1) + 1 = n - t by omega] at h2
      omega
  have h1 := key (n - j) (by omega)
  rw [show n - (n - j) = j by omega] at h1
  have h2 := els_le (n := n) (A := A) j hj
  omega
/-- the rank, by vectors of the kernel: none below r, and one with each further leading place -/
theorem rk_is {n r : Nat} {M : Nat → Nat → F} (hr : r ≤ n) (ha : ∀ x : Nat → F, (∀ c, r ≤ c → x c = 0) → (∀ i, i < n → dot n (M i) x = 0) → ∀ c, c < r → x c = 0) (hb : ∀ j, r ≤ j → j < n → ∃ x : Nat → F, x j ≠ 0 ∧ (∀ c, j < c → x c = 0) ∧ ∀ i, i < n → dot n (M i) x = 0) : rk n M = r := by
  have h1 : ∀ j, j ≤ r → (els n M j).2 = j := by
    intro j
    induction j with
    | zero => exact fun _ => rfl
    | succ j ih =>
      intro hj
      have hrj := ih (by omega)
      show (el n (els n M j) j).2 = j + 1
      by_cases q : ff (fun i => (els n M j).1 i j) n (els n M j).2 < n
      · rw [el_some q]
        show (els n M j).2 + 1 = j + 1
        rw [hrj]
      · exfalso
        have hf := ff_is (f := fun i => (els n M j).1 i j) (n := n) (r := (els n M j).2) (by omega)
        obtain ⟨z1, z2⟩ := els_z (n := n) (A := M) j (by omega)
        obtain ⟨z3, z4⟩ := z2 hrj
        obtain ⟨x, x1, x2⟩ := tri_ex (n := n) (j := j) (T := (els n M j).1) (by omega) z3 (fun c hc i hi hij => z4 c hc i hi (by omega)) (upx (fun _ => 0) j 1) (fun _ => 0)
        have hk : ∀ i, i < n → dot n ((els n M j).1 i) x = 0 := fun i hi => by
          by_cases c : i < j
          · exact x2 i c
          · refine dot_zero_l (fun c hc => ?_)
            by_cases e : c < j
            · exact Or.inl (z1 c e i (by omega) hi)
            · by_cases e2 : c = j
              · left
                rw [e2]
                exact hf.2.2.2 i (by omega) (by have := hf.2.1; omega)
              · right
                rw [x1 c (by omega)]
                exact if_neg e2
        have h0 := ha x (fun c hc => by rw [x1 c (by omega)]; exact if_neg (by omega)) ((els_lin (LinF_dot (n := n) (x := x)) j (by omega)).mp hk) j (by omega)
        rw [x1 j (Nat.le_refl j)] at h0
        have h01 : (1 : F) = 0 := (if_pos rfl).symm.trans h0
        exact absurd h01 (by decide)
  have h2 : ∀ t, r + t ≤ n → (els n M (r + t)).2 = r := by
    intro t
    induction t with
    | zero => exact fun _ => h1 r (Nat.le_refl r)
    | succ t ih =>
      intro ht
      have hrj := ih (by omega)
      show (el n (els n M (r + t)) (r + t)).2 = r
      by_cases q : ff (fun i => (els n M (r + t)).1 i (r + t)) n (els n M (r + t)).2 < n
      · exfalso
        have hf := ff_is (f := fun i => (els n M (r + t)).1 i (r + t)) (n := n) (r := (els n M (r + t)).2) (by omega)
        have hp := hf.2.2.1 q
        have hk1 := hf.1
        obtain ⟨z1, z2⟩ := els_z (n := n) (A := M) (r + t) (by omega)
        obtain ⟨x, x1, x2, x3⟩ := hb (r + t) (by omega) (by omega)
        have hk := (els_lin (LinF_dot (n := n) (x := x)) (r + t) (by omega)).mpr x3 _ q
        generalize ff (fun i => (els n M (r + t)).1 i (r + t)) n (els n M (r + t)).2 = k at *
        have e : dot n ((els n M (r + t)).1 k) x = (els n M (r + t)).1 k (r + t) * x (r + t) := by
          have := dot_upx (n := n) (k := r + t) (f := (els n M (r + t)).1 k) (x := x) (v := 0) (by omega)
          rw [dot_zero_l (f := (els n M (r + t)).1 k) (x := upx x (r + t) 0) (fun c hc => by
            by_cases e1 : c < r + t
            · exact Or.inl (z1 c e1 k hk1 q)
            · right
              unfold upx
              by_cases e2 : c = r + t
              · exact if_pos e2
              · rw [if_neg e2]
                exact x2 c (by omega))] at this
          grind
        have hk' : dot n ((els n M (r + t)).1 k) x = 0 := hk
        rw [e] at hk'
        rcases F_mul0 hk' with w | w
        · exact hp w
        · exact x1 w
      · rw [el_none q]
        exact hrj
  have := h2 (n - r) (by omega)
  rw [show r + (n - r) = n by omega] at this
  exact this
/-- full rank: the kernel is 0 -/
theorem rk_ker {n : Nat} {M : Nat → Nat → F} (h : rk n M = n) {x : Nat → F} (hx : ∀ i, i < n → dot n (M i) x = 0) : ∀ c, c < n → x c = 0 := by
  obtain ⟨z1, z2⟩ := els_z (n := n) (A := M) n (Nat.le_refl n)
  obtain ⟨z3, z4⟩ := z2 (els_all h (Nat.le_refl n))
  have hk := (els_lin (LinF_dot (n := n) (x := x)) n (Nat.le_refl n)).mpr hx
  have key : ∀ t, t ≤ n → ∀ c, n - t ≤ c → c < n → x c = 0 := by
    intro t
    induction t with
    | zero => intro _ c h1 h2; omega
    | succ t ih =>
      intro ht c h1 h2
      by_cases e : n - t ≤ c
      · exact ih (by omega) c e h2
      · have hc := hk c h2
        have e2 : dot n ((els n M n).1 c) x = (els n M n).1 c c * x c := by
          have := dot_upx (n := n) (k := c) (f := (els n M n).1 c) (x := x) (v := 0) h2
          rw [dot_zero_l (f := (els n M n).1 c) (x := upx x c 0) (fun c' hc' => by
            by_cases e1 : c' < c
            · exact Or.inl (z4 c' (by omega) c e1 h2)
            · right
              unfold upx
              by_cases e2 : c' = c
              · exact if_pos e2
              · rw [if_neg e2]
                exact ih (by omega) c' (by omega) hc')] at this
          grind
        have hc' : dot n ((els n M n).1 c) x = 0 := hc
        rw [e2] at hc'
        rcases F_mul0 hc' with w | w
        · exact absurd w (z3 c h2)
        · exact w
  exact fun c hc => key n (Nat.le_refl n) c (by omega) hc
theorem rk_full {n : Nat} {M : Nat → Nat → F} : rk n M = n ↔ ∀ x : Nat → F, (∀ i, i < n → dot n (M i) x = 0) → ∀ c, c < n → x c = 0 :=
  ⟨fun h _ hx => rk_ker h hx, fun h => rk_is (Nat.le_refl n) (fun x _ hx => h x hx) (fun j h1 h2 => by omega)⟩
theorem rk_uniq {n : Nat} {M : Nat → Nat → F} (h : rk n M = n) {x y : Nat → F} (hx : ∀ i, i < n → dot n (M i) x = dot n (M i) y) : ∀ c, c < n → x c = y c := by
  intro c hc
  have := rk_ker h (x := fun c => x c - 1 * y c) (fun i hi => by
    have h1 := hx i hi
    have h2 : dot n (M i) (fun c => x c - 1 * y c) = dot n (fun c => x c - 1 * y c) (M i) := dot_comm _ _ _
    rw [h2, dot_less, dot_comm n x, dot_comm n y, h1]
    grind) c hc
  grind
/-- full rank: every right side has a solution -/
theorem rk_ex {n : Nat} {M : Nat → Nat → F} (h : rk n M = n) (ρ : Nat → F) : ∃ x, ∀ i, i < n → dot n (M i) x = ρ i := by
  have h' : rk n (fun i c => if c = n then ρ i else M i c) = n := (rk_congr (fun i _ c hc => if_neg (by omega))).trans h
  obtain ⟨z1, z2⟩ := els_z (n := n) (A := fun i c => if c = n then ρ i else M i c) n (Nat.le_refl n)
  obtain ⟨z3, z4⟩ := z2 (els_all h' (Nat.le_refl n))
  obtain ⟨x, x1, x2⟩ := tri_ex (n := n) (j := n) (Nat.le_refl n) z3 (fun c hc i hi hin => z4 c hc i hi hin) (fun _ => 0) (fun i => (els n (fun i c => if c = n then ρ i else M i c) n).1 i n)
  have hk := (els_lin (LinF_sat (n := n) (x := x)) n (Nat.le_refl n)).mp (fun i hi => by
    show dot n ((els n (fun i c => if c = n then ρ i else M i c) n).1 i) x - (els n (fun i c => if c = n then ρ i else M i c) n).1 i n = 0
    rw [x2 i hi]
    grind)
  refine ⟨x, fun i hi => ?_⟩
  have h3 : dot n (fun c => if c = n then ρ i else M i c) x - (if n = n then ρ i else M i n) = 0 := hk i hi
  rw [if_pos rfl] at h3
  have h4 : dot n (fun c => if c = n then ρ i else M i c) x = dot n (M i) x := dot_congr (fun c hc => if_neg (by omega)) (fun _ _ => rfl)
  rw [h4] at h3
  grind
