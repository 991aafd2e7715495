/-! CAYLEY AND HAMILTON for all: a line of squares through one that goes round. -/
def pev (l : List F) (u : F) : F := match l with
  | [] => 0
  | a :: l => a + u * pev l u
theorem pev_n (u : F) : pev [] u = 0 := rfl
theorem pev_c (a : F) (l : List F) (u : F) : pev (a :: l) u = a + u * pev l u := rfl
def padd : List F → List F → List F
  | [], m => m
  | a :: l, [] => a :: l
  | a :: l, b :: m => (a + b) :: padd l m
theorem pev_add (l : List F) : ∀ (m : List F) (u : F), pev (padd l m) u = pev l u + pev m u := by
  induction l with
  | nil => intro m u; show pev m u = 0 + pev m u; grind
  | cons a l ih =>
    intro m u
    cases m with
    | nil => show pev (a :: l) u = pev (a :: l) u + 0; grind
    | cons b m =>
      show (a + b) + u * pev (padd l m) u = (a + u * pev l u) + (b + u * pev m u)
      rw [ih]
      grind
theorem padd_len (l : List F) : ∀ m : List F, (padd l m).length = max l.length m.length := by
  induction l with
  | nil => intro m; show m.length = max 0 m.length; omega
  | cons a l ih =>
    intro m
    cases m with
    | nil => show l.length + 1 = max (l.length + 1) 0; omega
    | cons b m =>
      show (padd l m).length + 1 = max (l.length + 1) (m.length + 1)
      rw [ih]
      omega
def pscl (a : F) (l : List F) : List F := l.map (fun x => a * x)
theorem pev_scl (a : F) (l : List F) (u : F) : pev (pscl a l) u = a * pev l u := by
  induction l with
  | nil => show (0 : F) = a * 0; grind
  | cons b l ih =>
    show a * b + u * pev (pscl a l) u = a * (b + u * pev l u)
    rw [ih]
    grind
def pmul : List F → List F → List F
  | [], _ => []
  | a :: l, m => padd (pscl a m) (0 :: pmul l m)
theorem pev_mul (l : List F) : ∀ (m : List F) (u : F), pev (pmul l m) u = pev l u * pev m u := by
  induction l with
  | nil => intro m u; show (0 : F) = 0 * pev m u; grind
  | cons a l ih =>
    intro m u
    show pev (padd (pscl a m) (0 :: pmul l m)) u = (a + u * pev l u) * pev m u
    rw [pev_add, pev_scl, pev_c, ih]
    grind
theorem pmul_len (l : List F) : ∀ m : List F, 1 ≤ m.length → (pmul l m).length ≤ l.length + m.length - 1 := by
  induction l with
  | nil => intro m hm; show 0 ≤ 0 + m.length - 1; omega
  | cons a l ih =>
    intro m hm
    show (padd (pscl a m) (0 :: pmul l m)).length ≤ l.length + 1 + m.length - 1
    have := ih m hm
    rw [padd_len]
    have e : (pscl a m).length = m.length := List.length_map _
    have e2 : (0 :: pmul l m).length = (pmul l m).length + 1 := rfl
    omega
/-- a function of u that is a polynomial of at most this power -/
def PD (d : Nat) (f : F → F) : Prop := ∃ l : List F, l.length ≤ d + 1 ∧ 1 ≤ l.length ∧ ∀ u, f u = pev l u
theorem PD_c {d : Nat} (a : F) : PD d (fun _ => a) := ⟨[a], by show 1 ≤ d + 1; omega, Nat.le_refl 1, fun u => by rw [pev_c, pev_n]; grind⟩
theorem PD_u {d : Nat} (hd : 1 ≤ d) : PD d (fun u => u) := ⟨[0, 1], by show 2 ≤ d + 1; omega, by decide, fun u => by rw [pev_c, pev_c, pev_n]; grind⟩
theorem PD_mono {d e : Nat} {f : F → F} (h : PD d f) (hd : d ≤ e) : PD e f := by
  obtain ⟨l, h1, h2, h3⟩ := h
  exact ⟨l, by omega, h2, h3⟩
theorem PD_add {d : Nat} {f g : F → F} (h : PD d f) (h' : PD d g) : PD d (fun u => f u + g u) := by
  obtain ⟨l, h1, h2, h3⟩ := h
  obtain ⟨m, g1, g2, g3⟩ := h'
  exact ⟨padd l m, by rw [padd_len]; omega, by rw [padd_len]; omega, fun u => by show f u + g u = _; rw [pev_add, h3, g3]⟩
theorem PD_mul {d e : Nat} {f g : F → F} (h : PD d f) (h' : PD e g) : PD (d + e) (fun u => f u * g u) := by
  obtain ⟨l, h1, h2, h3⟩ := h
  obtain ⟨m, g1, g2, g3⟩ := h'
  refine ⟨pmul l m, by have := pmul_len l m g2; omega, ?_, fun u => by show f u * g u = _; rw [pev_mul, h3, g3]⟩
  cases l with
  | nil => cases h2
  | cons a l =>
    show 1 ≤ (padd (pscl a m) (0 :: pmul l m)).length
    rw [padd_len]
    have e2 : (0 :: pmul l m).length = (pmul l m).length + 1 := rfl
    omega
theorem PD_congr {d : Nat} {f g : F → F} (h : PD d f) (e : ∀ u, g u = f u) : PD d g := by
  obtain ⟨l, h1, h2, h3⟩ := h
  exact ⟨l, h1, h2, fun u => (e u).trans (h3 u)⟩
theorem PD_scl {d : Nat} {f : F → F} (a : F) (h : PD d f) : PD d (fun u => a * f u) := by
  have := PD_mul (d := 0) (PD_c a) h
  rw [Nat.zero_add] at this
  exact this
theorem PD_sub {d : Nat} {f g : F → F} (h : PD d f) (h' : PD d g) : PD d (fun u => f u - g u) := PD_congr (PD_add h (PD_scl (0 - 1) h')) (fun u => by grind)
theorem PD_sm {d n : Nat} {f : Nat → F → F} (h : ∀ i, i < n → PD d (f i)) : PD d (fun u => sm n (fun i => f i u)) := by
  induction n with
  | zero => exact PD_c 0
  | succ n ih => exact PD_add (ih (fun i hi => h i (by omega))) (h n (by omega))
/-- a root taken out -/
def psd (r : F) : List F → List F
  | [] => []
  | [_] => []
  | _ :: b :: l => pev (b :: l) r :: psd r (b :: l)
theorem psd_ev (r u : F) (l : List F) : pev l u = (u - r) * pev (psd r l) u + pev l r := by
  induction l with
  | nil => show (0 : F) = (u - r) * 0 + 0; grind
  | cons a l ih =>
    cases l with
    | nil => show a + u * 0 = (u - r) * 0 + (a + r * 0); grind
    | cons b l =>
      show a + u * pev (b :: l) u = (u - r) * (pev (b :: l) r + u * pev (psd r (b :: l)) u) + (a + r * pev (b :: l) r)
      rw [ih]
      grind
theorem psd_len (r : F) (l : List F) : (psd r l).length = l.length - 1 := by
  induction l with
  | nil => rfl
  | cons a l ih =>
    cases l with
    | nil => rfl
    | cons b l =>
      show (psd r (b :: l)).length + 1 = (b :: l).length + 1 - 1
      rw [ih]
      show l.length + 1 - 1 + 1 = l.length + 1 + 1 - 1
      omega
theorem psd_z (r : F) (l : List F) : pev l r = 0 → (∀ x ∈ psd r l, x = 0) → ∀ x ∈ l, x = 0 := by
  induction l with
  | nil => intro _ _ x hx; cases hx
  | cons a l ih =>
    intro h1 h2 x hx
    cases l with
    | nil =>
      rw [List.mem_singleton.mp hx]
      have h3 : a + r * 0 = 0 := h1
      grind
    | cons b l =>
      have h3 : pev (b :: l) r = 0 := h2 _ List.mem_cons_self
      have h4 := ih h3 (fun x hx => h2 x (List.mem_cons_of_mem _ hx))
      rcases List.mem_cons.mp hx with e | e
      · rw [pev_c, h3] at h1
        rw [e]
        grind
      · exact h4 x e
theorem pev_all (k : Nat) : k ≤ 10007 → ∀ l : List F, l.length ≤ k → (∀ i, i < k → pev l (nF i) = 0) → ∀ x ∈ l, x = 0 := by
  induction k with
  | zero =>
    intro _ l hl _ x hx
    cases l with
    | nil => cases hx
    | cons a l => exact absurd hl (by show ¬ l.length + 1 ≤ 0; omega)
  | succ k ih =>
    intro hk l hl h
    refine psd_z (nF k) l (h k (by omega)) (ih (by omega) (psd (nF k) l) (by rw [psd_len]; omega) (fun i hi => ?_))
    have h1 := psd_ev (nF k) (nF i) l
    rw [h i (by omega), h k (by omega)] at h1
    have h2 : (nF i - nF k) * pev (psd (nF k) l) (nF i) = 0 := by grind
    rcases F_mul0 h2 with w | w
    · exfalso
      have h3 : nF i = nF k := by grind
      have h4 := congrArg vF h3
      rw [vF_nF (by omega), vF_nF (by omega)] at h4
      omega
    · exact w
theorem pev_z {l : List F} (h : ∀ x ∈ l, x = 0) (u : F) : pev l u = 0 := by
  induction l with
  | nil => rfl
  | cons a l ih =>
    rw [pev_c, ih (fun x hx => h x (List.mem_cons_of_mem _ hx)), h a List.mem_cons_self]
    grind
/-- where a product is 0 all over, and one is not 0 at 0, the other is 0 -/
theorem pmul_z (m : List F) (hm : ∃ b m', m = b :: m' ∧ b ≠ 0) (l : List F) : (∀ x ∈ pmul l m, x = 0) → ∀ x ∈ l, x = 0 := by
  obtain ⟨b, m, rfl, hb⟩ := hm
  induction l with
  | nil => intro _ x hx; cases hx
  | cons a l ih =>
    intro h
    have h1 : ∀ x ∈ padd (pscl a (b :: m)) (0 :: pmul l (b :: m)), x = 0 := h
    have h2 : a * b + 0 = 0 := h1 _ List.mem_cons_self
    have h3 : a = 0 := by
      have h4 : a * b = 0 := by grind
      rcases F_mul0 h4 with w | w
      · exact w
      · exact absurd w hb
    have h5 : ∀ x ∈ padd (pscl a m) (pmul l (b :: m)), x = 0 := fun x hx => h1 x (List.mem_cons_of_mem _ hx)
    have key : ∀ (p q : List F), (∀ x ∈ p, x = 0) → (∀ x ∈ padd p q, x = 0) → ∀ x ∈ q, x = 0 := by
      intro p
      induction p with
      | nil => exact fun q _ h => h
      | cons c p ihp =>
        intro q h6 h7 x hx
        cases q with
        | nil => cases hx
        | cons e q =>
          have h8 : c + e = 0 := h7 _ List.mem_cons_self
          have h9 : c = 0 := h6 _ List.mem_cons_self
          rcases List.mem_cons.mp hx with w | w
          · rw [w]
            grind
          · exact ihp q (fun x hx => h6 x (List.mem_cons_of_mem _ hx)) (fun x hx => h7 x (List.mem_cons_of_mem _ hx)) x w
    have h10 := key (pscl a m) (pmul l (b :: m)) (fun x hx => by
      obtain ⟨y, _, hy⟩ := List.mem_map.mp hx
      rw [← hy, h3]
      grind) h5
    intro x hx
    rcases List.mem_cons.mp hx with w | w
    · rw [w]
      exact h3
    · exact ih h10 x w
theorem PD_zero {d e : Nat} {f g : F → F} (hd : d + e + 1 ≤ 10007) (hf : PD d f) (hg : PD e g) (h0 : g 0 ≠ 0) (h : ∀ u, g u ≠ 0 → f u = 0) (u : F) : f u = 0 := by
  obtain ⟨l, h1, h2, h3⟩ := hf
  obtain ⟨m, g1, g2, g3⟩ := hg
  have hm : ∃ b m', m = b :: m' ∧ b ≠ 0 := by
    cases m with
    | nil => cases g2
    | cons b m =>
      refine ⟨b, m, rfl, fun e => h0 ?_⟩
      rw [g3, pev_c, e]
      grind
  have hl := pev_all 10007 (Nat.le_refl _) (pmul l m) (by have := pmul_len l m g2; omega) (fun i _ => by
    rw [pev_mul, ← h3, ← g3]
    by_cases q : g (nF i) = 0
    · rw [q]
      grind
    · rw [h _ q]
      grind)
  rw [h3]
  exact pev_z (pmul_z m hm l hl) u
/-- the line -/
def shN (i j : Nat) : F := if i = j + 1 then 1 else 0
def lnB (A : Nat → Nat → F) (u : F) (i j : Nat) : F := shN i j + u * (A i j - shN i j)
def bas0 (i : Nat) : F := if i = 0 then 1 else 0
theorem lnB_1 {A : Nat → Nat → F} : lnB A 1 = A := funext fun i => funext fun j => by unfold lnB; grind
theorem lnB_PD {A : Nat → Nat → F} (i j : Nat) : PD 1 (fun u => lnB A u i j) := PD_add (PD_c _) (PD_congr (PD_scl (A i j - shN i j) (PD_u (Nat.le_refl 1))) (fun u => by grind))
theorem kr_PD {n : Nat} {A : Nat → Nat → F} {b : Nat → F} (k : Nat) : ∀ r, PD k (fun u => kr n (lnB A u) b k r) := by
  induction k with
  | zero => exact fun r => PD_c _
  | succ k ih => exact fun r => PD_sm (fun i _ => PD_mono (PD_mul (lnB_PD r i) (ih i)) (by omega))
theorem flM_PD {n : Nat} {A : Nat → Nat → F} (s : Nat) : ∀ r c, PD s (fun u => flM n (lnB A u) s r c) := by
  induction s with
  | zero => exact fun r c => PD_c _
  | succ s ih =>
    have hG : ∀ r c, PD (s + 1) (fun u => flG n (lnB A u) (flM n (lnB A u) s) r c) := fun r c => PD_sm (fun i _ => PD_mono (PD_mul (lnB_PD r i) (ih i c)) (by omega))
    intro r c
    have hT : PD (s + 1) (fun u => flt n (lnB A u) (flM n (lnB A u) s) s) := PD_congr (PD_scl (iv (nF (s + 1))) (PD_sub (PD_c 0) (PD_sm (n := n) (fun i _ => hG i i)))) (fun u => by unfold flt; grind)
    by_cases e : r = c
    · exact PD_congr (PD_add (hG r c) hT) (fun u => by
        show flG n (lnB A u) (flM n (lnB A u) s) r c + (if r = c then flt n (lnB A u) (flM n (lnB A u) s) s else 0) = _
        rw [if_pos e])
    · exact PD_congr (PD_add (hG r c) (PD_c 0)) (fun u => by
        show flG n (lnB A u) (flM n (lnB A u) s) r c + (if r = c then flt n (lnB A u) (flM n (lnB A u) s) s else 0) = _
        rw [if_neg e])
/-- elimination without division -/
def nde (M : Nat → Nat → F) : Nat → Nat → Nat → F
  | 0 => M
  | k + 1 => fun i j => nde M k k k * nde M k i j - nde M k i k * nde M k k j
theorem nde_PD {n : Nat} {M : F → Nat → Nat → F} {d : Nat} (h : ∀ i, i < n → ∀ j, PD d (fun u => M u i j)) (k : Nat) : k ≤ n → ∀ i, i < n → ∀ j, PD (d * 2 ^ k) (fun u => nde (M u) k i j) := by
  induction k with
  | zero => exact fun _ i hi j => PD_mono (h i hi j) (by rw [Nat.pow_zero]; omega)
  | succ k ih =>
    intro hk i hi j
    have hk' := ih (by omega)
    have e : d * 2 ^ (k + 1) = d * 2 ^ k + d * 2 ^ k := by rw [Nat.pow_succ, ← Nat.mul_assoc]; omega
    rw [e]
    exact PD_sub (PD_mul (hk' k (by omega) k) (hk' i hi j)) (PD_mul (hk' i hi k) (hk' k (by omega) j))
theorem nde_z {M : Nat → Nat → F} (k : Nat) : ∀ c, c < k → ∀ i, c < i → nde M k i c = 0 := by
  induction k with
  | zero => intro c hc; omega
  | succ k ih =>
    intro c hc i hi
    show nde M k k k * nde M k i c - nde M k i k * nde M k k c = 0
    by_cases e : c = k
    · rw [e]
      grind
    · rw [ih c (by omega) i hi, ih c (by omega) k (by omega)]
      grind
theorem nde_ker {n : Nat} {M : Nat → Nat → F} {x : Nat → F} (h : ∀ i, i < n → dot n (M i) x = 0) (k : Nat) : k ≤ n → ∀ i, i < n → dot n (nde M k i) x = 0 := by
  induction k with
  | zero => exact fun _ => h
  | succ k ih =>
    intro hk i hi
    have e : dot n (nde M (k + 1) i) x = dot n (fun j => nde M k k k * nde M k i j) x - nde M k i k * dot n (nde M k k) x := by
      rw [← dot_less]
      rfl
    rw [e, dot_scale, ih (by omega) i hi, ih (by omega) k (by omega)]
    grind
theorem nde_full {n : Nat} {M : Nat → Nat → F} (h : ∀ k, k < n → nde M k k k ≠ 0) : rk n M = n := by
  refine rk_full.mpr (fun x hx => ?_)
  have key : ∀ t, t ≤ n → ∀ c, n - t ≤ c → c < n → x c = 0 := by
    intro t
    induction t with
    | zero => intro _ c h1 h2; omega
    | succ t ih =>
      intro ht c h1 h2
      by_cases e : n - t ≤ c
      · exact ih (by omega) c e h2
      · have hc := nde_ker hx c (by omega) c h2
        have e2 : dot n (nde M c c) x = nde M c c c * x c := by
          have := dot_upx (n := n) (k := c) (f := nde M c c) (x := x) (v := 0) h2
          rw [dot_zero_l (f := nde M c c) (x := upx x c 0) (fun c' hc' => by
            by_cases e1 : c' < c
            · exact Or.inl (nde_z c c' e1 c e1)
            · right
              unfold upx
              by_cases e2 : c' = c
              · exact if_pos e2
              · rw [if_neg e2]
                exact ih (by omega) c' (by omega) hc')] at this
          grind
        rw [e2] at hc
        rcases F_mul0 hc with w | w
        · exact absurd w (h c h2)
        · exact w
  exact fun c hc => key n (Nat.le_refl n) c (by omega) hc
def pvt (M : Nat → Nat → F) : Nat → F
  | 0 => 1
  | k + 1 => pvt M k * nde M k k k
theorem pvt_ne {M : Nat → Nat → F} {n : Nat} (h : pvt M n ≠ 0) : ∀ k, k < n → nde M k k k ≠ 0 := by
  induction n with
  | zero => intro k hk; omega
  | succ n ih =>
    intro k hk hz
    by_cases e : k = n
    · refine h ?_
      show pvt M n * nde M n n n = 0
      rw [← e, hz]
      grind
    · refine ih (fun e2 => h ?_) k (by omega) hz
      show pvt M n * nde M n n n = 0
      rw [e2]
      grind
theorem pvt_PD {n : Nat} {M : F → Nat → Nat → F} {d : Nat} (h : ∀ i, i < n → ∀ j, PD d (fun u => M u i j)) (k : Nat) : k ≤ n → PD (d * 2 ^ k) (fun u => pvt (M u) k) := by
  induction k with
  | zero => exact fun _ => PD_c 1
  | succ k ih =>
    intro hk
    have e : d * 2 ^ (k + 1) = d * 2 ^ k + d * 2 ^ k := by rw [Nat.pow_succ, ← Nat.mul_assoc]; omega
    rw [e]
    exact PD_mul (ih (by omega)) (nde_PD h k (by omega) k (by omega) k)
theorem nde_id {n : Nat} {M : Nat → Nat → F} (h : ∀ i, i < n → ∀ j, j < n → M i j = if i = j then 1 else 0) (k : Nat) : k ≤ n → ∀ i, i < n → k ≤ i → ∀ j, j < n → nde M k i j = if i = j then 1 else 0 := by
  induction k with
  | zero => exact fun _ i hi _ j hj => h i hi j hj
  | succ k ih =>
    intro hk i hi hki j hj
    show nde M k k k * nde M k i j - nde M k i k * nde M k k j = _
    rw [ih (by omega) k (by omega) (Nat.le_refl k) k (by omega), ih (by omega) i hi (by omega) j hj, ih (by omega) i hi (by omega) k (by omega), if_pos rfl, if_neg (by omega : ¬ i = k)]
    grind
theorem pvt_id {n : Nat} {M : Nat → Nat → F} (h : ∀ i, i < n → ∀ j, j < n → M i j = if i = j then 1 else 0) (k : Nat) : k ≤ n → pvt M k = 1 := by
  induction k with
  | zero => exact fun _ => rfl
  | succ k ih =>
    intro hk
    show pvt M k * nde M k k k = 1
    rw [ih (by omega), nde_id h k (by omega) k (by omega) (Nat.le_refl k) k (by omega), if_pos rfl]
    grind
theorem kr_sh {n : Nat} {A : Nat → Nat → F} (k : Nat) : k < n → ∀ r, r < n → kr n (lnB A 0) bas0 k r = if k = r then 1 else 0 := by
  induction k with
  | zero =>
    intro _ r _
    show (if r = 0 then (1 : F) else 0) = if 0 = r then 1 else 0
    by_cases e : r = 0
    · rw [if_pos e, if_pos e.symm]
    · rw [if_neg e, if_neg (fun z => e z.symm)]
  | succ k ih =>
    intro hk r hr
    rw [kr_dot]
    have e : dot n (lnB A 0 r) (kr n (lnB A 0) bas0 k) = sm n (fun i => shN r i * if k = i then 1 else 0) := sm_congr (fun i hi => by
      rw [ih (by omega) i hi]
      have : lnB A 0 r i = shN r i := by unfold lnB; grind
      rw [this])
    rw [e, sm_one (k := k) (by omega) (fun i _ hne => by rw [if_neg (fun z => hne z.symm)]; grind), if_pos rfl]
    unfold shN
    by_cases q : r = k + 1
    · rw [if_pos q, if_pos q.symm]; grind
    · rw [if_neg q, if_neg (fun z => q z.symm)]; grind
/-- the last square of Faddeev and Leverrier is 0 -/
theorem fl_zero {n : Nat} {A : Nat → Nat → F} (hn : n ≤ 8) {r c : Nat} (hr : r < n) (hc : c < n) : flM n A n r c = 0 := by
  have h1 : ∀ i, i < n → ∀ j, PD 7 (fun u => kr n (lnB A u) bas0 i j) := fun i hi j => PD_mono (kr_PD i j) (by omega)
  have h2 := pvt_PD h1 n (Nat.le_refl n)
  have h3 : 7 * 2 ^ n ≤ 1792 := by
    have : 2 ^ n ≤ 2 ^ 8 := Nat.pow_le_pow_right (by omega) hn
    omega
  have h4 := PD_zero (d := n) (e := 1792) (by omega) (flM_PD (A := A) n r c) (PD_mono h2 h3) (by
    show pvt (kr n (lnB A 0) bas0) n ≠ 0
    rw [pvt_id (fun i hi j hj => kr_sh i hi j hj) n (Nat.le_refl n)]
    decide) (fun u hu => by
    obtain ⟨a, _, _, _, _, h5⟩ := fl_cyc hn (nde_full (pvt_ne hu))
    exact h5 r hr c hc) 1
  have h5 : flM n (lnB A 1) n r c = 0 := h4
  rw [lnB_1] at h5
  exact h5
