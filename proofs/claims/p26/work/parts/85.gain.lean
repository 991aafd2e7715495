/-! PLACING: by powers, and by equations. -/
theorem ask_hi {P : Nat → F} (s : Nat) : ∀ k, s < k → ask P s k = 0 := by
  induction s with
  | zero => exact fun k hk => if_neg (by omega)
  | succ s ih =>
    intro k hk
    show (if k = 0 then 0 else ask P s (k - 1)) - P s * ask P s k = 0
    rw [if_neg (by omega), ih (k - 1) (by omega), ih k (by omega)]
    grind
theorem ask_top {P : Nat → F} (s : Nat) : ask P s s = 1 := by
  induction s with
  | zero => show (if 0 = 0 then (1 : F) else 0) = 1; exact if_pos rfl
  | succ s ih =>
    show (if s + 1 = 0 then 0 else ask P s (s + 1 - 1)) - P s * ask P s (s + 1) = 1
    rw [if_neg (by omega), ask_hi s (s + 1) (by omega), show s + 1 - 1 = s from rfl, ih]
    grind
theorem ask_congr {P P' : Nat → F} (s : Nat) : (∀ i, i < s → P i = P' i) → ask P s = ask P' s := by
  induction s with
  | zero => exact fun _ => rfl
  | succ s ih =>
    intro h
    show (fun j => (if j = 0 then 0 else ask P s (j - 1)) - P s * ask P s j) = fun j => (if j = 0 then 0 else ask P' s (j - 1)) - P' s * ask P' s j
    rw [ih (fun i hi => h i (by omega)), h s (by omega)]
/-- the row x, times A so often -/
def vxp (n : Nat) (A : Nat → Nat → F) (x : Nat → F) : Nat → Nat → F
  | 0 => x
  | k + 1 => fun j => dot n (vxp n A x k) (fun i => A i j)
theorem av_ask {n : Nat} {A : Nat → Nat → F} {P x : Nat → F} (s : Nat) : ∀ j, av n A P x s j = sm (s + 1) (fun k => ask P s k * vxp n A x k j) := by
  induction s with
  | zero =>
    intro j
    show x j = 0 + (if 0 = 0 then 1 else 0) * x j
    rw [if_pos rfl]
    grind
  | succ s ih =>
    intro j
    show dot n (av n A P x s) (fun i => A i j) - P s * av n A P x s j = _
    have e1 : dot n (av n A P x s) (fun i => A i j) = sm (s + 1) (fun k => ask P s k * vxp n A x (k + 1) j) := by
      have e2 : dot n (av n A P x s) (fun i => A i j) = dot n (fun c => sm (s + 1) (fun k => ask P s k * vxp n A x k c)) (fun i => A i j) := dot_congr (fun c _ => ih c) (fun _ _ => rfl)
      rw [e2, dot_sm (g := fun k c => ask P s k * vxp n A x k c)]
      exact sm_congr (fun k _ => dot_scale)
    have e3 : sm (s + 1 + 1) (fun k => ask P (s + 1) k * vxp n A x k j) = sm (s + 1 + 1) (fun k => (if k = 0 then 0 else ask P s (k - 1)) * vxp n A x k j) + sm (s + 1 + 1) (fun k => (0 - P s) * (ask P s k * vxp n A x k j)) := by
      rw [← sm_add]
      exact sm_congr (fun k _ => by
        show ((if k = 0 then 0 else ask P s (k - 1)) - P s * ask P s k) * vxp n A x k j = _
        grind)
    rw [e3, sm_mul, sm_s (n := s + 1) (f := fun k => ask P s k * vxp n A x k j), ask_hi s (s + 1) (by omega), ← ih j, sm_first (n := s + 1), if_pos rfl, e1]
    have e4 : sm (s + 1) (fun i => (if i + 1 = 0 then 0 else ask P s (i + 1 - 1)) * vxp n A x (i + 1) j) = sm (s + 1) (fun k => ask P s k * vxp n A x (k + 1) j) := sm_congr (fun k _ => by rw [if_neg (by omega)]; rfl)
    rw [e4]
    grind
theorem dot_adj {n : Nat} {A : Nat → Nat → F} {x y : Nat → F} : dot n x (fun i => dot n (A i) y) = dot n (fun j => dot n x (fun i => A i j)) y := by
  unfold dot
  have e1 : sm n (fun i => x i * sm n (fun j => A i j * y j)) = sm n (fun i => sm n (fun j => x i * A i j * y j)) := sm_congr (fun i _ => by
    rw [← sm_mul]
    exact sm_congr (fun j _ => by grind))
  rw [e1, sm_swap]
  exact sm_congr (fun j _ => sm_mulr)
theorem kr_vxp {n : Nat} {A : Nat → Nat → F} {b x : Nat → F} (k : Nat) : ∀ t, dot n (kr n A b t) (vxp n A x k) = dot n (kr n A b (t + k)) x := by
  induction k with
  | zero => exact fun t => rfl
  | succ k ih =>
    intro t
    rw [show t + (k + 1) = (t + 1) + k by omega, ← ih (t + 1), dot_comm]
    show dot n (fun j => dot n (vxp n A x k) (fun i => A i j)) (kr n A b t) = _
    rw [← dot_adj, dot_comm]
    rfl
theorem cf_sum {n : Nat} {A : Nat → Nat → F} {b own : Nat → F} (s : Nat) : s ≤ n → ∀ j, cf n A b own s j = sm (s + 1) (fun t => (if n - s + t = n then 1 else own (n - s + t)) * kr n A b t j) := by
  induction s with
  | zero =>
    intro _ j
    show b j = 0 + (if n - 0 + 0 = n then 1 else own (n - 0 + 0)) * b j
    rw [if_pos (by omega)]
    grind
  | succ s ih =>
    intro hs j
    show dot n (A j) (cf n A b own s) + own (n - 1 - s) * b j = _
    have e1 : dot n (A j) (cf n A b own s) = dot n (A j) (fun c => sm (s + 1) (fun t => (if n - s + t = n then 1 else own (n - s + t)) * kr n A b t c)) := dot_congr (fun _ _ => rfl) (fun c _ => ih (by omega) c)
    rw [e1, dot_smr (g := fun t c => (if n - s + t = n then 1 else own (n - s + t)) * kr n A b t c), sm_first (n := s + 1), if_neg (by omega : ¬ n - (s + 1) + 0 = n), show n - (s + 1) + 0 = n - 1 - s by omega]
    have e2 : sm (s + 1) (fun t => dot n (A j) (fun c => (if n - s + t = n then 1 else own (n - s + t)) * kr n A b t c)) = sm (s + 1) (fun i => (if n - (s + 1) + (i + 1) = n then 1 else own (n - (s + 1) + (i + 1))) * kr n A b (i + 1) j) := sm_congr (fun t _ => by
      rw [dot_scaler, show n - (s + 1) + (t + 1) = n - s + t by omega]
      rfl)
    rw [e2]
    show _ = own (n - 1 - s) * b j + _
    grind
theorem cf_dot {n : Nat} {A : Nat → Nat → F} {b own x : Nat → F} {s : Nat} (hs : s ≤ n) : dot n (cf n A b own s) x = sm (s + 1) (fun t => (if n - s + t = n then 1 else own (n - s + t)) * dot n (kr n A b t) x) := by
  have e1 : dot n (cf n A b own s) x = dot n (fun c => sm (s + 1) (fun t => (if n - s + t = n then 1 else own (n - s + t)) * kr n A b t c)) x := dot_congr (fun c _ => cf_sum s hs c) (fun _ _ => rfl)
  rw [e1, dot_sm (g := fun t c => (if n - s + t = n then 1 else own (n - s + t)) * kr n A b t c)]
  exact sm_congr (fun t _ => dot_scale)
/-- the equations have one solution just where the system can be steered -/
theorem cf_full {n : Nat} {A : Nat → Nat → F} {b own : Nat → F} : rk n (fun i => cf n A b own (n - 1 - i)) = n ↔ rk n (kr n A b) = n := by
  have key : ∀ x : Nat → F, (∀ i, i < n → dot n (cf n A b own (n - 1 - i)) x = 0) ↔ ∀ i, i < n → dot n (kr n A b i) x = 0 := fun x => by
    refine ⟨fun h => ?_, fun h i hi => ?_⟩
    · have h1 : ∀ s, s < n → dot n (cf n A b own s) x = 0 := fun s hs => by
        have := h (n - 1 - s) (by omega)
        rw [show n - 1 - (n - 1 - s) = s by omega] at this
        exact this
      have h2 : ∀ l, ∀ s, s < l → s < n → dot n (kr n A b s) x = 0 := by
        intro l
        induction l with
        | zero => intro s hs; omega
        | succ l ih =>
          intro s hs hn
          have h3 := h1 s hn
          rw [cf_dot (by omega), sm_s, sm_zero (fun t ht => by rw [ih t (by omega) (by omega)]; grind), if_pos (by omega)] at h3
          grind
      exact fun i hi => h2 (i + 1) i (by omega) hi
    · rw [cf_dot (by omega)]
      exact sm_zero (fun t ht => by rw [h t (by omega)]; grind)
  rw [rk_full, rk_full]
  exact ⟨fun h x hx => h x ((key x).mpr hx), fun h x hx => h x ((key x).mp hx)⟩
/-- the row that places the poles solves the equations -/
theorem gain_eq {n : Nat} {A : Nat → Nat → F} {b x P : Nat → F} (hn : n ≤ 8) (h : rk n (kr n A b) = n) (hx : ∀ i, i < n → dot n (kr n A b i) x = if i + 1 = n then 1 else 0) {i : Nat} (hi : i < n) : dot n (cf n A b (pbl n A) (n - 1 - i)) (av n A P x n) = ask P n i - pbl n A i := by
  obtain ⟨a, a1, _, a2, a3, _⟩ := fl_cyc hn h
  have hp : ∀ k, k ≤ n → (if k = n then 1 else pbl n A k) = a k := fun k hk => by
    by_cases e : k = n
    · rw [if_pos e, e, a1]
    · rw [if_neg e]
      unfold pbl
      rw [if_neg e, a2 _ (by omega), show n - 1 - (n - 1 - k) = k by omega]
  have hpi : pbl n A i = a i := by
    have := hp i (by omega)
    rw [if_neg (by omega)] at this
    exact this
  generalize hs : n - 1 - i = s
  have hsn : s < n := by omega
  have e1 : dot n (cf n A b (pbl n A) s) (av n A P x n) = sm (s + 1) (fun t => a (n - s + t) * sm (n + 1) (fun k => ask P n k * dot n (kr n A b (t + k)) x)) := by
    rw [cf_dot (by omega)]
    exact sm_congr (fun t ht => by
      have e2 : dot n (kr n A b t) (av n A P x n) = dot n (kr n A b t) (fun j => sm (n + 1) (fun k => ask P n k * vxp n A x k j)) := dot_congr (fun _ _ => rfl) (fun j _ => av_ask n j)
      rw [hp _ (by omega), e2, dot_smr (g := fun k j => ask P n k * vxp n A x k j)]
      refine congrArg (fun z => a (n - s + t) * z) (sm_congr (fun k _ => ?_))
      rw [dot_scaler, kr_vxp])
  have e3 : sm (s + 1) (fun t => a (n - s + t) * sm (n + 1) (fun k => ask P n k * dot n (kr n A b (t + k)) x)) = sm (n + 1) (fun k => ask P n k * sm (s + 1) (fun t => a (n - s + t) * dot n (kr n A b (t + k)) x)) := by
    have e4 : sm (s + 1) (fun t => a (n - s + t) * sm (n + 1) (fun k => ask P n k * dot n (kr n A b (t + k)) x)) = sm (s + 1) (fun t => sm (n + 1) (fun k => ask P n k * (a (n - s + t) * dot n (kr n A b (t + k)) x))) := sm_congr (fun t _ => by
      rw [← sm_mul]
      exact sm_congr (fun k _ => by grind))
    rw [e4, sm_swap]
    exact sm_congr (fun k _ => sm_mul)
  have hC : ∀ k, k < n + 1 → sm (s + 1) (fun t => a (n - s + t) * dot n (kr n A b (t + k)) x) = (if k = i then 1 else 0) - if k = n then a i else 0 := fun k hk => by
    by_cases c1 : k < i
    · rw [if_neg (by omega), if_neg (by omega), sm_zero (fun t ht => by rw [hx (t + k) (by omega), if_neg (by omega)]; grind)]
      grind
    · by_cases c2 : k = i
      · rw [if_pos c2, if_neg (by omega), sm_one (k := s) (by omega) (fun t ht hne => by rw [hx (t + k) (by omega), if_neg (by omega)]; grind), hx (s + k) (by omega), if_pos (by omega), show n - s + s = n by omega, a1]
        grind
      · rw [if_neg c2]
        have h4 : sm (n + 1) (fun t => a t * dot n (kr n A b (t + (k - (n - s)))) x) = 0 := by
          have e5 : sm (n + 1) (fun t => a t * dot n (kr n A b (t + (k - (n - s)))) x) = dot n (fun c => sm (n + 1) (fun t => a t * kr n A b (t + (k - (n - s))) c)) x := by
            rw [dot_sm (g := fun t c => a t * kr n A b (t + (k - (n - s))) c)]
            exact sm_congr (fun t _ => dot_scale.symm)
          rw [e5]
          exact dot_zero_l (fun c hc => Or.inl (a3 _ c hc))
        rw [show n + 1 = (n - s) + (s + 1) by omega, sm_split] at h4
        have e6 : sm (s + 1) (fun t => a (n - s + t) * dot n (kr n A b (n - s + t + (k - (n - s)))) x) = sm (s + 1) (fun t => a (n - s + t) * dot n (kr n A b (t + k)) x) := sm_congr (fun t _ => by rw [show n - s + t + (k - (n - s)) = t + k by omega])
        rw [e6] at h4
        by_cases c3 : k = n
        · rw [if_pos c3]
          rw [sm_one (n := n - s) (k := i) (by omega) (fun t ht hne => by rw [hx (t + (k - (n - s))) (by omega), if_neg (by omega)]; grind), hx (i + (k - (n - s))) (by omega), if_pos (by omega)] at h4
          grind
        · rw [if_neg c3]
          rw [sm_zero (n := n - s) (fun t ht => by rw [hx (t + (k - (n - s))) (by omega), if_neg (by omega)]; grind)] at h4
          grind
  rw [e1, e3, hpi]
  have e7 : sm (n + 1) (fun k => ask P n k * sm (s + 1) (fun t => a (n - s + t) * dot n (kr n A b (t + k)) x)) = sm (n + 1) (fun k => ask P n k * if k = i then 1 else 0) - sm (n + 1) (fun k => ask P n k * if k = n then a i else 0) := by
    have e8 : sm (n + 1) (fun k => ask P n k * sm (s + 1) (fun t => a (n - s + t) * dot n (kr n A b (t + k)) x)) = sm (n + 1) (fun k => (ask P n k * if k = i then 1 else 0) + (0 - 1) * (ask P n k * if k = n then a i else 0)) := sm_congr (fun k hk => by rw [hC k hk]; grind)
    rw [e8, sm_add, sm_mul]
    grind
  rw [e7, sm_one (k := i) (by omega) (fun k _ hne => by rw [if_neg hne]; grind), sm_one (k := n) (f := fun k => ask P n k * if k = n then a i else 0) (by omega) (fun k _ hne => by rw [if_neg hne]; grind), if_pos rfl, if_pos rfl, ask_top]
  grind
