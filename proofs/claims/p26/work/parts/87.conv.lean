/-! POLYNOMIALS as rows of numbers, their products; HANKEL's square. -/
def pk : Nat → (Nat → F) → (Nat → F) → F
  | 0, f, g => f 0 * g 0
  | k + 1, f, g => f 0 * g (k + 1) + pk k (fun i => f (i + 1)) g
def pp (f g : Nat → F) : Nat → F := fun k => pk k f g
def psum (f g : Nat → F) : Nat → F := fun k => f k + g k
def on1 (k : Nat) : F := if k = 0 then 1 else 0
def zs (s k : Nat) : F := if k = s then 1 else 0
theorem pk_s {k : Nat} {f g : Nat → F} : pk (k + 1) f g = f 0 * g (k + 1) + pk k (fun i => f (i + 1)) g := rfl
theorem pk_addl (k : Nat) : ∀ f f' g : Nat → F, pk k (fun i => f i + f' i) g = pk k f g + pk k f' g := by
  induction k with
  | zero => intro f f' g; show (f 0 + f' 0) * g 0 = f 0 * g 0 + f' 0 * g 0; grind
  | succ k ih => intro f f' g; rw [pk_s, pk_s, pk_s, ih (fun i => f (i + 1)) (fun i => f' (i + 1))]; grind
theorem pk_scl (k : Nat) : ∀ (a : F) (f g : Nat → F), pk k (fun i => a * f i) g = a * pk k f g := by
  induction k with
  | zero => intro a f g; show a * f 0 * g 0 = a * (f 0 * g 0); grind
  | succ k ih => intro a f g; rw [pk_s, pk_s, ih a (fun i => f (i + 1))]; grind
theorem pk_s2 (k : Nat) : ∀ f g : Nat → F, pk (k + 1) f g = g 0 * f (k + 1) + pk k f (fun i => g (i + 1)) := by
  induction k with
  | zero => intro f g; show f 0 * g 1 + f 1 * g 0 = g 0 * f 1 + f 0 * g 1; grind
  | succ k ih => intro f g; rw [pk_s, ih, pk_s]; grind
theorem pk_comm (k : Nat) : ∀ f g : Nat → F, pk k f g = pk k g f := by
  induction k with
  | zero => intro f g; show f 0 * g 0 = g 0 * f 0; grind
  | succ k ih => intro f g; rw [pk_s, ih, pk_s2]
theorem pk_assoc (k : Nat) : ∀ f g h : Nat → F, pk k (pp f g) h = pk k f (pp g h) := by
  induction k with
  | zero => intro f g h; show f 0 * g 0 * h 0 = f 0 * (g 0 * h 0); grind
  | succ k ih =>
    intro f g h
    rw [pk_s, pk_s (f := f)]
    have e : (fun i => pp f g (i + 1)) = fun i => (fun i => f 0 * g (i + 1)) i + pp (fun i => f (i + 1)) g i := rfl
    rw [e, pk_addl, pk_scl, ih]
    show f 0 * g 0 * h (k + 1) + _ = f 0 * (g 0 * h (k + 1) + pk k (fun i => g (i + 1)) h) + _
    grind
theorem pk_sm (k : Nat) : ∀ f g : Nat → F, pk k f g = sm (k + 1) (fun i => f i * g (k - i)) := by
  induction k with
  | zero => intro f g; show f 0 * g 0 = 0 + f 0 * g 0; grind
  | succ k ih =>
    intro f g
    rw [pk_s, ih, sm_first (n := k + 1)]
    refine congrArg (fun z => f 0 * g (k + 1) + z) (sm_congr (fun i _ => ?_))
    show f (i + 1) * g (k - i) = f (i + 1) * g (k + 1 - (i + 1))
    rw [Nat.add_sub_add_right]
theorem pp_comm (f g : Nat → F) : pp f g = pp g f := funext fun k => pk_comm k f g
theorem pp_assoc (f g h : Nat → F) : pp (pp f g) h = pp f (pp g h) := funext fun k => pk_assoc k f g h
theorem pp_lc (f g h : Nat → F) : pp f (pp g h) = pp g (pp f h) := by rw [← pp_assoc, pp_comm f g, pp_assoc]
theorem pp_addl (f f' g : Nat → F) : pp (psum f f') g = psum (pp f g) (pp f' g) := funext fun k => pk_addl k f f' g
theorem pp_addr (f g g' : Nat → F) : pp f (psum g g') = psum (pp f g) (pp f g') := by rw [pp_comm, pp_addl, pp_comm g, pp_comm g']
theorem pk_zs {k s : Nat} {g : Nat → F} : pk k (zs s) g = if s ≤ k then g (k - s) else 0 := by
  rw [pk_sm]
  by_cases q : s ≤ k
  · rw [if_pos q, sm_one (k := s) (by omega) (fun i _ hne => by unfold zs; rw [if_neg hne]; grind)]
    unfold zs
    rw [if_pos rfl]
    grind
  · rw [if_neg q]
    exact sm_zero (fun i hi => by unfold zs; rw [if_neg (by omega)]; grind)
theorem pp_one (g : Nat → F) : pp on1 g = g := funext fun k => by
  show pk k (zs 0) g = g k
  rw [pk_zs, if_pos (by omega)]
  rfl
theorem pp_zero (g : Nat → F) : pp (fun _ => 0) g = fun _ => 0 := funext fun k => by
  show pk k (fun _ => 0) g = 0
  rw [pk_sm]
  exact sm_zero (fun i _ => by grind)
/-- bounded -/
def BD (f : Nat → F) : Prop := ∃ N, ∀ k, N < k → f k = 0
theorem BD_pp {f g : Nat → F} (hf : BD f) (hg : BD g) : BD (pp f g) := by
  obtain ⟨N, hN⟩ := hf
  obtain ⟨M, hM⟩ := hg
  refine ⟨N + M, fun k hk => ?_⟩
  show pk k f g = 0
  rw [pk_sm]
  refine sm_zero (fun i hi => ?_)
  by_cases q : N < i
  · rw [hN i q]; grind
  · rw [hM (k - i) (by omega)]; grind
theorem BD_sum {f g : Nat → F} (hf : BD f) (hg : BD g) : BD (psum f g) := by
  obtain ⟨N, hN⟩ := hf
  obtain ⟨M, hM⟩ := hg
  exact ⟨N + M, fun k hk => by unfold psum; rw [hN k (by omega), hM k (by omega)]; grind⟩
theorem BD_scl {f : Nat → F} (a : F) (hf : BD f) : BD (fun k => a * f k) := by
  obtain ⟨N, hN⟩ := hf
  exact ⟨N, fun k hk => by show a * f k = 0; rw [hN k hk]; grind⟩
theorem BD_zs (s : Nat) : BD (zs s) := ⟨s, fun k hk => if_neg (by omega)⟩
theorem BD_0 : BD (fun _ => 0) := ⟨0, fun _ _ => rfl⟩
/-- what is 0 from a place on, times what ends at a: the other is 0 from there on -/
theorem pp_top {f q : Nat → F} {a K : Nat} (h1 : f a ≠ 0) (h2 : ∀ i, a < i → f i = 0) (hq : BD q) (h : ∀ k, K ≤ k → pk (a + k) f q = 0) : ∀ k, K ≤ k → q k = 0 := by
  obtain ⟨N, hN⟩ := hq
  have key : ∀ t k, N < k + t → K ≤ k → q k = 0 := by
    intro t
    induction t with
    | zero => exact fun k hk _ => hN k hk
    | succ t ih =>
      intro k hk hK
      have h3 := h k hK
      rw [pk_sm, sm_one (k := a) (by omega) (fun i hi hne => by
        by_cases c : a < i
        · rw [h2 i c]; grind
        · rw [ih (a + k - i) (by omega) (by omega)]; grind), show a + k - a = k by omega] at h3
      rcases F_mul0 h3 with w | w
      · exact absurd w h1
      · exact w
  exact fun k hk => key (N + 1) k (by omega) hk
theorem pp_lead {f q : Nat → F} {a b : Nat} (h2 : ∀ i, a < i → f i = 0) (h3 : ∀ i, b < i → q i = 0) : pk (a + b) f q = f a * q b := by
  rw [pk_sm, sm_one (k := a) (by omega) (fun i hi hne => by
    by_cases c : a < i
    · rw [h2 i c]; grind
    · rw [h3 (a + b - i) (by omega)]; grind), show a + b - a = b by omega]
/-- what a polynomial makes of the numbers h -/
def act (n : Nat) (h f : Nat → F) (r : Nat) : F := sm (n + 1) (fun i => f i * h (r + i))
def pol (n : Nat) (h f : Nat → F) (j : Nat) : F := sm (n + 1) (fun i => if j < i then f i * h (i - j) else 0)
def lz (n : Nat) (h f : Nat → F) (k i : Nat) : F := if i ≤ k then pol n h f (k - i) else act n h f (i - k)
theorem lz_swap {n k : Nat} {h f g : Nat → F} : sm (n + 1) (fun i => f i * lz n h g k i) = sm (n + 1) (fun j => g j * lz n h f k j) := by
  have e : ∀ (f g : Nat → F) i, f i * lz n h g k i = sm (n + 1) (fun j => if k < i + j then f i * g j * h (i + j - k) else 0) := fun f g i => by
    unfold lz
    by_cases q : i ≤ k
    · rw [if_pos q]
      unfold pol
      rw [← sm_mul]
      exact sm_congr (fun j _ => by
        by_cases c : k - i < j
        · rw [if_pos c, if_pos (by omega), show j - (k - i) = i + j - k by omega]; grind
        · rw [if_neg c, if_neg (by omega)]; grind)
    · rw [if_neg q]
      unfold act
      rw [← sm_mul]
      exact sm_congr (fun j _ => by rw [if_pos (by omega), show i - k + j = i + j - k by omega]; grind)
  have e1 : sm (n + 1) (fun i => f i * lz n h g k i) = sm (n + 1) (fun i => sm (n + 1) (fun j => if k < i + j then f i * g j * h (i + j - k) else 0)) := sm_congr (fun i _ => e f g i)
  have e2 : sm (n + 1) (fun j => g j * lz n h f k j) = sm (n + 1) (fun j => sm (n + 1) (fun i => if k < j + i then g j * f i * h (j + i - k) else 0)) := sm_congr (fun i _ => e g f i)
  rw [e1, e2, sm_swap]
  exact sm_congr (fun j _ => sm_congr (fun i _ => by
    rw [Nat.add_comm i j]
    by_cases c : k < j + i
    · rw [if_pos c, if_pos c]; grind
    · rw [if_neg c, if_neg c]))
theorem sm_cut {n k : Nat} {f g : Nat → F} (hf : ∀ i, n < i → f i = 0) : sm (n + 1) (fun i => f i * if i ≤ k then g (k - i) else 0) = pk k f g := by
  rw [pk_sm]
  have key : ∀ a b, (∀ i, a ≤ i → i < b → (f i * if i ≤ k then g (k - i) else 0) = 0) → a ≤ b → sm a (fun i => f i * if i ≤ k then g (k - i) else 0) = sm b (fun i => f i * if i ≤ k then g (k - i) else 0) := by
    intro a b hz hab
    obtain ⟨t, rfl⟩ : ∃ t, b = a + t := ⟨b - a, by omega⟩
    rw [sm_split, sm_zero (n := t) (fun i hi => hz (a + i) (by omega) (by omega))]
    grind
  have e1 : sm (k + 1) (fun i => f i * g (k - i)) = sm (k + 1) (fun i => f i * if i ≤ k then g (k - i) else 0) := sm_congr (fun i hi => by rw [if_pos (by omega)])
  rw [e1]
  rcases Nat.le_total (n + 1) (k + 1) with q | q
  · exact key _ _ (fun i h1 h2 => by rw [hf i (by omega)]; grind) q
  · exact (key _ _ (fun i h1 h2 => by rw [if_neg (by omega)]; grind) q).symm
section
variable {n : Nat} {h X : Nat → F}
theorem lz_pk {f g : Nat → F} (hg : ∀ i, n < i → g i = 0) (hf : ∀ r, 1 ≤ r → r ≤ n → act n h f r = 0) (k : Nat) : sm (n + 1) (fun i => g i * lz n h f k i) = pk k g (pol n h f) := by
  rw [← sm_cut hg]
  exact sm_congr (fun i hi => by
    unfold lz
    by_cases q : i ≤ k
    · rw [if_pos q, if_pos q]
    · rw [if_neg q, if_neg q, hf (i - k) (by omega) (by omega)])
/-- both go to 0: one's polynomial part with the other -/
theorem hk_1 {x : Nat → F} (hX : ∀ i, n < i → X i = 0) (hx : ∀ i, n < i → x i = 0) (aX : ∀ r, 1 ≤ r → r ≤ n → act n h X r = 0) (ax : ∀ r, 1 ≤ r → r ≤ n → act n h x r = 0) : pp X (pol n h x) = pp x (pol n h X) := funext fun k => by
  show pk k X (pol n h x) = pk k x (pol n h X)
  rw [← lz_pk hX ax, ← lz_pk hx aX, lz_swap]
theorem hk_2 {x y : Nat → F} (hX1 : X n = 1) (hX : ∀ i, n < i → X i = 0) (hx : ∀ i, n < i → x i = 0) (aX : ∀ r, 1 ≤ r → r ≤ n → act n h X r = 0) (hy : BD y) (e : pp x (pol n h X) = pp X y) : ∀ r, 1 ≤ r → r ≤ n → act n h x r = 0 := by
  have e1 : ∀ k, sm (n + 1) (fun i => X i * lz n h x k i) = pk k X y := fun k => by
    rw [lz_swap, lz_pk hx aX]
    exact congrFun e k
  have e2 : ∀ k, sm (n + 1) (fun i => X i * (lz n h x k i - if i ≤ k then y (k - i) else 0)) = 0 := fun k => by
    have h1 := e1 k
    rw [← sm_cut hX] at h1
    have h2 : sm (n + 1) (fun i => X i * (lz n h x k i - if i ≤ k then y (k - i) else 0)) = sm (n + 1) (fun i => X i * lz n h x k i + (0 - 1) * (X i * if i ≤ k then y (k - i) else 0)) := sm_congr (fun i _ => by grind)
    rw [h2, sm_add, sm_mul, h1]
    grind
  obtain ⟨N, hN⟩ := hy
  have h3 : ∀ t j, N + n < j + t → pol n h x j = y j := by
    intro t
    induction t with
    | zero =>
      intro j hj
      rw [hN j (by omega)]
      exact sm_zero (fun i hi => if_neg (by omega))
    | succ t ih =>
      intro j hj
      have h4 := e2 (j + n)
      rw [sm_s, sm_zero (fun i hi => by
        unfold lz
        rw [if_pos (by omega), if_pos (by omega), ih (j + n - i) (by omega)]
        grind), hX1] at h4
      unfold lz at h4
      rw [if_pos (by omega), if_pos (by omega), show j + n - n = j by omega] at h4
      grind
  have h5 : ∀ t r, r ≤ t → 1 ≤ r → r ≤ n → act n h x r = 0 := by
    intro t
    induction t with
    | zero => intro r h1 h2; omega
    | succ t ih =>
      intro r h1 h2 hrn
      have h4 := e2 (n - r)
      rw [sm_s, sm_zero (fun i hi => by
        unfold lz
        by_cases q : i ≤ n - r
        · rw [if_pos q, if_pos q, h3 (N + n + 1) (n - r - i) (by omega)]
          grind
        · rw [if_neg q, if_neg q, ih (i - (n - r)) (by omega) (by omega) (by omega)]
          grind), hX1] at h4
      unfold lz at h4
      rw [if_neg (by omega), if_neg (by omega), show n - (n - r) = r by omega] at h4
      grind
  exact fun r h1 h2 => h5 r r (Nat.le_refl r) h1 h2
/-- a greatest divisor of power e, with what makes it -/
def GC (e : Nat) (f g : Nat → F) : Prop := ∃ d f' g' α β : Nat → F, BD f' ∧ BD g' ∧ BD α ∧ BD β ∧ pp d f' = f ∧ pp d g' = g ∧ psum (pp α f') (pp β g') = on1 ∧ d e ≠ 0 ∧ ∀ i, e < i → d i = 0
theorem BD_pol {f : Nat → F} : BD (pol n h f) := ⟨n, fun k hk => sm_zero (fun i hi => if_neg (by omega))⟩
theorem act_dot {x : Nat → F} (hx : ∀ c, n ≤ c → x c = 0) (i : Nat) : dot n (fun j => h (i + j + 1)) x = act n h x (i + 1) := by
  unfold act
  rw [sm_s, hx n (Nat.le_refl n)]
  have : dot n (fun j => h (i + j + 1)) x = sm n (fun j => x j * h (i + 1 + j)) := sm_congr (fun j _ => by show h (i + j + 1) * x j = _; rw [show i + j + 1 = i + 1 + j by omega]; grind)
  rw [this]
  grind
theorem hankel {e : Nat} (hX1 : X n = 1) (hX : ∀ i, n < i → X i = 0) (aX : ∀ r, 1 ≤ r → r ≤ n → act n h X r = 0) (hG : GC e X (pol n h X)) : rk n (fun i j => h (i + j + 1)) = n - e := by
  obtain ⟨d, f', g', α, β, bf, bg, ba, bb, h1, h2, h3, h4, h5⟩ := hG
  have he : e ≤ n := by
    by_cases q : e ≤ n
    · exact q
    · exfalso
      have h6 := pp_top (K := 0) h4 h5 bf (fun k _ => by
        have : pk (e + k) d f' = X (e + k) := congrFun h1 _
        rw [this]
        exact hX _ (by omega))
      have h7 : f' = fun _ => 0 := funext fun k => h6 k (Nat.zero_le k)
      have h8 : X n = 0 := by rw [← h1, h7, pp_comm, pp_zero]
      rw [hX1] at h8
      exact absurd h8 (by decide)
  have f2 : ∀ i, n - e < i → f' i = 0 := fun i hi => pp_top (K := n - e + 1) h4 h5 bf (fun k hk => by
    have : pk (e + k) d f' = X (e + k) := congrFun h1 _
    rw [this]
    exact hX _ (by omega)) i hi
  have f1 : f' (n - e) ≠ 0 := fun z => by
    have h6 := pp_lead h5 f2
    have : pk (e + (n - e)) d f' = X (e + (n - e)) := congrFun h1 _
    rw [this, show e + (n - e) = n by omega, hX1, z] at h6
    have h7 : (1 : F) = 0 := by grind
    exact absurd h7 (by decide)
  refine rk_is (by omega) (fun x hx hk => ?_) (fun j hj hjn => ?_)
  · have ax : ∀ r, 1 ≤ r → r ≤ n → act n h x r = 0 := fun r r1 r2 => by
      have := hk (r - 1) (by omega)
      rw [act_dot (fun c hc => hx c (by omega)), show r - 1 + 1 = r by omega] at this
      exact this
    have bx : BD x := ⟨n, fun k hk => hx k (by omega)⟩
    have e1 := hk_1 hX (fun i hi => hx i (by omega)) aX ax
    have e2 : pp d (pp f' (pol n h x)) = pp d (pp x g') := by rw [← pp_assoc, h1, e1, ← h2, pp_lc]
    have e3 : pp f' (pol n h x) = pp x g' := by
      have h6 := pp_top (q := psum (pp f' (pol n h x)) (fun k => (0 - 1) * pp x g' k)) (K := 0) h4 h5 (BD_sum (BD_pp bf BD_pol) (BD_scl _ (BD_pp bx bg))) (fun k _ => by
        have h7 : pp d (psum (pp f' (pol n h x)) (fun k => (0 - 1) * pp x g' k)) = fun _ => 0 := by
          rw [pp_addr, e2, pp_comm d (fun k => (0 - 1) * pp x g' k)]
          refine funext fun k => ?_
          show pk k d (pp x g') + pk k (fun k => (0 - 1) * pp x g' k) d = 0
          rw [pk_scl, pk_comm k (pp x g') d]
          grind
        exact congrFun h7 _)
      refine funext fun k => ?_
      have h8 : pp f' (pol n h x) k + (0 - 1) * pp x g' k = 0 := h6 k (Nat.zero_le k)
      grind
    have e4 : x = pp f' (psum (pp x α) (pp β (pol n h x))) := by
      rw [pp_addr, pp_lc f' x α, pp_lc f' β, e3, pp_comm f' α, pp_lc β x g', ← pp_addr, h3, pp_comm, pp_one]
    have e5 := pp_top (q := psum (pp x α) (pp β (pol n h x))) (K := 0) f1 f2 (BD_sum (BD_pp bx ba) (BD_pp bb BD_pol)) (fun k _ => by
      have h6 : pk (n - e + k) f' (psum (pp x α) (pp β (pol n h x))) = x (n - e + k) := (congrFun e4 _).symm
      rw [h6]
      exact hx _ (by omega))
    intro c _
    have e6 : psum (pp x α) (pp β (pol n h x)) = fun _ => 0 := funext fun k => e5 k (Nat.zero_le k)
    rw [e4, e6, pp_comm, pp_zero]
  · refine ⟨pp (zs (j - (n - e))) f', ?_, fun c hc => ?_, fun i hi => ?_⟩
    · show pk j (zs (j - (n - e))) f' ≠ 0
      rw [pk_zs, if_pos (by omega), show j - (j - (n - e)) = n - e by omega]
      exact f1
    · show pk c (zs (j - (n - e))) f' = 0
      rw [pk_zs, if_pos (by omega)]
      exact f2 _ (by omega)
    · have hx : ∀ c, j < c → pp (zs (j - (n - e))) f' c = 0 := fun c hc => by
        show pk c (zs (j - (n - e))) f' = 0
        rw [pk_zs, if_pos (by omega)]
        exact f2 _ (by omega)
      rw [act_dot (fun c hc => hx c (by omega))]
      refine hk_2 hX1 hX (fun i hi => hx i (by omega)) aX (y := pp (zs (j - (n - e))) g') (BD_pp (BD_zs _) bg) ?_ (i + 1) (by omega) (by omega)
      rw [← h2, ← h1, pp_assoc, pp_assoc, pp_lc f' d g', pp_lc f' (zs (j - (n - e))) g', pp_lc d (zs (j - (n - e)))]
end
