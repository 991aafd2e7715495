/-! DETERMINANTS: rows taken in one after another. -/
def ex : List Bool → (Nat → F) → (List Bool → F) → F
  | [], _, _ => 0
  | false :: S, r, w => ex S (fun i => r (i + 1)) (fun T => w (false :: T))
  | true :: S, r, w => r 0 * w (false :: S) - ex S (fun i => r (i + 1)) (fun T => w (true :: T))
theorem ex_n {r : Nat → F} {w : List Bool → F} : ex [] r w = 0 := rfl
theorem ex_f {S : List Bool} {r : Nat → F} {w : List Bool → F} : ex (false :: S) r w = ex S (fun i => r (i + 1)) (fun T => w (false :: T)) := rfl
theorem ex_t {S : List Bool} {r : Nat → F} {w : List Bool → F} : ex (true :: S) r w = r 0 * w (false :: S) - ex S (fun i => r (i + 1)) (fun T => w (true :: T)) := rfl
theorem ex_lr (S : List Bool) : ∀ (r s : Nat → F) (a : F) (w : List Bool → F), ex S (fun i => r i + a * s i) w = ex S r w + a * ex S s w := by
  induction S with
  | nil => intro r s a w; rw [ex_n, ex_n, ex_n]; grind
  | cons b S ih =>
    intro r s a w
    cases b with
    | false => rw [ex_f, ex_f, ex_f]; exact ih _ _ _ _
    | true => rw [ex_t, ex_t, ex_t, ih]; grind
theorem ex_lw (S : List Bool) : ∀ (r : Nat → F) (a : F) (w v : List Bool → F), ex S r (fun T => w T + a * v T) = ex S r w + a * ex S r v := by
  induction S with
  | nil => intro r a w v; rw [ex_n, ex_n, ex_n]; grind
  | cons b S ih =>
    intro r a w v
    cases b with
    | false => rw [ex_f, ex_f, ex_f]; exact ih _ _ (fun T => w (false :: T)) (fun T => v (false :: T))
    | true => rw [ex_t, ex_t, ex_t, ih _ _ (fun T => w (true :: T)) (fun T => v (true :: T))]; grind
theorem ex_0w (S : List Bool) : ∀ (r : Nat → F), ex S r (fun _ => 0) = 0 := by
  induction S with
  | nil => intro r; rfl
  | cons b S ih =>
    intro r
    cases b with
    | false => rw [ex_f]; exact ih _
    | true => rw [ex_t, ih]; grind
theorem ex_0r (S : List Bool) (w : List Bool → F) : ex S (fun _ => 0) w = 0 := by
  have h := ex_lr S (fun _ => 0) (fun _ => 0) 1 w
  rw [show (fun _ : Nat => (0 : F) + 1 * 0) = fun _ => 0 from funext fun _ => by grind] at h
  grind
theorem ex_sw (S : List Bool) (r : Nat → F) (a : F) (w : List Bool → F) : ex S r (fun T => a * w T) = a * ex S r w := by
  have h := ex_lw S r a (fun _ => 0) w
  rw [ex_0w, show (fun T : List Bool => (0 : F) + a * w T) = fun T => a * w T from funext fun _ => by grind] at h
  rw [h]
  grind
theorem ex_cr (S : List Bool) : ∀ (r s : Nat → F) (w : List Bool → F), (∀ i, i < S.length → r i = s i) → ex S r w = ex S s w := by
  induction S with
  | nil => intros; rfl
  | cons b S ih =>
    intro r s w h
    have e := fun w => ih (fun i => r (i + 1)) (fun i => s (i + 1)) w (fun i hi => h (i + 1) (by rw [List.length_cons]; omega))
    cases b with
    | false => rw [ex_f, ex_f, e]
    | true => rw [ex_t, ex_t, e, h 0 (by rw [List.length_cons]; omega)]
theorem ex_cw (S : List Bool) : ∀ (r : Nat → F) (w v : List Bool → F), (∀ T, T.length = S.length → w T = v T) → ex S r w = ex S r v := by
  induction S with
  | nil => intros; rfl
  | cons b S ih =>
    intro r w v h
    cases b with
    | false => rw [ex_f, ex_f]; exact ih _ _ _ (fun T hT => h _ (by rw [List.length_cons, List.length_cons, hT]))
    | true => rw [ex_t, ex_t, h (false :: S) (by rw [List.length_cons, List.length_cons]), ih _ _ (fun T => v (true :: T)) (fun T hT => h _ (by rw [List.length_cons, List.length_cons, hT]))]
theorem ex_an (S : List Bool) : ∀ (r s : Nat → F) (w : List Bool → F), ex S r (fun T => ex T s w) + ex S s (fun T => ex T r w) = 0 := by
  induction S with
  | nil => intro r s w; rw [ex_n, ex_n]; grind
  | cons b S ih =>
    intro r s w
    cases b with
    | false => rw [ex_f, ex_f]; exact ih _ _ (fun T => w (false :: T))
    | true =>
      rw [ex_t, ex_t, ex_f, ex_f]
      have h := ih (fun i => r (i + 1)) (fun i => s (i + 1)) (fun T => w (true :: T))
      have e : ∀ (x y : Nat → F), ex S (fun i => x (i + 1)) (fun T => ex (true :: T) y w) = y 0 * ex S (fun i => x (i + 1)) (fun T => w (false :: T)) - ex S (fun i => x (i + 1)) (fun T => ex T (fun i => y (i + 1)) (fun T => w (true :: T))) := fun x y => by
        have := ex_lw S (fun i => x (i + 1)) (0 - 1) (fun T => y 0 * w (false :: T)) (fun T => ex T (fun i => y (i + 1)) (fun T => w (true :: T)))
        rw [ex_sw] at this
        rw [show (fun T => ex (true :: T) y w) = fun T => y 0 * w (false :: T) + (0 - 1) * ex T (fun i => y (i + 1)) (fun T => w (true :: T)) from funext fun T => by rw [ex_t]; grind, this]
        grind
      rw [e r s, e s r]
      grind
theorem F_dbl {x : F} (h : x + x = 0) : x = 0 := by
  have h2 : (2 : F) * x = 0 := by grind
  rcases F_mul0 h2 with h3 | h3
  · exact absurd h3 (by decide)
  · exact h3
theorem ex_qq (S : List Bool) (r : Nat → F) (w : List Bool → F) : ex S r (fun T => ex T r w) = 0 := F_dbl (ex_an S r r w)
/-- rows, from the last one on -/
def wd : List (Nat → F) → List Bool → F
  | [], T => if T.all (!·) = true then 1 else 0
  | r :: l, T => ex T r (wd l)
theorem wd_c {r : Nat → F} {l : List (Nat → F)} {T : List Bool} : wd (r :: l) T = ex T r (wd l) := rfl
theorem wd_c' {r : Nat → F} {l : List (Nat → F)} : wd (r :: l) = fun T => ex T r (wd l) := rfl
theorem wd_lin (l1 : List (Nat → F)) (r s : Nat → F) (a : F) (l2 : List (Nat → F)) : ∀ T, wd (l1 ++ (fun i => r i + a * s i) :: l2) T = wd (l1 ++ r :: l2) T + a * wd (l1 ++ s :: l2) T := by
  induction l1 with
  | nil => intro T; exact ex_lr T r s a (wd l2)
  | cons q l1 ih =>
    intro T
    rw [List.cons_append, List.cons_append, List.cons_append, wd_c, wd_c, wd_c, show wd (l1 ++ (fun i => r i + a * s i) :: l2) = fun T => wd (l1 ++ r :: l2) T + a * wd (l1 ++ s :: l2) T from funext ih, ex_lw]
theorem wd_in (l : List (Nat → F)) (r : Nat → F) : r ∈ l → ∀ T, ex T r (wd l) = 0 := by
  induction l with
  | nil => intro h; cases h
  | cons s l ih =>
    intro h T
    rw [wd_c']
    rcases List.mem_cons.mp h with rfl | h
    · exact ex_qq T r (wd l)
    · have h1 := ex_an T r s (wd l)
      rw [show (fun T => ex T r (wd l)) = fun _ => 0 from funext fun T => ih h T, ex_0w] at h1
      grind
theorem wd_two (l1 : List (Nat → F)) (r : Nat → F) (l2 : List (Nat → F)) (h : r ∈ l1 ∨ r ∈ l2) : ∀ T, wd (l1 ++ r :: l2) T = 0 := by
  induction l1 with
  | nil => exact fun T => wd_in l2 r (h.elim (fun h => by cases h) id) T
  | cons q l1 ih =>
    intro T
    rw [List.cons_append, wd_c]
    by_cases hq : q = r
    · subst hq
      exact wd_in _ _ (List.mem_append.mpr (Or.inr List.mem_cons_self)) T
    · rw [show wd (l1 ++ r :: l2) = fun _ => 0 from funext fun T => ih (h.elim (fun h => Or.inl ((List.mem_cons.mp h).resolve_left (fun e => hq e.symm))) Or.inr) T, ex_0w]
theorem wd_cg (l1 : List (Nat → F)) (r s : Nat → F) (l2 : List (Nat → F)) (k : Nat) (h : ∀ i, i < k → r i = s i) : ∀ T : List Bool, T.length = k → wd (l1 ++ r :: l2) T = wd (l1 ++ s :: l2) T := by
  induction l1 with
  | nil => exact fun T hT => ex_cr T r s _ (fun i hi => h i (by omega))
  | cons q l1 ih =>
    intro T hT
    rw [List.cons_append, List.cons_append, wd_c, wd_c]
    exact ex_cw T q _ _ (fun T' hT' => ih T' (by omega))
def rws (M : Nat → Nat → F) : Nat → Nat → List (Nat → F)
  | _, 0 => []
  | s, t + 1 => M s :: rws M (s + 1) t
theorem rws_cg {M M' : Nat → Nat → F} (t : Nat) : ∀ s, (∀ k, s ≤ k → k < s + t → M k = M' k) → rws M s t = rws M' s t := by
  induction t with
  | zero => intros; rfl
  | succ t ih =>
    intro s h
    show M s :: rws M (s + 1) t = M' s :: rws M' (s + 1) t
    rw [h s (Nat.le_refl _) (by omega), ih (s + 1) (fun k h1 h2 => h k (by omega) (by omega))]
theorem rws_sp {M : Nat → Nat → F} (t : Nat) : ∀ s i, i < t → rws M s t = rws M s i ++ M (s + i) :: rws M (s + i + 1) (t - i - 1) := by
  induction t with
  | zero => intro s i h; omega
  | succ t ih =>
    intro s i h
    cases i with
    | zero => rfl
    | succ i =>
      show M s :: rws M (s + 1) t = M s :: (rws M (s + 1) i ++ _)
      rw [ih (s + 1) i (by omega), show s + 1 + i = s + (i + 1) by omega, show t + 1 - (i + 1) - 1 = t - i - 1 by omega]
theorem rws_in {M : Nat → Nat → F} (t : Nat) : ∀ s k, s ≤ k → k < s + t → M k ∈ rws M s t := by
  induction t with
  | zero => intro s k h1 h2; omega
  | succ t ih =>
    intro s k h1 h2
    by_cases e : k = s
    · rw [e]; exact List.mem_cons_self
    · exact List.mem_cons_of_mem _ (ih (s + 1) k (by omega) (by omega))
/-- the determinant of n rows of n numbers -/
def dt (n : Nat) (M : Nat → Nat → F) : F := wd (rws M 0 n) (List.replicate n true)
def upr (M : Nat → Nat → F) (i : Nat) (r : Nat → F) : Nat → Nat → F := fun k => if k = i then r else M k
theorem dt_sp {n i : Nat} {M : Nat → Nat → F} {r : Nat → F} (h : i < n) : dt n (upr M i r) = wd (rws M 0 i ++ r :: rws M (i + 1) (n - i - 1)) (List.replicate n true) := by
  unfold dt
  rw [rws_sp n 0 i h, Nat.zero_add, rws_cg (M := upr M i r) (M' := M) i 0 (fun k _ h2 => if_neg (by omega)), rws_cg (M := upr M i r) (M' := M) (n - i - 1) (i + 1) (fun k h1 _ => if_neg (by omega)), show upr M i r i = r from if_pos rfl]
theorem upr_self {M : Nat → Nat → F} {i : Nat} : upr M i (M i) = M := funext fun k => by
  unfold upr
  by_cases e : k = i
  · rw [if_pos e, e]
  · rw [if_neg e]
theorem dt_lin {n i : Nat} {M : Nat → Nat → F} {r s : Nat → F} {a : F} (h : i < n) : dt n (upr M i (fun c => r c + a * s c)) = dt n (upr M i r) + a * dt n (upr M i s) := by
  rw [dt_sp h, dt_sp h, dt_sp h, wd_lin]
theorem dt_two {n i j : Nat} {M : Nat → Nat → F} (hi : i < n) (hj : j < n) (hij : i ≠ j) : dt n (upr M i (M j)) = 0 := by
  rw [dt_sp hi]
  refine wd_two _ _ _ ?_ _
  rcases Nat.lt_or_gt_of_ne hij with q | q
  · exact Or.inr (rws_in _ _ _ (by omega) (by omega))
  · exact Or.inl (rws_in _ _ _ (by omega) (by omega))
theorem dt_cg {n : Nat} {M M' : Nat → Nat → F} (h : ∀ i, i < n → ∀ c, c < n → M i c = M' i c) : dt n M = dt n M' := by
  have key : ∀ k, k ≤ n → dt n (fun i => if i < k then M' i else M i) = dt n M := by
    intro k
    induction k with
    | zero => intro _; exact congrArg (dt n) (funext fun i => if_neg (by omega))
    | succ k ih =>
      intro hk
      rw [← ih (by omega)]
      have e1 : (fun i => if i < k + 1 then M' i else M i) = upr (fun i => if i < k then M' i else M i) k (M' k) := funext fun i => by
        unfold upr
        by_cases q : i = k
        · rw [if_pos (by omega), if_pos q, q]
        · rw [if_neg q]
          by_cases q2 : i < k
          · exact (if_pos (by omega)).trans (if_pos q2).symm
          · exact (if_neg (by omega)).trans (if_neg q2).symm
      have e2 : (fun i => if i < k then M' i else M i) = upr (fun i => if i < k then M' i else M i) k (M k) := by
        have := upr_self (M := fun i => if i < k then M' i else M i) (i := k)
        simp only [if_neg (Nat.lt_irrefl k)] at this
        exact this.symm
      rw [e1]
      conv => rhs; rw [e2]
      rw [dt_sp (by omega), dt_sp (by omega)]
      exact wd_cg _ _ _ _ n (fun c hc => (h k (by omega) c hc).symm) _ List.length_replicate
  have h1 := key n (Nat.le_refl n)
  rw [← h1]
  unfold dt
  rw [rws_cg n 0 (fun k _ h2 => if_pos (by omega))]
/-- a row more, so many times another one -/
theorem dt_more {n i j : Nat} {M : Nat → Nat → F} {a : F} (hi : i < n) (hj : j < n) (hij : i ≠ j) : dt n (upr M i (fun c => M i c + a * M j c)) = dt n M := by
  rw [dt_lin hi, dt_two hi hj hij, upr_self]
  grind
/-- rows that change places, one of them with the other sign -/
theorem dt_swp {n i j : Nat} {M : Nat → Nat → F} (hi : i < n) (hj : j < n) (hij : i ≠ j) : dt n (fun k => if k = i then (fun c => 0 - M j c) else if k = j then M i else M k) = dt n M := by
  have h1 := dt_more (M := M) (a := 0 - 1) hi hj hij
  have h2 := dt_more (M := upr M i (fun c => M i c + (0 - 1) * M j c)) (a := 1) hj hi (Ne.symm hij)
  have h3 := dt_more (M := upr (upr M i (fun c => M i c + (0 - 1) * M j c)) j (fun c => upr M i (fun c => M i c + (0 - 1) * M j c) j c + 1 * upr M i (fun c => M i c + (0 - 1) * M j c) i c)) (a := 0 - 1) hi hj hij
  rw [← h1, ← h2, ← h3]
  refine congrArg (dt n) (funext fun k => funext fun c => ?_)
  unfold upr
  by_cases q : k = i
  · simp only [q, hij, if_true, if_false, Ne.symm hij]
    grind
  · by_cases q2 : k = j
    · simp only [q2, Ne.symm hij, if_true, if_false]
      grind
    · simp only [q, q2, if_false]
/-- a row of 0 -/
theorem dt_z {n i : Nat} {M : Nat → Nat → F} (hi : i < n) (h : ∀ c, c < n → M i c = 0) : dt n M = 0 := by
  rw [← upr_self (M := M) (i := i)]
  have e : dt n (upr M i (M i)) = dt n (upr M i (fun c => M i c + 1 * M i c)) := dt_cg (fun k hk c hc => by
    unfold upr
    by_cases q : k = i
    · rw [if_pos q, if_pos q, h c hc]; grind
    · rw [if_neg q, if_neg q])
  rw [dt_lin hi] at e
  grind
/-- the rows behind r, each less so many times row r -/
theorem dt_low {n r : Nat} {M : Nat → Nat → F} (f : Nat → F) (hr : r < n) : dt n (fun i c => if r < i then M i c - f i * M r c else M i c) = dt n M := by
  have key : ∀ k, k ≤ n → dt n (fun i c => if r < i ∧ i < k then M i c - f i * M r c else M i c) = dt n M := by
    intro k
    induction k with
    | zero => intro _; exact congrArg (dt n) (funext fun i => funext fun c => if_neg (by omega))
    | succ k ih =>
      intro hk
      by_cases q : r < k
      · rw [← ih (by omega), ← dt_more (M := fun i c => if r < i ∧ i < k then M i c - f i * M r c else M i c) (i := k) (j := r) (a := 0 - f k) (by omega) hr (by omega)]
        refine congrArg (dt n) (funext fun i => funext fun c => ?_)
        unfold upr
        by_cases e : i = k
        · subst e
          rw [if_pos ⟨q, by omega⟩, if_pos rfl, if_neg (by omega), if_neg (by omega)]
          grind
        · rw [if_neg e]
          by_cases q2 : r < i ∧ i < k
          · exact (if_pos ⟨q2.1, by omega⟩).trans (if_pos q2).symm
          · exact (if_neg (by omega)).trans (if_neg q2).symm
      · rw [← ih (by omega)]
        exact congrArg (dt n) (funext fun i => funext fun c => by rw [if_neg (by omega), if_neg (by omega)])
  rw [← key n (Nat.le_refl n)]
  exact dt_cg (fun i hi c _ => by
    by_cases q : r < i
    · rw [if_pos q, if_pos ⟨q, hi⟩]
    · rw [if_neg q, if_neg (by omega)])
theorem wd_tl (l : List (Nat → F)) : ∀ S, wd l (false :: S) = wd (l.map (fun r i => r (i + 1))) S := by
  induction l with
  | nil => intro S; rfl
  | cons r l ih =>
    intro S
    rw [List.map_cons, wd_c, wd_c, ex_f, show (fun T => wd l (false :: T)) = wd (l.map (fun r i => r (i + 1))) from funext ih]
theorem wd_t0 (l : List (Nat → F)) (h : ∀ r ∈ l, r 0 = 0) : ∀ S, wd l (true :: S) = 0 := by
  induction l with
  | nil => intro S; rfl
  | cons r l ih =>
    intro S
    rw [wd_c, ex_t, h r List.mem_cons_self, show (fun T => wd l (true :: T)) = fun _ => 0 from funext (ih (fun s hs => h s (List.mem_cons_of_mem _ hs))), ex_0w]
    grind
theorem rws_mp {M : Nat → Nat → F} (t : Nat) : ∀ s, (rws M (s + 1) t).map (fun r i => r (i + 1)) = rws (fun i c => M (i + 1) (c + 1)) s t := by
  induction t with
  | zero => intro s; rfl
  | succ t ih =>
    intro s
    show (fun i => M (s + 1) (i + 1)) :: (rws M (s + 1 + 1) t).map _ = _ :: _
    rw [ih (s + 1)]
theorem rws_all {M : Nat → Nat → F} {P : (Nat → F) → Prop} (t : Nat) : ∀ s, (∀ k, s ≤ k → k < s + t → P (M k)) → ∀ r ∈ rws M s t, P r := by
  induction t with
  | zero => intro s h r hr; cases hr
  | succ t ih =>
    intro s h r hr
    rcases List.mem_cons.mp hr with rfl | hr
    · exact h s (Nat.le_refl _) (by omega)
    · exact ih (s + 1) (fun k h1 h2 => h k (by omega) (by omega)) r hr
/-- by the first column, where it is 0 but at the top -/
theorem dt_fst {n : Nat} {M : Nat → Nat → F} (h : ∀ i, 0 < i → i < n + 1 → M i 0 = 0) : dt (n + 1) M = M 0 0 * dt n (fun i c => M (i + 1) (c + 1)) := by
  unfold dt
  show ex (true :: List.replicate n true) (M 0) (wd (rws M 1 n)) = _
  rw [ex_t, wd_tl, rws_mp n 0, show (fun T => wd (rws M 1 n) (true :: T)) = fun _ => 0 from funext (wd_t0 _ (rws_all n 1 (fun k h1 h2 => h k (by omega) (by omega)))), ex_0w]
  grind
def dgp (M : Nat → Nat → F) : Nat → F
  | 0 => 1
  | k + 1 => dgp M k * M k k
theorem dgp_f (k : Nat) : ∀ M : Nat → Nat → F, dgp M (k + 1) = M 0 0 * dgp (fun i c => M (i + 1) (c + 1)) k := by
  induction k with
  | zero => intro M; show 1 * M 0 0 = M 0 0 * 1; grind
  | succ k ih =>
    intro M
    show dgp M (k + 1) * M (k + 1) (k + 1) = M 0 0 * (dgp (fun i c => M (i + 1) (c + 1)) k * M (k + 1) (k + 1))
    rw [ih M]
    grind
theorem dt_tri (n : Nat) : ∀ M : Nat → Nat → F, (∀ i, i < n → ∀ c, c < i → M i c = 0) → dt n M = dgp M n := by
  induction n with
  | zero => intro M _; rfl
  | succ n ih =>
    intro M h
    rw [dt_fst (fun i h1 h2 => h i h2 0 h1), ih _ (fun i hi c hc => h (i + 1) (by omega) (c + 1) (by omega)), ← dgp_f]
