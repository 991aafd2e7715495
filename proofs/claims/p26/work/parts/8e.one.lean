/-! A column times a row, more: the numerator; the gains. -/
/-- rows ahead of k have their share -/
theorem dt_rk1 {n : Nat} {M : Nat → Nat → F} {b c : Nat → F} (k : Nat) : k ≤ n → dt n (fun i j => if i < k then M i j + b i * c j else M i j) = dt n M + sm k (fun i => b i * dt n (upr M i c)) := by
  induction k with
  | zero =>
    intro _
    rw [sm_0, show (fun i j => if i < 0 then M i j + b i * c j else M i j) = M from funext fun i => funext fun j => if_neg (by omega)]
    grind
  | succ k ih =>
    intro hk
    have e1 : (fun i j => if i < k + 1 then M i j + b i * c j else M i j) = upr (fun i j => if i < k then M i j + b i * c j else M i j) k (fun j => M k j + b k * c j) := funext fun i => funext fun j => by
      unfold upr
      by_cases q : i = k
      · rw [if_pos (by omega), if_pos q, q]
      · rw [if_neg q]
        show _ = if i < k then M i j + b i * c j else M i j
        by_cases q2 : i < k
        · rw [if_pos (by omega), if_pos q2]
        · rw [if_neg (by omega), if_neg q2]
    have e2 : upr (fun i j => if i < k then M i j + b i * c j else M i j) k (M k) = fun i j => if i < k then M i j + b i * c j else M i j := funext fun i => funext fun j => by
      unfold upr
      by_cases q : i = k
      · rw [if_pos q, if_neg (by omega), q]
      · rw [if_neg q]
    have e3 : ∀ t, t ≤ k → dt n (upr (fun i j => if i < t then M i j + b i * c j else M i j) k c) = dt n (upr M k c) := by
      intro t
      induction t with
      | zero => intro _; exact congrArg (dt n) (funext fun i => funext fun j => by unfold upr; by_cases q : i = k <;> simp [q])
      | succ t iht =>
        intro ht
        rw [← iht (by omega), ← dt_more (M := upr (fun i j => if i < t then M i j + b i * c j else M i j) k c) (i := t) (j := k) (a := b t) (by omega) (by omega) (by omega)]
        refine congrArg (dt n) (funext fun i => funext fun j => ?_)
        unfold upr
        by_cases q : i = t
        · rw [if_neg (by omega), if_pos q, if_neg (by omega), if_pos rfl, q]
          show (if t < t + 1 then _ else _) = (if t < t then _ else M t j) + b t * c j
          rw [if_pos (by omega), if_neg (by omega)]
        · rw [if_neg q]
          by_cases q2 : i = k
          · rw [if_pos q2, if_pos q2]
          · rw [if_neg q2, if_neg q2]
            show (if i < t + 1 then _ else _) = (if i < t then _ else _)
            by_cases q3 : i < t
            · rw [if_pos (by omega), if_pos q3]
            · rw [if_neg (by omega), if_neg q3]
    rw [e1, dt_lin (by omega), e2, ih (by omega), e3 k (Nat.le_refl k), sm_s]
    grind
theorem dt_one {n : Nat} {M : Nat → Nat → F} {b c : Nat → F} : dt n (fun i j => M i j + b i * c j) = dt n M + sm n (fun i => b i * dt n (upr M i c)) := by
  rw [← dt_rk1 n (Nat.le_refl n)]
  exact dt_cg (fun i hi j _ => (if_pos hi).symm)
theorem dgp_sc {P y : F} {M : Nat → Nat → F} {k : Nat} (hd : ∀ i, M i i = if i = k then y else P) (t : Nat) : dgp M t * P = if k < t then pw P t * y else pw P (t + 1) := by
  induction t with
  | zero => show 1 * P = if k < 0 then _ else 1 * P; rw [if_neg (by omega)]
  | succ t ih =>
    show dgp M t * M t t * P = _
    rw [hd t]
    by_cases q : t = k
    · rw [if_pos q, if_pos (by omega)]
      rw [if_neg (by omega)] at ih
      rw [show dgp M t * y * P = dgp M t * P * y by grind, ih]
    · rw [if_neg q]
      rw [ih]
      by_cases q2 : k < t
      · rw [if_pos q2, if_pos (by omega)]
        show _ = pw P t * P * y
        grind
      · rw [if_neg q2, if_neg (by omega)]
        rfl
/-- P times the identity, but for one row -/
theorem dt_sc {n k : Nat} {P : F} {y : Nat → F} (hk : k < n) (hP : P ≠ 0) : P * dt n (upr (fun i c => if i = c then P else 0) k y) = pw P n * y k := by
  have key : ∀ t, t ≤ n → dt n (upr (fun i c => if i = c then P else 0) k (fun c => if c < t ∧ c ≠ k then 0 else y c)) = dt n (upr (fun i c => if i = c then P else 0) k y) := by
    intro t
    induction t with
    | zero => intro _; exact congrArg (fun r => dt n (upr _ k r)) (funext fun c => if_neg (by omega))
    | succ t ih =>
      intro ht
      rw [← ih (by omega)]
      by_cases q : t = k
      · exact congrArg (fun r => dt n (upr _ k r)) (funext fun c => by
          by_cases q2 : c < t ∧ c ≠ k
          · rw [if_pos (by omega), if_pos q2]
          · rw [if_neg (by omega), if_neg q2])
      · have h1 := dt_lin (n := n) (i := k) (M := fun i c => if i = c then P else 0) (r := fun c => if c < t ∧ c ≠ k then 0 else y c) (s := (fun i c => if i = c then P else 0) t) (a := 0 - y t * iv P) hk
        rw [dt_two hk (by omega) (fun z => q z.symm)] at h1
        have e : (fun c => (if c < t ∧ c ≠ k then 0 else y c) + (0 - y t * iv P) * (fun i c => if i = c then P else (0 : F)) t c) = fun c => if c < t + 1 ∧ c ≠ k then 0 else y c := funext fun c => by
          show (if c < t ∧ c ≠ k then 0 else y c) + (0 - y t * iv P) * (if t = c then P else 0) = _
          have hv := iv_l hP
          by_cases q2 : t = c
          · rw [if_pos q2, if_neg (by omega), if_pos (by omega), q2]
            grind
          · rw [if_neg q2]
            by_cases q3 : c < t ∧ c ≠ k
            · rw [if_pos q3, if_pos (by omega)]; grind
            · rw [if_neg q3, if_neg (by omega)]; grind
        rw [e] at h1
        rw [h1]
        grind
  rw [← key n (Nat.le_refl n), dt_tri n _ (fun i hi c hc => by
    unfold upr
    by_cases q : i = k
    · rw [if_pos q, if_pos (by omega)]
    · rw [if_neg q]
      exact if_neg (by omega))]
  have := dgp_sc (P := P) (y := y k) (M := upr (fun i c => if i = c then P else 0) k (fun c => if c < n ∧ c ≠ k then 0 else y c)) (k := k) (fun i => by
    unfold upr
    by_cases q : i = k
    · rw [if_pos q, if_pos q, if_neg (by omega), q]
    · rw [if_neg q, if_neg q]
      exact if_pos rfl) n
  rw [if_pos hk] at this
  rw [← this]
  grind
theorem pw_ne {x : F} (h : x ≠ 0) (k : Nat) : pw x k ≠ 0 := by
  induction k with
  | zero => show (1 : F) ≠ 0; decide
  | succ k ih => exact fun e => (F_mul0 e).elim ih h
/-- the squares of Faddeev and Leverrier, at a point -/
def adj (n : Nat) (A : Nat → Nat → F) (x : F) (i j : Nat) : F := sm n (fun s => pw x (n - 1 - s) * flM n A s i j)
theorem adj_p {n : Nat} {A : Nat → Nat → F} {x : F} (hn : n ≤ 8) {i j : Nat} (hi : i < n) (hj : j < n) : mx n (fun i c => (if i = c then x else 0) - A i c) (adj n A x) i j = if i = j then pe n (pbl n A) x else 0 := by
  have e0 : mx n (fun i c => (if i = c then x else 0) - A i c) (adj n A x) i j = x * adj n A x i j - dot n (A i) (fun k => adj n A x k j) := by
    show dot n (fun c => (if i = c then x else 0) - A i c) _ = _
    rw [show (fun c => (if i = c then x else 0) - A i c) = fun c => x * (if i = c then 1 else 0) - 1 * A i c from funext fun c => by
      by_cases q : i = c
      · rw [if_pos q, if_pos q]; grind
      · rw [if_neg q, if_neg q]; grind, dot_less (f := fun c => x * (if i = c then 1 else 0)) (g := A i), dot_scale, dot_unit (x := fun k => adj n A x k j) hi]
    grind
  have e1 : dot n (A i) (fun k => adj n A x k j) = sm n (fun s => pw x (n - 1 - s) * flG n A (flM n A s) i j) := by
    have h1 := dot_smr (n := n) (l := n) (g := fun s k => pw x (n - 1 - s) * flM n A s k j) (w := A i)
    refine h1.trans (sm_congr (fun s _ => ?_))
    show dot n (A i) (fun k => pw x (n - 1 - s) * flM n A s k j) = _
    rw [dot_scaler]
    rfl
  have key : ∀ t, t ≤ n → x * sm t (fun s => pw x (n - 1 - s) * flM n A s i j) - sm t (fun s => pw x (n - 1 - s) * flG n A (flM n A s) i j) = pw x n * (if i = j then 1 else 0) - pw x (n - t) * flM n A t i j + (if i = j then sm t (fun s => pw x (n - 1 - s) * flt n A (flM n A s) s) else 0) := by
    intro t
    induction t with
    | zero =>
      intro _
      rw [sm_0, sm_0, sm_0, Nat.sub_zero]
      show _ = pw x n * _ - pw x n * (if i = j then 1 else 0) + _
      by_cases q : i = j
      · rw [if_pos q, if_pos q]; grind
      · rw [if_neg q, if_neg q]; grind
    | succ t ih =>
      intro ht
      have h1 := ih (by omega)
      rw [sm_s, sm_s, sm_s, flM_s]
      have e2 : pw x (n - t) = pw x (n - (t + 1)) * x := by rw [show n - t = n - (t + 1) + 1 by omega]; rfl
      rw [show n - 1 - t = n - (t + 1) by omega]
      rw [e2] at h1
      by_cases q : i = j
      · rw [if_pos q] at h1 ⊢
        rw [if_pos q] at h1 ⊢
        rw [if_pos q]
        grind
      · rw [if_neg q] at h1 ⊢
        rw [if_neg q] at h1 ⊢
        rw [if_neg q]
        grind
  have h := key n (Nat.le_refl n)
  rw [fl_zero hn hi hj] at h
  rw [e0, e1]
  show x * sm n _ - _ = _
  rw [h]
  have e3 : sm n (fun s => pw x (n - 1 - s) * flt n A (flM n A s) s) = sm n (fun k => pbl n A k * pw x k) :=
    (sm_rev (n := n) (f := fun s => pw x (n - 1 - s) * flt n A (flM n A s) s)).symm.trans (sm_congr (fun k hk => by
      show pw x (n - 1 - (n - 1 - k)) * flt n A (flM n A (n - 1 - k)) (n - 1 - k) = _
      unfold pbl
      rw [if_neg (by omega), show n - 1 - (n - 1 - k) = k by omega]
      grind))
  by_cases q : i = j
  · rw [if_pos q, if_pos q, if_pos q, e3]
    unfold pe
    rw [sm_s, pbl_1]
    grind
  · rw [if_neg q, if_neg q, if_neg q]
    grind
theorem adj_q {n : Nat} {A : Nat → Nat → F} {b c : Nat → F} {x : F} : dot n (fun i => dot n c (fun k => adj n A x k i)) b = pe n (pab n A b c) x := by
  have e1 : ∀ i, dot n c (fun k => adj n A x k i) = sm n (fun s => pw x (n - 1 - s) * dot n c (fun k => flM n A s k i)) := fun i => by
    have h1 := dot_smr (n := n) (l := n) (g := fun s k => pw x (n - 1 - s) * flM n A s k i) (w := c)
    refine h1.trans (sm_congr (fun s _ => ?_))
    exact dot_scaler
  rw [show (fun i => dot n c (fun k => adj n A x k i)) = fun i => sm n (fun s => pw x (n - 1 - s) * dot n c (fun k => flM n A s k i)) from funext e1]
  have h2 := dot_sm (n := n) (l := n) (g := fun s i => pw x (n - 1 - s) * dot n c (fun k => flM n A s k i)) (w := b)
  rw [h2]
  unfold pe
  rw [sm_s, show pab n A b c n = 0 from if_pos rfl, ← sm_rev]
  have e3 : sm n (fun k => pab n A b c k * pw x k) = sm n (fun k => dot n (fun i => pw x (n - 1 - (n - 1 - k)) * dot n c (fun z => flM n A (n - 1 - k) z i)) b) := sm_congr (fun k hk => by
    rw [dot_scale, ← dot_adj, show n - 1 - (n - 1 - k) = k by omega]
    unfold pab
    rw [if_neg (by omega)]
    grind)
  rw [e3]
  grind
theorem one_ne {n : Nat} {A : Nat → Nat → F} {b c : Nat → F} {x : F} (hn : n ≤ 8) (hP : pe n (pbl n A) x ≠ 0) : dt n (atM A b c x 1) = pe n (pbl n A) x + pe n (pab n A b c) x := by
  generalize hPv : pe n (pbl n A) x = P at *
  generalize hM : (fun i c => (if i = c then x else 0) - A i c) = M
  have h0 : dt n M = P := by rw [← hM, chr hn, hPv]
  have hMB : ∀ i, i < n → ∀ j, j < n → mx n M (adj n A x) i j = if i = j then P else 0 := fun i hi j hj => by rw [← hM, adj_p hn hi hj, hPv]
  have h1 : dt n M * dt n (adj n A x) = pw P n := by
    rw [← dt_mx, dt_cg (M' := fun i c => if i = c then P else 0) hMB, dt_tri n _ (fun i _ c hc => if_neg (by omega))]
    have : ∀ t, dgp (fun i c => if i = c then P else 0) t = pw P t := fun t => by
      induction t with
      | zero => rfl
      | succ t ih => show dgp _ t * (if t = t then P else 0) = pw P t * P; rw [ih, if_pos rfl]
    exact this n
  rw [h0] at h1
  have h2 : ∀ k, k < n → dt n (upr M k c) = dot n c (fun z => adj n A x z k) := fun k hk => by
    have e1 : P * (dt n (upr M k c) * dt n (adj n A x)) = pw P n * dot n c (fun z => adj n A x z k) := by
      rw [← dt_mx, ← dt_sc (y := fun j => dot n c (fun z => adj n A x z j)) hk hP]
      refine congrArg (fun z => P * z) (dt_cg (fun i hi j hj => ?_))
      unfold upr
      by_cases q : i = k
      · rw [if_pos q]
        show dot n ((fun z => if z = k then c else M z) i) _ = _
        show dot n (if i = k then c else M i) _ = _
        rw [if_pos q]
      · rw [if_neg q]
        show dot n (if i = k then c else M i) _ = _
        rw [if_neg q]
        exact hMB i hi j hj
    have e2 : pw P n * dt n (upr M k c) = dot n c (fun z => adj n A x z k) * pw P n := by
      rw [← h1]
      rw [← h1] at e1
      grind
    exact F_can (pw_ne hP n) e2
  have e3 : dt n (atM A b c x 1) = dt n (fun i j => M i j + b i * c j) := congrArg (dt n) (funext fun i => funext fun j => by
    rw [← hM]
    unfold atM
    grind)
  rw [e3, dt_one, h0, ← adj_q]
  refine congrArg (fun z => P + z) ?_
  rw [dot_comm]
  exact sm_congr (fun k hk => by rw [h2 k hk])
/-! .. also where the polynomial is 0. -/
def pls (C : Nat → F) : Nat → Nat → List F
  | _, 0 => []
  | s, t + 1 => C s :: pls C (s + 1) t
theorem pls_ev {C : Nat → F} {u : F} (t : Nat) : ∀ s, pev (pls C s t) u = sm t (fun k => C (s + k) * pw u k) := by
  induction t with
  | zero => intro s; rfl
  | succ t ih =>
    intro s
    show C s + u * pev (pls C (s + 1) t) u = _
    rw [ih (s + 1), sm_first]
    have e : sm t (fun i => C (s + (i + 1)) * pw u (i + 1)) = u * sm t (fun k => C (s + 1 + k) * pw u k) := by
      rw [← sm_mul]
      exact sm_congr (fun k _ => by
        rw [show s + (k + 1) = s + 1 + k by omega]
        show _ * (pw u k * u) = _
        grind)
    rw [e]
    show _ = C (s + 0) * 1 + _
    rw [Nat.add_zero]
    grind
theorem pls_len {C : Nat → F} (t : Nat) : ∀ s, (pls C s t).length = t := by
  induction t with
  | zero => intro s; rfl
  | succ t ih => intro s; show (pls C (s + 1) t).length + 1 = t + 1; rw [ih]
theorem pls_in {C : Nat → F} (t : Nat) : ∀ s k, s ≤ k → k < s + t → C k ∈ pls C s t := by
  induction t with
  | zero => intro s k h1 h2; omega
  | succ t ih =>
    intro s k h1 h2
    by_cases e : k = s
    · rw [e]; exact List.mem_cons_self
    · exact List.mem_cons_of_mem _ (ih (s + 1) k (by omega) (by omega))
theorem pe_some {n : Nat} {C : Nat → F} (hn : n ≤ 8) (h : C n ≠ 0) : ∃ x, pe n C x ≠ 0 := by
  refine Classical.byContradiction (fun hne => h ?_)
  have hz : ∀ x, pe n C x = 0 := fun x => Classical.byContradiction (fun q => hne ⟨x, q⟩)
  refine pev_all 10007 (Nat.le_refl _) (pls C 0 (n + 1)) (by rw [pls_len]; omega) (fun i _ => ?_) (C n) (pls_in (n + 1) 0 n (by omega) (by omega))
  rw [pls_ev]
  have := hz (nF i)
  unfold pe at this
  rw [← this]
  exact sm_congr (fun k _ => by rw [Nat.zero_add])
theorem pw_PD {x0 : F} (k : Nat) : PD k (fun u => pw (x0 + u) k) := by
  induction k with
  | zero => exact PD_c 1
  | succ k ih => exact PD_mul ih (PD_add (PD_c x0) (PD_u (Nat.le_refl 1)))
theorem pe_PDx {n : Nat} {C : Nat → F} {x0 : F} : PD n (fun u => pe n C (x0 + u)) := PD_sm (fun k hk => PD_mono (PD_scl (C k) (pw_PD k)) (by omega))
/-- a column times a row, more: the numerator comes to the polynomial -/
theorem one_dt {n : Nat} {A : Nat → Nat → F} {b c : Nat → F} {x : F} (hn : n ≤ 8) : dt n (atM A b c x 1) = pe n (pbl n A) x + pe n (pab n A b c) x := by
  obtain ⟨x0, h0⟩ := pe_some (n := n) (C := pbl n A) hn (by rw [pbl_1]; decide)
  have h1 : PD n (fun u => dt n (atM A b c (x0 + u) 1)) := dt_PD (fun i j => by
    refine PD_congr (PD_add (f := fun u => if i = j then x0 + u else 0) (g := fun _ => 1 * b i * c j - A i j) ?_ (PD_c _)) (fun u => by unfold atM; grind)
    by_cases q : i = j
    · simp only [if_pos q]
      exact PD_add (PD_c x0) (PD_u (Nat.le_refl 1))
    · simp only [if_neg q]
      exact PD_c 0)
  have h2 := PD_zero (d := n) (e := n) (by omega) (PD_sub h1 (PD_add (pe_PDx (C := pbl n A) (x0 := x0)) (pe_PDx (C := pab n A b c) (x0 := x0)))) (pe_PDx (C := pbl n A) (x0 := x0)) (by
    show pe n (pbl n A) (x0 + 0) ≠ 0
    rw [show x0 + 0 = x0 by grind]
    exact h0) (fun u hu => by
    rw [one_ne hn hu]
    grind) (x - x0)
  rw [show x0 + (x - x0) = x by grind] at h2
  grind
theorem at0_dt {n : Nat} {A : Nat → Nat → F} {b c : Nat → F} {x : F} (hn : n ≤ 8) : dt n (atM A b c x 0) = pe n (pbl n A) x := by
  rw [← chr hn]
  exact congrArg (dt n) (funext fun i => funext fun j => by unfold atM; grind)
/-! Gains. -/
def prd (P : Nat → F) (x : F) : Nat → F
  | 0 => 1
  | s + 1 => prd P x s * (x - P s)
theorem ask_ev {P : Nat → F} {x : F} (s : Nat) : pe s (ask P s) x = prd P x s := by
  induction s with
  | zero => show 0 + (if 0 = 0 then 1 else 0) * 1 = (1 : F); rw [if_pos rfl]; grind
  | succ s ih =>
    have e1 : pe (s + 1) (ask P (s + 1)) x = sm (s + 2) (fun k => (if k = 0 then 0 else ask P s (k - 1)) * pw x k) - P s * sm (s + 2) (fun k => ask P s k * pw x k) := by
      have h1 : sm (s + 2) (fun k => (0 - P s) * (ask P s k * pw x k)) = (0 - P s) * sm (s + 2) (fun k => ask P s k * pw x k) := sm_mul
      have h2 : pe (s + 1) (ask P (s + 1)) x = sm (s + 2) (fun k => (if k = 0 then 0 else ask P s (k - 1)) * pw x k + (0 - P s) * (ask P s k * pw x k)) := sm_congr (fun k _ => by
        show ((if k = 0 then 0 else ask P s (k - 1)) - P s * ask P s k) * pw x k = _
        grind)
      rw [h2, sm_add, h1]
      grind
    rw [e1, sm_first (n := s + 1), sm_s (n := s + 1), ask_hi s (s + 1) (by omega), if_pos rfl]
    have e2 : sm (s + 1) (fun i => (if i + 1 = 0 then 0 else ask P s (i + 1 - 1)) * pw x (i + 1)) = x * sm (s + 1) (fun k => ask P s k * pw x k) := by
      rw [← sm_mul]
      exact sm_congr (fun k _ => by
        rw [if_neg (by omega), Nat.add_sub_cancel]
        show ask P s k * (pw x k * x) = _
        grind)
    rw [e2]
    have ih' : sm (s + 1) (fun k => ask P s k * pw x k) = prd P x s := ih
    rw [ih']
    show _ = prd P x s * (x - P s)
    grind
theorem cf_fl {n : Nat} {A : Nat → Nat → F} {b : Nat → F} (s : Nat) : s ≤ n - 1 → ∀ j, j < n → cf n A b (pbl n A) s j = dot n (flM n A s j) b := by
  induction s with
  | zero => exact fun _ j hj => (dot_unit (x := b) hj).symm
  | succ s ih =>
    intro hs j hj
    show dot n (A j) (cf n A b (pbl n A) s) + pbl n A (n - 1 - s) * b j = _
    rw [dot_congr (fun _ _ => rfl) (fun l hl => ih (by omega) l hl), dot_adj]
    have e1 : pbl n A (n - 1 - s) = flt n A (flM n A s) s := by
      unfold pbl
      rw [if_neg (by omega), show n - 1 - (n - 1 - s) = s by omega]
    have e2 : flM n A (s + 1) j = fun k => flG n A (flM n A s) j k + flt n A (flM n A s) s * (if k = j then 1 else 0) := funext fun k => by
      rw [flM_s]
      by_cases q : j = k
      · rw [if_pos q, if_pos q.symm]; grind
      · rw [if_neg q, if_neg (fun z => q z.symm)]; grind
    rw [e1, e2, dot_add (g := fun k => flt n A (flM n A s) s * (if k = j then 1 else 0)), dot_scale, dot_dl hj]
    rfl
/-- the gains bring the asked polynomial -/
theorem gain_dt {n : Nat} {A : Nat → Nat → F} {b y P g : Nat → F} {x : F} (hn : n ≤ 8) (h : rk n (kr n A b) = n) (hy : ∀ i, i < n → dot n (kr n A b i) y = if i + 1 = n then 1 else 0) (hg : ∀ j, j < n → g j = av n A P y n j) : dt n (atM A b g x 1) = prd P x n := by
  rw [one_dt hn, ← ask_ev]
  unfold pe
  rw [← sm_add]
  refine sm_congr (fun k hk => ?_)
  by_cases q : k = n
  · rw [q, pbl_1, show pab n A b g n = 0 from if_pos rfl, ask_top]
    grind
  · have e := gain_eq hn h hy (P := P) (i := k) (by omega)
    have e2 : pab n A b g k = dot n (cf n A b (pbl n A) (n - 1 - k)) (av n A P y n) := by
      unfold pab
      rw [if_neg q, dot_comm]
      exact dot_congr (fun j hj => (cf_fl (n - 1 - k) (by omega) j hj).symm) (fun j hj => hg j hj)
    rw [e2, e]
    grind
/-- the observer's column brings it, too -/
theorem watch_dt {n : Nat} {A : Nat → Nat → F} {c y P l : Nat → F} {x : F} (hn : n ≤ 8) (h : rk n (kr n (trp A) c) = n) (hy : ∀ i, i < n → dot n (kr n (trp A) c i) y = if i + 1 = n then 1 else 0) (hl : ∀ j, j < n → l j = av n (trp A) P y n j) : dt n (atM A l c x 1) = prd P x n := by
  rw [one_dt hn, ← ask_ev]
  unfold pe
  rw [← sm_add]
  refine sm_congr (fun k hk => ?_)
  by_cases q : k = n
  · rw [q, pbl_1, show pab n A l c n = 0 from if_pos rfl, ask_top]
    grind
  · have e := gain_eq hn h hy (P := P) (i := k) (by omega)
    have e2 : pab n A l c k = dot n (cf n (trp A) c (pbl n (trp A)) (n - 1 - k)) (av n (trp A) P y n) := by
      unfold pab
      rw [if_neg q]
      have e3 : dot n (cf n (trp A) c (pbl n (trp A)) (n - 1 - k)) (av n (trp A) P y n) = dot n (fun j => dot n c (fun i => flM n A (n - 1 - k) i j)) l := dot_congr (fun j hj => by
        rw [cf_fl (n - 1 - k) (by omega) j hj, dot_comm]
        exact dot_congr (fun _ _ => rfl) (fun i hi => fl_trp (n - 1 - k) j hj i hi)) (fun j hj => (hl j hj).symm)
      rw [e3, ← dot_adj]
    rw [e2, e, pbl_trp]
    grind
