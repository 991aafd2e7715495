/-! CAYLEY AND HAMILTON, where a column b goes round. -/
theorem sm_first {n : Nat} {f : Nat → F} : sm (n + 1) f = f 0 + sm n (fun i => f (i + 1)) := by
  induction n with
  | zero => rw [sm_s, sm_0, sm_0]; grind
  | succ n ih => rw [sm_s, ih, sm_s]; grind
theorem sm_mulr {n : Nat} {a : F} {f : Nat → F} : sm n (fun i => f i * a) = sm n f * a := by
  induction n with
  | zero => rw [sm_0, sm_0]; grind
  | succ n ih => rw [sm_s, sm_s, ih]; grind
theorem sm_one {n k : Nat} {f : Nat → F} (hk : k < n) (h : ∀ i, i < n → i ≠ k → f i = 0) : sm n f = f k := by
  have key : ∀ l, l ≤ n → sm l f = if k < l then f k else 0 := by
    intro l
    induction l with
    | zero => intro _; rw [if_neg (by omega)]; rfl
    | succ l ih =>
      intro hl
      rw [sm_s, ih (by omega)]
      by_cases e : l = k
      · rw [if_neg (by omega), if_pos (by omega), e]; grind
      · rw [h l (by omega) e]
        by_cases q : k < l
        · rw [if_pos q, if_pos (by omega)]; grind
        · rw [if_neg q, if_neg (by omega)]; grind
  rw [key n (Nat.le_refl n), if_pos hk]
theorem sm_split {a b : Nat} {f : Nat → F} : sm (a + b) f = sm a f + sm b (fun i => f (a + i)) := by
  induction b with
  | zero => show sm a f = sm a f + 0; grind
  | succ b ih => rw [show a + (b + 1) = (a + b) + 1 from rfl, sm_s, sm_s, ih]; grind
theorem dot_sm {n l : Nat} {g : Nat → Nat → F} {w : Nat → F} : dot n (fun c => sm l (fun t => g t c)) w = sm l (fun t => dot n (g t) w) := by
  unfold dot
  rw [← sm_swap]
  exact sm_congr (fun i _ => sm_mulr.symm)
theorem dot_smr {n l : Nat} {g : Nat → Nat → F} {w : Nat → F} : dot n w (fun c => sm l (fun t => g t c)) = sm l (fun t => dot n w (g t)) := by
  rw [dot_comm, dot_sm]
  exact sm_congr (fun i _ => dot_comm _ _ _)
theorem dot_scaler {n : Nat} {a : F} {f g : Nat → F} : dot n f (fun c => a * g c) = a * dot n f g := by
  rw [dot_comm, dot_scale, dot_comm]
theorem kr_add {n : Nat} {A : Nat → Nat → F} {b : Nat → F} (j : Nat) : ∀ k, kr n A b (k + j) = kr n A (kr n A b k) j := by
  induction j with
  | zero => intro k; rfl
  | succ j ih =>
    intro k
    show (fun r => dot n (A r) (kr n A b (k + j))) = fun r => dot n (A r) (kr n A (kr n A b k) j)
    rw [ih k]
/-- rows that are dual to columns that span all -/
theorem dual_ex {n : Nat} {V : Nat → Nat → F} (h : rk n V = n) : ∃ W : Nat → Nat → F, (∀ i, i < n → ∀ j, j < n → dot n (V i) (W j) = if i = j then 1 else 0) ∧ ∀ c, c < n → ∀ c', c' < n → sm n (fun i => W i c * V i c') = if c = c' then 1 else 0 := by
  have h1 : ∀ j, ∃ w : Nat → F, ∀ i, i < n → dot n (V i) w = if i = j then 1 else 0 := fun j => rk_ex h (fun i => if i = j then 1 else 0)
  obtain ⟨W, hW⟩ := Classical.axiomOfChoice h1
  refine ⟨W, fun i hi j _ => hW j i hi, fun c hc c' hc' => ?_⟩
  refine rk_uniq h (x := fun c => sm n (fun i => W i c * V i c')) (y := fun c => if c = c' then 1 else 0) (fun l hl => ?_) c hc
  rw [dot_smr (g := fun i c => W i c * V i c')]
  have e1 : sm n (fun t => dot n (V l) (fun c => W t c * V t c')) = sm n (fun t => (if l = t then 1 else 0) * V t c') := sm_congr (fun t ht => by
    rw [← hW t l hl]
    have : (fun c => W t c * V t c') = fun c => V t c' * W t c := funext fun c => by grind
    rw [this, dot_scaler]
    grind)
  rw [e1, sm_one (k := l) hl (fun i _ hne => by rw [if_neg (fun q => hne q.symm)]; grind), if_pos rfl]
  show 1 * V l c' = sm n (fun i => V l i * if i = c' then 1 else 0)
  rw [sm_one (k := c') hc' (fun i _ hne => by rw [if_neg hne]; grind), if_pos rfl]
  grind
theorem dual_sum {n : Nat} {V W : Nat → Nat → F} (h : ∀ c, c < n → ∀ c', c' < n → sm n (fun i => W i c * V i c') = if c = c' then 1 else 0) (y : Nat → F) {c : Nat} (hc : c < n) : y c = sm n (fun i => dot n y (W i) * V i c) := by
  have e1 : sm n (fun i => dot n y (W i) * V i c) = sm n (fun i => sm n (fun l => y l * (W i l * V i c))) := sm_congr (fun i _ => by
    unfold dot
    rw [← sm_mulr]
    exact sm_congr (fun l _ => by grind))
  rw [e1, sm_swap]
  have e2 : sm n (fun l => sm n (fun i => y l * (W i l * V i c))) = sm n (fun l => y l * if l = c then 1 else 0) := sm_congr (fun l hl => by rw [sm_mul, h l hl c hc])
  rw [e2, sm_one (k := c) hc (fun i _ hne => by rw [if_neg hne]; grind), if_pos rfl]
  grind
/-- Horner's squares of a polynomial -/
def hM (n : Nat) (A : Nat → Nat → F) (a : Nat → F) : Nat → Nat → Nat → F
  | 0 => fun i j => if i = j then 1 else 0
  | s + 1 => fun i j => flG n A (hM n A a s) i j + if i = j then a (n - 1 - s) else 0
theorem kr_dot {n : Nat} {A : Nat → Nat → F} {b : Nat → F} {k r : Nat} : kr n A b (k + 1) r = dot n (A r) (kr n A b k) := rfl
theorem hM_kr {n : Nat} {A : Nat → Nat → F} {a b : Nat → F} (ha : a n = 1) (s : Nat) : s ≤ n → ∀ j r, r < n → dot n (hM n A a s r) (kr n A b j) = sm (s + 1) (fun t => a (n - s + t) * kr n A b (t + j) r) := by
  induction s with
  | zero =>
    intro _ j r hr
    show sm n (fun c => (if r = c then 1 else 0) * kr n A b j c) = sm 0 _ + a (n - 0 + 0) * kr n A b (0 + j) r
    rw [sm_one (k := r) hr (fun i _ hne => by rw [if_neg (fun q => hne q.symm)]; grind), if_pos rfl, show n - 0 + 0 = n from rfl, ha, sm_0, Nat.zero_add]
    grind
  | succ s ih =>
    intro hs j r hr
    have e0 : dot n (hM n A a (s + 1) r) (kr n A b j) = dot n (A r) (fun l => dot n (hM n A a s l) (kr n A b j)) + a (n - 1 - s) * kr n A b j r := by
      show sm n (fun c => (flG n A (hM n A a s) r c + if r = c then a (n - 1 - s) else 0) * kr n A b j c) = _
      have e1 : sm n (fun c => (flG n A (hM n A a s) r c + if r = c then a (n - 1 - s) else 0) * kr n A b j c) = sm n (fun c => flG n A (hM n A a s) r c * kr n A b j c) + sm n (fun c => (if r = c then a (n - 1 - s) else 0) * kr n A b j c) := by
        rw [← sm_add]
        exact sm_congr (fun c _ => by grind)
      rw [e1, sm_one (k := r) (f := fun c => (if r = c then a (n - 1 - s) else 0) * kr n A b j c) hr (fun i _ hne => by rw [if_neg (fun q => hne q.symm)]; grind), if_pos rfl]
      refine congrArg (fun z => z + a (n - 1 - s) * kr n A b j r) ?_
      show dot n (fun c => sm n (fun l => A r l * hM n A a s l c)) (kr n A b j) = _
      rw [dot_sm (g := fun l c => A r l * hM n A a s l c)]
      exact sm_congr (fun l _ => dot_scale)
    rw [e0]
    have e2 : dot n (A r) (fun l => dot n (hM n A a s l) (kr n A b j)) = dot n (A r) (fun l => sm (s + 1) (fun t => a (n - s + t) * kr n A b (t + j) l)) := dot_congr (fun _ _ => rfl) (fun l hl => ih (by omega) j l hl)
    rw [e2, dot_smr (g := fun t l => a (n - s + t) * kr n A b (t + j) l), sm_first (n := s + 1), show n - (s + 1) + 0 = n - 1 - s by omega, show 0 + j = j by omega]
    have e3 : sm (s + 1) (fun t => dot n (A r) (fun l => a (n - s + t) * kr n A b (t + j) l)) = sm (s + 1) (fun i => a (n - (s + 1) + (i + 1)) * kr n A b (i + 1 + j) r) := sm_congr (fun t _ => by
      rw [dot_scaler, show n - (s + 1) + (t + 1) = n - s + t by omega, show t + 1 + j = (t + j) + 1 by omega]
      rfl)
    rw [e3]
    grind
/-- the polynomial by which b, A b and so on go on -/
def cyP (n : Nat) (A : Nat → Nat → F) (b : Nat → F) (W : Nat → Nat → F) (i : Nat) : F := if i = n then 1 else 0 - dot n (kr n A b n) (W i)
section
variable {n : Nat} {A : Nat → Nat → F} {b : Nat → F} {W : Nat → Nat → F}
theorem cy_0 (h : ∀ c, c < n → ∀ c', c' < n → sm n (fun i => W i c * kr n A b i c') = if c = c' then 1 else 0) {r : Nat} (hr : r < n) : sm (n + 1) (fun t => cyP n A b W t * kr n A b t r) = 0 := by
  have h1 := dual_sum h (kr n A b n) hr
  rw [sm_s]
  have e : sm n (fun t => cyP n A b W t * kr n A b t r) = sm n (fun t => (0 - 1) * (dot n (kr n A b n) (W t) * kr n A b t r)) := sm_congr (fun t ht => by
    unfold cyP
    rw [if_neg (by omega)]
    grind)
  rw [e, sm_mul, ← h1]
  unfold cyP
  rw [if_pos rfl]
  grind
theorem cy_r (h : ∀ c, c < n → ∀ c', c' < n → sm n (fun i => W i c * kr n A b i c') = if c = c' then 1 else 0) (j : Nat) : ∀ r, r < n → sm (n + 1) (fun t => cyP n A b W t * kr n A b (t + j) r) = 0 := by
  induction j with
  | zero => exact fun r hr => cy_0 h hr
  | succ j ih =>
    intro r hr
    have e : sm (n + 1) (fun t => cyP n A b W t * kr n A b (t + (j + 1)) r) = dot n (A r) (fun l => sm (n + 1) (fun t => cyP n A b W t * kr n A b (t + j) l)) := by
      rw [dot_smr (g := fun t l => cyP n A b W t * kr n A b (t + j) l)]
      exact sm_congr (fun t _ => by rw [dot_scaler]; rfl)
    rw [e]
    exact dot_zero_l (fun c hc => Or.inr (ih c hc))
theorem hM_tr (h1 : ∀ i, i < n → ∀ j, j < n → dot n (kr n A b i) (W j) = if i = j then 1 else 0) (h2 : ∀ c, c < n → ∀ c', c' < n → sm n (fun i => W i c * kr n A b i c') = if c = c' then 1 else 0) {s : Nat} (hs : s ≤ n) : sm n (fun r => hM n A (cyP n A b W) s r r) = nF (n - s) * cyP n A b W (n - s) := by
  have ha : cyP n A b W n = 1 := if_pos rfl
  have e1 : sm n (fun r => hM n A (cyP n A b W) s r r) = sm n (fun r => sm n (fun i => dot n (hM n A (cyP n A b W) s r) (kr n A b i) * W i r)) := sm_congr (fun r hr => by
    have := dual_sum (V := W) (W := kr n A b) (fun c hc c' hc' => by
      have h3 := h2 c' hc' c hc
      have e : sm n (fun i => kr n A b i c * W i c') = sm n (fun i => W i c' * kr n A b i c) := sm_congr (fun i _ => by grind)
      rw [e, h3]
      by_cases q : c = c'
      · rw [if_pos q, if_pos q.symm]
      · rw [if_neg q, if_neg (fun z => q z.symm)]) (hM n A (cyP n A b W) s r) hr
    exact this)
  rw [e1, sm_swap]
  have e2 : sm n (fun i => sm n (fun r => dot n (hM n A (cyP n A b W) s r) (kr n A b i) * W i r)) = sm n (fun i => if i + s < n then cyP n A b W (n - s) else 0) := sm_congr (fun i hi => by
    have e3 : sm n (fun r => dot n (hM n A (cyP n A b W) s r) (kr n A b i) * W i r) = dot n (fun r => sm (s + 1) (fun t => cyP n A b W (n - s + t) * kr n A b (t + i) r)) (W i) := sm_congr (fun r hr => by rw [hM_kr ha s hs i r hr])
    rw [e3]
    by_cases q : i + s < n
    · rw [if_pos q, dot_sm (g := fun t r => cyP n A b W (n - s + t) * kr n A b (t + i) r)]
      have e4 : sm (s + 1) (fun t => dot n (fun r => cyP n A b W (n - s + t) * kr n A b (t + i) r) (W i)) = sm (s + 1) (fun t => cyP n A b W (n - s + t) * if t + i = i then 1 else 0) := sm_congr (fun t ht => by rw [dot_scale, h1 (t + i) (by omega) i hi])
      rw [e4, sm_one (k := 0) (by omega) (fun t _ hne => by rw [if_neg (by omega)]; grind), if_pos (by omega), show n - s + 0 = n - s from rfl]
      grind
    · rw [if_neg q]
      have e5 : ∀ r, r < n → sm (s + 1) (fun t => cyP n A b W (n - s + t) * kr n A b (t + i) r) = (0 - 1) * sm (n - s) (fun t => cyP n A b W t * kr n A b (t + (i - (n - s))) r) := fun r hr => by
        have h3 := cy_r h2 (i - (n - s)) r hr
        rw [show n + 1 = (n - s) + (s + 1) by omega, sm_split] at h3
        have e6 : sm (s + 1) (fun t => cyP n A b W (n - s + t) * kr n A b (n - s + t + (i - (n - s))) r) = sm (s + 1) (fun t => cyP n A b W (n - s + t) * kr n A b (t + i) r) := sm_congr (fun t _ => by rw [show n - s + t + (i - (n - s)) = t + i by omega])
        rw [e6] at h3
        grind
      have e7 : dot n (fun r => sm (s + 1) (fun t => cyP n A b W (n - s + t) * kr n A b (t + i) r)) (W i) = dot n (fun r => (0 - 1) * sm (n - s) (fun t => cyP n A b W t * kr n A b (t + (i - (n - s))) r)) (W i) := dot_congr e5 (fun _ _ => rfl)
      rw [e7, dot_scale, dot_sm (g := fun t r => cyP n A b W t * kr n A b (t + (i - (n - s))) r), sm_zero (fun t ht => by
        show dot n (fun r => cyP n A b W t * kr n A b (t + (i - (n - s))) r) (W i) = 0
        rw [dot_scale, h1 (t + (i - (n - s))) (by omega) i hi, if_neg (by omega)]
        grind)]
      grind)
  rw [e2]
  have key : ∀ l (x : F), l ≤ n → sm l (fun i => if i + s < n then x else 0) = nF (min l (n - s)) * x := by
    intro l x
    induction l with
    | zero => intro _; show (0 : F) = nF (min 0 (n - s)) * x; rw [Nat.zero_min]; show (0 : F) = 0 * x; grind
    | succ l ih =>
      intro hl
      rw [sm_s, ih (by omega)]
      by_cases q : l + s < n
      · rw [if_pos q, show min l (n - s) = l by omega, show min (l + 1) (n - s) = l + 1 by omega]
        have : nF (l + 1) = nF l + 1 := by
          apply Fin.eq_of_val_eq
          show (l + 1) % 10007 = (l % 10007 + 1) % 10007
          omega
        rw [this]
        grind
      · rw [if_neg q, show min l (n - s) = n - s by omega, show min (l + 1) (n - s) = n - s by omega]
        grind
  rw [key n _ (Nat.le_refl n), show min n (n - s) = n - s by omega]
end
theorem nF_s (l : Nat) : nF (l + 1) = nF l + 1 := by
  apply Fin.eq_of_val_eq
  show (l + 1) % 10007 = (l % 10007 + 1) % 10007
  omega
theorem nF_add (a b : Nat) : nF (a + b) = nF a + nF b := by
  apply Fin.eq_of_val_eq
  show (a + b) % 10007 = (a % 10007 + b % 10007) % 10007
  omega
theorem nF_ne {l : Nat} (h0 : 0 < l) (h : l < 10007) : nF l ≠ 0 := fun e => by
  have h1 := vF_nF h
  rw [e, vF_0] at h1
  omega
/-- where b goes round: the squares of Faddeev and Leverrier are Horner's, and the last one is 0 -/
theorem fl_cyc {n : Nat} {A : Nat → Nat → F} {b : Nat → F} (hn : n ≤ 8) (h : rk n (kr n A b) = n) : ∃ a : Nat → F, a n = 1 ∧ (∀ s, s ≤ n → flM n A s = hM n A a s) ∧ (∀ s, s < n → flt n A (flM n A s) s = a (n - 1 - s)) ∧ (∀ j r, r < n → sm (n + 1) (fun t => a t * kr n A b (t + j) r) = 0) ∧ ∀ r, r < n → ∀ c, c < n → flM n A n r c = 0 := by
  obtain ⟨W, h1, h2⟩ := dual_ex h
  have ht : ∀ s, s < n → flt n A (hM n A (cyP n A b W) s) s = cyP n A b W (n - 1 - s) := fun s hs => by
    have e1 := hM_tr h1 h2 (s := s + 1) (by omega)
    have e2 : sm n (fun r => hM n A (cyP n A b W) (s + 1) r r) = sm n (fun r => flG n A (hM n A (cyP n A b W) s) r r) + nF n * cyP n A b W (n - 1 - s) := by
      have e3 : sm n (fun r => hM n A (cyP n A b W) (s + 1) r r) = sm n (fun r => flG n A (hM n A (cyP n A b W) s) r r + cyP n A b W (n - 1 - s)) := sm_congr (fun r _ => by
        show flG n A (hM n A (cyP n A b W) s) r r + (if r = r then cyP n A b W (n - 1 - s) else 0) = _
        rw [if_pos rfl])
      rw [e3, sm_add]
      refine congrArg (fun z => _ + z) ?_
      have key : ∀ l (x : F), sm l (fun _ => x) = nF l * x := by
        intro l x
        induction l with
        | zero => show (0 : F) = 0 * x; grind
        | succ l ih => rw [sm_s, ih, nF_s]; grind
      exact key n _
    unfold flt
    rw [e1, show n - (s + 1) = n - 1 - s by omega] at e2
    have e4 : nF n = nF (n - 1 - s) + nF (s + 1) := by rw [← nF_add, show n - 1 - s + (s + 1) = n by omega]
    have h3 := iv_r (nF_ne (l := s + 1) (by omega) (by omega))
    have e5 : 0 - sm n (fun i => flG n A (hM n A (cyP n A b W) s) i i) = cyP n A b W (n - 1 - s) * nF (s + 1) := by grind
    rw [e5]
    have : cyP n A b W (n - 1 - s) * nF (s + 1) * iv (nF (s + 1)) = cyP n A b W (n - 1 - s) * (nF (s + 1) * iv (nF (s + 1))) := by grind
    rw [this, h3]
    grind
  have hf : ∀ s, s ≤ n → flM n A s = hM n A (cyP n A b W) s := by
    intro s
    induction s with
    | zero => exact fun _ => rfl
    | succ s ih =>
      intro hs
      show (fun i j => flG n A (flM n A s) i j + if i = j then flt n A (flM n A s) s else 0) = fun i j => flG n A (hM n A (cyP n A b W) s) i j + if i = j then cyP n A b W (n - 1 - s) else 0
      rw [ih (by omega), ht s (by omega)]
  refine ⟨cyP n A b W, if_pos rfl, hf, fun s hs => by rw [hf s (by omega), ht s hs], fun j r hr => cy_r h2 j r hr, fun r hr c hc => ?_⟩
  rw [hf n (Nat.le_refl n)]
  have h3 := dual_sum (V := W) (W := kr n A b) (fun c hc c' hc' => by
      have h3 := h2 c' hc' c hc
      have e : sm n (fun i => kr n A b i c * W i c') = sm n (fun i => W i c' * kr n A b i c) := sm_congr (fun i _ => by grind)
      rw [e, h3]
      by_cases q : c = c'
      · rw [if_pos q, if_pos q.symm]
      · rw [if_neg q, if_neg (fun z => q z.symm)]) (hM n A (cyP n A b W) n r) hc
  rw [h3]
  refine sm_zero (fun i hi => ?_)
  rw [hM_kr (if_pos rfl) n (Nat.le_refl n) i r hr]
  have e8 : sm (n + 1) (fun t => cyP n A b W (n - n + t) * kr n A b (t + i) r) = 0 := by
    rw [show n - n = 0 by omega]
    have e9 : sm (n + 1) (fun t => cyP n A b W (0 + t) * kr n A b (t + i) r) = sm (n + 1) (fun t => cyP n A b W t * kr n A b (t + i) r) := sm_congr (fun t _ => by rw [Nat.zero_add])
    rw [e9]
    exact cy_r h2 i r hr
  rw [e8]
  grind
