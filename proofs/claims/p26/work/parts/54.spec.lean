/-! WHAT is reckoned, as functions of a plant's numbers. -/
/-- b, A b, A A b and so on -/
def kr (n : Nat) (A : Nat → Nat → F) (b : Nat → F) : Nat → Nat → F
  | 0 => b
  | k + 1 => fun r => dot n (A r) (kr n A b k)
theorem kr_s {n k : Nat} {A : Nat → Nat → F} {b : Nat → F} : kr n A b (k + 1) = fun r => dot n (A r) (kr n A b k) := rfl
theorem kr_congr {n : Nat} {A A' : Nat → Nat → F} {b b' : Nat → F} (hA : ∀ i, i < n → ∀ j, j < n → A i j = A' i j) (hb : ∀ i, i < n → b i = b' i) (k : Nat) : ∀ i, i < n → kr n A b k i = kr n A' b' k i := by
  induction k with
  | zero => exact hb
  | succ k ih => exact fun i hi => dot_congr (fun j hj => hA i hi j hj) ih
/-- the row x times (A less each of the first s of P) -/
def av (n : Nat) (A : Nat → Nat → F) (P : Nat → F) (x : Nat → F) : Nat → Nat → F
  | 0 => x
  | s + 1 => fun j => dot n (av n A P x s) (fun i => A i j) - P s * av n A P x s j
theorem ff_congr {f g : Nat → F} {n r : Nat} (hr : r ≤ n) (h : ∀ i, r ≤ i → i < n → f i = g i) : ff f n r = ff g n r := IsF_uniq (ff_is hr) (ff_is hr) h
theorem els_congr {n : Nat} {A B : Nat → Nat → F} (h : ∀ i, i < n → ∀ c, c < n → A i c = B i c) (j : Nat) : j ≤ n → (els n A j).2 = (els n B j).2 ∧ ∀ i, i < n → ∀ c, c < n → (els n A j).1 i c = (els n B j).1 i c := by
  induction j with
  | zero => exact fun _ => ⟨rfl, h⟩
  | succ j ih =>
    intro hj
    obtain ⟨h1, h2⟩ := ih (by omega)
    have hle := els_le (n := n) (A := A) j (by omega)
    have e : ff (fun i => (els n A j).1 i j) n (els n A j).2 = ff (fun i => (els n B j).1 i j) n (els n B j).2 := by
      rw [← h1]
      exact ff_congr (by omega) (fun i _ hi => h2 i hi j (by omega))
    show (el n (els n A j) j).2 = (el n (els n B j) j).2 ∧ ∀ i, i < n → ∀ c, c < n → (el n (els n A j) j).1 i c = (el n (els n B j) j).1 i c
    by_cases q : ff (fun i => (els n A j).1 i j) n (els n A j).2 < n
    · have q' := q
      rw [e] at q'
      rw [el_some q, el_some q', ← e, ← h1]
      refine ⟨rfl, fun i hi c hc => ?_⟩
      have hs : ∀ i, i < n → ∀ c, c < n → swA (els n A j).1 (els n A j).2 (ff (fun i => (els n A j).1 i j) n (els n A j).2) i c = swA (els n B j).1 (els n A j).2 (ff (fun i => (els n A j).1 i j) n (els n A j).2) i c := fun i hi c hc => by
        unfold swA
        split
        · exact h2 _ (by omega) c hc
        · split
          · exact h2 _ q c hc
          · exact h2 i hi c hc
      show (if i ≤ _ then _ else _) = (if i ≤ _ then _ else _)
      rw [hs i hi c hc, hs i hi j (by omega), hs (els n A j).2 (by omega) c hc, hs (els n A j).2 (by omega) j (by omega)]
    · have q' := q
      rw [e] at q'
      rw [el_none q, el_none q']
      exact ⟨h1, h2⟩
theorem rk_congr {n : Nat} {A B : Nat → Nat → F} (h : ∀ i, i < n → ∀ c, c < n → A i c = B i c) : rk n A = rk n B := (els_congr h n (Nat.le_refl n)).1
/-- the product of (x less each of the first s of P), by powers -/
def ask (P : Nat → F) : Nat → Nat → F
  | 0 => fun j => if j = 0 then 1 else 0
  | s + 1 => fun j => (if j = 0 then 0 else ask P s (j - 1)) - P s * ask P s j
/-- the columns that stand at the powers of the adjugate times b -/
def cf (n : Nat) (A : Nat → Nat → F) (b own : Nat → F) : Nat → Nat → F
  | 0 => b
  | s + 1 => fun j => dot n (A j) (cf n A b own s) + own (n - 1 - s) * b j
theorem ff0 (x : F) : x = 0 + x := by grind
/-- the numbers h -/
def hs (n : Nat) (A : Nat → Nat → F) (b c : Nat → F) (d : F) (k : Nat) : F := if k = 0 then d else dot n c (kr n A b (k - 1))
/-- the inputs, and 0 behind them -/
def uu (v : Nat → F) (c : Nat) (i : Nat) : F := if i < c then v i else 0
/-- the states from 0 on -/
def xs (n : Nat) (A : Nat → Nat → F) (b u : Nat → F) : Nat → Nat → F
  | 0 => fun _ => 0
  | k + 1 => fun r => dot n (A r) (xs n A b u k) + b r * u k
theorem rows2_w {X : Nat → Prop} {m m1 m2 : M1} {i : Nat} {R : Nat → Nat} {PP : Nat → (Nat → F) → Prop} (hF : Fr X m m1) (h1 : ∀ k, k < i → PP k (m1 (R k))) (h2 : ∀ k, i ≤ k → k < 8 → m1 (R k) = m (R k)) (hF2 : Fr (fun a => a = R i) m1 m2) (h3 : PP i (m2 (R i))) (inj : ∀ a b, a < 8 → b < 8 → R a = R b → a = b) (hi : i < 8) (hX : ∀ k, k < 8 → X (R k)) : Fr X m m2 ∧ (∀ k, k < i + 1 → PP k (m2 (R k))) ∧ (∀ k, i + 1 ≤ k → k < 8 → m2 (R k) = m (R k)) := by
  refine ⟨fun a ha => (hF2 a (fun e => ha (by rw [e]; exact hX i hi))).trans (hF a ha), fun k hk => ?_, fun k hk hk8 => ?_⟩
  · by_cases e : k = i
    · rw [e]
      exact h3
    · rw [hF2 (R k) (fun z => e (inj k i (by omega) hi z))]
      exact h1 k (by omega)
  · rw [hF2 (R k) (fun z => by have := inj k i hk8 hi z; omega)]
    exact h2 k (by omega) hk8
/-- Riccati: a step back from P -/
def rb (n : Nat) (P : Nat → Nat → F) (b : Nat → F) (i : Nat) : F := dot n (P i) b
def rm (n : Nat) (P : Nat → Nat → F) (b : Nat → F) (r : F) : F := r + dot n b (rb n P b)
def rpa (n : Nat) (P A : Nat → Nat → F) (i j : Nat) : F := dot n (P i) (fun l => A l j)
def rap (n : Nat) (P A : Nat → Nat → F) (b : Nat → F) (j : Nat) : F := dot n (rb n P b) (fun l => A l j)
def rK (n : Nat) (P A : Nat → Nat → F) (b : Nat → F) (r : F) (j : Nat) : F := iv (rm n P b r) * dot n b (fun l => rpa n P A l j)
def rq (q : F) (c : Nat → F) (i j : Nat) : F := q * (c i * c j)
def rs (n : Nat) (A : Nat → Nat → F) (b c : Nat → F) (q r : F) (P : Nat → Nat → F) (i j : Nat) : F := rq q c i j + dot n (fun l => A l i) (fun l => rpa n P A l j) - rap n P A b i * rK n P A b r j
def rc (n : Nat) (A : Nat → Nat → F) (b c : Nat → F) (q r : F) : Nat → Nat → Nat → F
  | 0 => rq q c
  | s + 1 => rs n A b c q r (rc n A b c q r s)
theorem rc_s {n s : Nat} {A : Nat → Nat → F} {b c : Nat → F} {q r : F} : rc n A b c q r (s + 1) = rs n A b c q r (rc n A b c q r s) := rfl
/-- going from the state of all 1 by the rows K, of which the last is the first -/
def gx (n : Nat) (A : Nat → Nat → F) (b : Nat → F) (K : Nat → Nat → F) (l : Nat) : Nat → Nat → F
  | 0 => fun _ => 1
  | t + 1 => fun r => dot n (A r) (gx n A b K l t) + b r * (0 - dot n (K (l - 1 - t)) (gx n A b K l t))
def hc (n : Nat) (c : Nat → F) (q : F) (x : Nat → F) : F := q * (dot n c x * dot n c x)
def gc (n : Nat) (A : Nat → Nat → F) (b c : Nat → F) (q r : F) (K : Nat → Nat → F) (l : Nat) : Nat → F
  | 0 => 0
  | t + 1 => gc n A b c q r K l t + hc n c q (gx n A b K l t) + r * ((0 - dot n (K (l - 1 - t)) (gx n A b K l t)) * (0 - dot n (K (l - 1 - t)) (gx n A b K l t)))
/-- Faddeev and Leverrier -/
def flG (n : Nat) (A M : Nat → Nat → F) (i j : Nat) : F := dot n (A i) (fun l => M l j)
def flt (n : Nat) (A M : Nat → Nat → F) (s : Nat) : F := (0 - sm n (fun i => flG n A M i i)) * iv (nF (s + 1))
def flM (n : Nat) (A : Nat → Nat → F) : Nat → Nat → Nat → F
  | 0 => fun i j => if i = j then 1 else 0
  | s + 1 => fun i j => flG n A (flM n A s) i j + if i = j then flt n A (flM n A s) s else 0
def pbl (n : Nat) (A : Nat → Nat → F) (k : Nat) : F := if k = n then 1 else flt n A (flM n A (n - 1 - k)) (n - 1 - k)
def pab (n : Nat) (A : Nat → Nat → F) (b c : Nat → F) (k : Nat) : F := if k = n then 0 else dot n c (fun i => dot n (flM n A (n - 1 - k) i) b)
theorem PQ_sq {p : M2} {q : Nat} (h : PQ p) (hq : q = 38 ∨ q = 47) : SQ p q (fun i => q + 1 + i) := by
  rcases hq with rfl | rfl
  · exact h.1
  · exact h.2.1
theorem ptC_35 {q : Nat × Nat × Nat} (h : q ∈ ptC) : q.1 = 35 → q.2.1 = 0 ∨ q.2.1 = 1 ∨ q.2.1 = 4 := (show ∀ q ∈ ptC, q.1 = 35 → q.2.1 = 0 ∨ q.2.1 = 1 ∨ q.2.1 = 4 by decide) q h
/-- of 35, but the fields that change -/
theorem PI_35 {p p' : M2} (h : PI p) (k : Pk 35 p p') (hc : ∀ y, y = 0 ∨ y = 1 ∨ y = 4 → p' 35 y = p 35 y) (ha : ∃ qa qb, p' 35 2 = some qa ∧ p' 35 3 = some qb ∧ (qa = 38 ∧ qb = 47 ∨ qa = 47 ∧ qb = 38)) (hb : ∃ u v, p' 35 5 = some u ∧ p' 35 6 = some v ∧ (u = 57 ∧ v = 58 ∨ u = 58 ∧ v = 57)) : PI p' := by
  obtain ⟨h1, h2, h3, h4, h5, h6, h7, h8, h9, h10⟩ := h
  refine ⟨fun q hq => ?_, fun i hi => ?_, fun i hi => PL_pk (h3 i hi) k (by omega) (by omega), PL_pk h4 k (by omega) (by omega), SQ_pk h5 k (by omega), SQ_pk h6 k (by omega), fun i hi => ?_, ?_, ?_, SQ_pk h10.1 k (by omega), SQ_pk h10.2.1 k (by omega), ha, hb⟩
  · by_cases e : q.1 = 35
    · have := h1 q hq
      rw [e] at this ⊢
      rw [hc _ (ptC_35 hq e)]
      exact this
    · rw [k q.1 e]
      exact h1 q hq
  · rw [k 2 (by omega)]
    exact h2 i hi
  · rw [k 92 (by omega)]
    exact h7 i hi
  · obtain ⟨R0, h8⟩ := h8
    exact ⟨R0, EQ_pk h8 k (by omega) (by omega)⟩
  · obtain ⟨R0, h9⟩ := h9
    exact ⟨R0, EQ_pk h9 k (by omega) (by omega)⟩
theorem PI_sw23 {p p1 p2 : M2} {qa qb : Nat} (h : PI p) (h1 : w2 p 35 2 (some qb) = p1) (h2 : w2 p1 35 3 (some qa) = p2) (hq : qa = 38 ∧ qb = 47 ∨ qa = 47 ∧ qb = 38) : PI p2 ∧ p2 35 2 = some qb ∧ p2 35 3 = some qa := by
  subst h1
  subst h2
  have e2 : w2 (w2 p 35 2 (some qb)) 35 3 (some qa) 35 2 = some qb := by rw [w2_ne (by omega), w2_at]
  have e3 : w2 (w2 p 35 2 (some qb)) 35 3 (some qa) 35 3 = some qa := w2_at
  refine ⟨PI_35 h (fun c hc => by rw [w2_a hc, w2_a hc]) (fun y hy => by rw [w2_ne (by omega), w2_ne (by omega)]) ⟨qb, qa, e2, e3, by omega⟩ ?_, e2, e3⟩
  obtain ⟨u, v, q1, q2, q3⟩ := h.2.2.2.2.2.2.2.2.2.2.2.2
  exact ⟨u, v, by rw [w2_ne (by omega), w2_ne (by omega)]; exact q1, by rw [w2_ne (by omega), w2_ne (by omega)]; exact q2, q3⟩
theorem PI_sw56 {p p1 p2 : M2} {qa qb : Nat} (h : PI p) (h1 : w2 p 35 5 (some qb) = p1) (h2 : w2 p1 35 6 (some qa) = p2) (hq : qa = 57 ∧ qb = 58 ∨ qa = 58 ∧ qb = 57) : PI p2 ∧ p2 35 5 = some qb ∧ p2 35 6 = some qa := by
  subst h1
  subst h2
  have e2 : w2 (w2 p 35 5 (some qb)) 35 6 (some qa) 35 5 = some qb := by rw [w2_ne (by omega), w2_at]
  have e3 : w2 (w2 p 35 5 (some qb)) 35 6 (some qa) 35 6 = some qa := w2_at
  refine ⟨PI_35 h (fun c hc => by rw [w2_a hc, w2_a hc]) (fun y hy => by rw [w2_ne (by omega), w2_ne (by omega)]) ?_ ⟨qb, qa, e2, e3, by omega⟩, e2, e3⟩
  obtain ⟨u, v, q1, q2, q3⟩ := h.2.2.2.2.2.2.2.2.2.2.2.1
  exact ⟨u, v, by rw [w2_ne (by omega), w2_ne (by omega)]; exact q1, by rw [w2_ne (by omega), w2_ne (by omega)]; exact q2, q3⟩
/-- the degree and one, of what stands below k; 0 for nothing -/
def dg (f : Nat → F) : Nat → Nat
  | 0 => 0
  | k + 1 => if f k = 0 then dg f k else k + 1
theorem dg_le {f : Nat → F} (k : Nat) : dg f k ≤ k := by
  induction k with
  | zero => exact Nat.le_refl 0
  | succ k ih =>
    show (if f k = 0 then dg f k else k + 1) ≤ k + 1
    split <;> omega
theorem dg_z {f : Nat → F} {k : Nat} (h : f k = 0) : dg f (k + 1) = dg f k := if_pos h
theorem dg_n {f : Nat → F} {k : Nat} (h : f k ≠ 0) : dg f (k + 1) = k + 1 := if_neg h
theorem dg_congr {f g : Nat → F} {k : Nat} (h : ∀ i, i < k → f i = g i) : dg f k = dg g k := by
  induction k with
  | zero => rfl
  | succ k ih =>
    show (if f k = 0 then dg f k else k + 1) = (if g k = 0 then dg g k else k + 1)
    rw [h k (by omega), ih (fun i hi => h i (by omega))]
/-- so many times g goes out of f, from the top -/
def trs (l : Nat) (g f : Nat → F) (s : Nat) : Nat → F := fun k => if s ≤ k ∧ k < s + (l + 1) then f k - iv (g l) * f (l + s) * g (k - s) else f k
def mdv (h l : Nat) (g f : Nat → F) : Nat → Nat → F
  | 0 => f
  | t + 1 => trs l g (mdv h l g f t) (h - l - t)
def ecd : Nat → (Nat → F) → (Nat → F) → Nat → Nat → Nat
  | 0, _, _, hd, _ => hd
  | k + 1, f, g, hd, ld => if ld = 0 then hd else ecd k g (mdv hd (ld - 1) g f (hd - (ld - 1) + 1)) (ld - 1) (dg (mdv hd (ld - 1) g f (hd - (ld - 1) + 1)) (ld - 1))
theorem mdv_congr {h l : Nat} {g g' f f' : Nat → F} (hl : l ≤ h) (hg : ∀ k, k ≤ l → g k = g' k) (hf : ∀ k, k ≤ h → f k = f' k) (t : Nat) : ∀ k, k ≤ h → mdv h l g f t k = mdv h l g' f' t k := by
  induction t with
  | zero => exact hf
  | succ t ih =>
    intro k hk
    show (if _ then _ else _) = (if _ then _ else _)
    by_cases q : h - l - t ≤ k ∧ k < h - l - t + (l + 1)
    · rw [if_pos q, if_pos q, ih k hk, ih (l + (h - l - t)) (by omega), hg l (Nat.le_refl l), hg (k - (h - l - t)) (by omega)]
    · rw [if_neg q, if_neg q, ih k hk]
theorem ecd_congr (t : Nat) : ∀ (f f' g g' : Nat → F) (hd ld : Nat), ld ≤ hd → (∀ k, k ≤ hd → f k = f' k) → (∀ k, k < ld → g k = g' k) → ecd t f g hd ld = ecd t f' g' hd ld := by
  induction t with
  | zero => intros; rfl
  | succ t ih =>
    intro f f' g g' hd ld hl hf hg
    show (if ld = 0 then hd else _) = (if ld = 0 then hd else _)
    by_cases q : ld = 0
    · rw [if_pos q, if_pos q]
    · have hm := mdv_congr (h := hd) (l := ld - 1) (by omega) (fun k hk => hg k (by omega)) hf (hd - (ld - 1) + 1)
      rw [if_neg q, if_neg q, dg_congr (fun i hi => hm i (by omega))]
      exact ih _ _ _ _ _ _ (dg_le _) (fun k hk => hg k (by omega)) (fun k hk => hm k (by have := dg_le (f := mdv hd (ld - 1) g' f' (hd - (ld - 1) + 1)) (ld - 1); omega))
theorem fillp_w {m1 m2 : M1} {b k : Nat} {x : F} {P P' : Nat → Prop} [DecidablePred P] [DecidablePred P'] {f g : Nat → F} (hm : w1 m1 b k x = m2) (h : ∀ j, m1 b j = if P j then f j else g j) (hx : x = f k) (hP : ∀ j, P' j ↔ (P j ∨ j = k)) : ∀ j, m2 b j = if P' j then f j else g j := filld_w hm h hx hP
theorem SH_57 {u : Nat} (h : u = 57 ∨ u = 58) : SH u = (1, 9) := by rcases h with rfl | rfl <;> rfl
/-- plants in series, side by side -/
def serA (n1 : Nat) (A1 : Nat → Nat → F) (b2 c1 : Nat → F) (A2 : Nat → Nat → F) (r c : Nat) : F := if r < n1 then (if c < n1 then A1 r c else 0) else if c < n1 then b2 (r - n1) * c1 c else A2 (r - n1) (c - n1)
def sidA (n1 : Nat) (A1 A2 : Nat → Nat → F) (r c : Nat) : F := if r < n1 then (if c < n1 then A1 r c else 0) else if c < n1 then 0 else A2 (r - n1) (c - n1)
def twob (n1 : Nat) (x : F) (b1 : Nat → F) (y : F) (b2 : Nat → F) (r : Nat) : F := if r < n1 then x * b1 r else y * b2 (r - n1)
/-- what a plant's row holds once its part from f on is put -/
def ptr1 (f n : Nat) (g h : Nat → F) (r : Nat) : F := if f ≤ r ∧ r < f + n then g (r - f) else h r
def ptr2 (f n : Nat) (A : Nat → Nat → F) (h : Nat → Nat → F) (r c : Nat) : F := if f ≤ r ∧ r < f + n ∧ f ≤ c ∧ c < f + n then A (r - f) (c - f) else h r c
/-- a 2n plant that is steered by what it observes -/
def obA (n : Nat) (A : Nat → Nat → F) (b c k l : Nat → F) (r s : Nat) : F := if r < n then (if s < n then A r s else 0 - b r * k (s - n)) else if s < n then l (r - n) * c s else A (r - n) (s - n) - b (r - n) * k (s - n) - l (r - n) * c (s - n)
