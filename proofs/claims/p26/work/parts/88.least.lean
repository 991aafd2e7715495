/-! EUCLID, and the least order. -/
def ctr (n : Nat) (f : Nat → F) (k : Nat) : F := if k < n then f k else 0
theorem dg_p {f : Nat → F} (k : Nat) : dg f k ≠ 0 → f (dg f k - 1) ≠ 0 := by
  induction k with
  | zero => exact fun h => absurd rfl h
  | succ k ih =>
    intro h
    by_cases q : f k = 0
    · rw [dg_z q] at h ⊢
      exact ih h
    · rw [dg_n q]
      exact q
theorem dg_a {f : Nat → F} (k : Nat) : ∀ i, dg f k ≤ i → i < k → f i = 0 := by
  induction k with
  | zero => intro i _ hi; omega
  | succ k ih =>
    intro i h1 h2
    by_cases q : f k = 0
    · rw [dg_z q] at h1
      by_cases e : i = k
      · rw [e]; exact q
      · exact ih i h1 (by omega)
    · rw [dg_n q] at h1
      omega
theorem ctr_dg {f : Nat → F} {k : Nat} : ctr (dg f k) f = ctr k f := funext fun i => by
  unfold ctr
  have := dg_le (f := f) k
  by_cases q : i < dg f k
  · rw [if_pos q, if_pos (by omega)]
  · rw [if_neg q]
    by_cases c : i < k
    · rw [if_pos c, dg_a (f := f) k i (by omega) c]
    · rw [if_neg c]
theorem BD_ctr (n : Nat) (f : Nat → F) : BD (ctr n f) := ⟨n, fun k hk => if_neg (by omega)⟩
theorem mdv_s {h l t : Nat} {g f : Nat → F} {k : Nat} : mdv h l g f (t + 1) k = if h - l - t ≤ k ∧ k < h - l - t + (l + 1) then mdv h l g f t k - iv (g l) * mdv h l g f t (l + (h - l - t)) * g (k - (h - l - t)) else mdv h l g f t k := rfl
theorem mdv_div {h l : Nat} {g f : Nat → F} (hl : l ≤ h) (hg : g l ≠ 0) (t : Nat) : t ≤ h - l + 1 → ∃ Q, BD Q ∧ ctr (h + 1) f = psum (pp Q (ctr (l + 1) g)) (ctr (h + 1) (mdv h l g f t)) ∧ ∀ k, h < k + t → k ≤ h → mdv h l g f t k = 0 := by
  induction t with
  | zero =>
    intro _
    refine ⟨fun _ => 0, BD_0, ?_, fun k h1 h2 => by omega⟩
    rw [pp_zero]
    refine funext fun k => ?_
    show ctr (h + 1) f k = 0 + ctr (h + 1) f k
    grind
  | succ t ih =>
    intro ht
    obtain ⟨Q, bQ, h1, h2⟩ := ih (by omega)
    refine ⟨psum Q (fun k => (iv (g l) * mdv h l g f t (l + (h - l - t))) * zs (h - l - t) k), BD_sum bQ (BD_scl _ (BD_zs _)), ?_, fun k k1 k2 => ?_⟩
    · rw [h1, pp_addl]
      refine funext fun k => ?_
      show pp Q (ctr (l + 1) g) k + ctr (h + 1) (mdv h l g f t) k = (pp Q (ctr (l + 1) g) k + pk k (fun k => (iv (g l) * mdv h l g f t (l + (h - l - t))) * zs (h - l - t) k) (ctr (l + 1) g)) + ctr (h + 1) (mdv h l g f (t + 1)) k
      rw [pk_scl, pk_zs]
      generalize pp Q (ctr (l + 1) g) k = w
      unfold ctr
      by_cases c : h - l - t ≤ k ∧ k < h - l - t + (l + 1)
      · have e9 : mdv h l g f (t + 1) k = mdv h l g f t k - iv (g l) * mdv h l g f t (l + (h - l - t)) * g (k - (h - l - t)) := by rw [mdv_s, if_pos c]
        rw [e9, if_pos (by omega), if_pos c.1, if_pos (by omega), if_pos (by omega)]
        clear e9 ih h1 h2
        grind
      · have e9 : mdv h l g f (t + 1) k = mdv h l g f t k := by rw [mdv_s, if_neg c]
        have e10 : (if h - l - t ≤ k then if k - (h - l - t) < l + 1 then g (k - (h - l - t)) else 0 else 0) = 0 := by
          by_cases c1 : h - l - t ≤ k
          · rw [if_pos c1, if_neg (by omega)]
          · rw [if_neg c1]
        rw [e9, e10]
        clear e9 e10 ih h1 h2
        grind
    · rw [mdv_s]
      by_cases e : k = h - t
      · have h3 := iv_l hg
        rw [if_pos ⟨by omega, by omega⟩, show l + (h - l - t) = k by omega, show k - (h - l - t) = l by omega]
        grind
      · rw [if_neg (fun z => by omega)]
        exact h2 k (by omega) k2
theorem GC_0 {f : Nat → F} {hd : Nat} (hf : f hd ≠ 0) : GC hd (ctr (hd + 1) f) (ctr 0 f) := by
  refine ⟨ctr (hd + 1) f, on1, fun _ => 0, on1, fun _ => 0, ⟨0, fun k hk => if_neg (by omega)⟩, BD_0, ⟨0, fun k hk => if_neg (by omega)⟩, BD_0, by rw [pp_comm, pp_one], ?_, ?_, ?_, fun i hi => if_neg (by omega)⟩
  · rw [pp_comm, pp_zero]
    exact funext fun k => (if_neg (Nat.not_lt_zero k)).symm
  · rw [pp_one, pp_zero]
    exact funext fun k => by show on1 k + 0 = on1 k; grind
  · show (if hd < hd + 1 then f hd else 0) ≠ 0
    rw [if_pos (by omega)]
    exact hf
theorem ecd_GC (t : Nat) : ∀ (f g : Nat → F) (hd ld : Nat), ld ≤ t → ld ≤ hd → f hd ≠ 0 → (ld ≠ 0 → g (ld - 1) ≠ 0) → GC (ecd t f g hd ld) (ctr (hd + 1) f) (ctr ld g) := by
  induction t with
  | zero =>
    intro f g hd ld h1 h2 h3 h4
    have e : ld = 0 := by omega
    subst e
    have e2 : ctr 0 g = ctr 0 f := funext fun k => by unfold ctr; rw [if_neg (Nat.not_lt_zero k), if_neg (Nat.not_lt_zero k)]
    rw [e2]
    exact GC_0 h3
  | succ t ih =>
    intro f g hd ld h1 h2 h3 h4
    show GC (if ld = 0 then hd else ecd t g (mdv hd (ld - 1) g f (hd - (ld - 1) + 1)) (ld - 1) (dg (mdv hd (ld - 1) g f (hd - (ld - 1) + 1)) (ld - 1))) (ctr (hd + 1) f) (ctr ld g)
    by_cases q : ld = 0
    · rw [if_pos q, q]
      have e2 : ctr 0 g = ctr 0 f := funext fun k => by unfold ctr; rw [if_neg (Nat.not_lt_zero k), if_neg (Nat.not_lt_zero k)]
      rw [e2]
      exact GC_0 h3
    · rw [if_neg q]
      obtain ⟨l, rfl⟩ : ∃ l, ld = l + 1 := ⟨ld - 1, by omega⟩
      rw [show l + 1 - 1 = l from rfl]
      have hg : g l ≠ 0 := h4 q
      obtain ⟨Q, bQ, m1, m2⟩ := mdv_div (h := hd) (f := f) (by omega) hg (hd - l + 1) (Nat.le_refl _)
      generalize mdv hd l g f (hd - l + 1) = m at *
      have hle := dg_le (f := m) l
      obtain ⟨d, f', g', α, β, bf, bg, ba, bb, c1, c2, c3, c4, c5⟩ := ih g m l (dg m l) (by omega) (by omega) hg (dg_p l)
      rw [ctr_dg] at c2
      have e3 : ctr (hd + 1) m = ctr l m := funext fun k => by
        unfold ctr
        by_cases c : k < l
        · rw [if_pos c, if_pos (by omega)]
        · rw [if_neg c]
          by_cases c' : k < hd + 1
          · rw [if_pos c']
            exact m2 k (by omega) (by omega)
          · rw [if_neg c']
      rw [e3] at m1
      refine ⟨d, psum (pp Q f') g', f', β, psum α (fun k => (0 - 1) * pp β Q k), BD_sum (BD_pp bQ bf) bg, bf, bb, BD_sum ba (BD_scl _ (BD_pp bb bQ)), ?_, c1, ?_, c4, c5⟩
      · rw [m1, pp_addr, pp_lc, c1, c2]
      · rw [← c3, pp_addr, pp_addl, ← pp_assoc]
        refine funext fun k => ?_
        show (pk k (pp β Q) f' + pk k β g') + (pk k α f' + pk k (fun k => (0 - 1) * pp β Q k) f') = pk k α f' + pk k β g'
        rw [pk_scl]
        grind
section
variable {n : Nat} {A : Nat → Nat → F} {b c : Nat → F} {d : F}
theorem flM_hM (s : Nat) : s ≤ n → flM n A s = hM n A (pbl n A) s := by
  induction s with
  | zero => exact fun _ => rfl
  | succ s ih =>
    intro hs
    have e : pbl n A (n - 1 - s) = flt n A (flM n A s) s := by
      unfold pbl
      rw [if_neg (by omega), show n - 1 - (n - 1 - s) = s by omega]
    show (fun i j => flG n A (flM n A s) i j + if i = j then flt n A (flM n A s) s else 0) = fun i j => flG n A (hM n A (pbl n A) s) i j + if i = j then pbl n A (n - 1 - s) else 0
    rw [e, ih (by omega)]
theorem pbl_1 : pbl n A n = 1 := if_pos rfl
/-- the polynomial takes the numbers h to 0 -/
theorem act_pbl (hn : n ≤ 8) {r : Nat} (hr : 1 ≤ r) : act n (hs n A b c d) (ctr (n + 1) (pbl n A)) r = 0 := by
  have e1 : act n (hs n A b c d) (ctr (n + 1) (pbl n A)) r = sm (n + 1) (fun i => dot n c (fun z => pbl n A i * kr n A b (i + (r - 1)) z)) := sm_congr (fun i hi => by
    unfold ctr hs
    rw [if_pos hi, if_neg (by omega), dot_scaler, show r + i - 1 = i + (r - 1) by omega])
  rw [e1, ← dot_smr (g := fun i z => pbl n A i * kr n A b (i + (r - 1)) z)]
  refine dot_zero_l (fun z hz => Or.inr ?_)
  have h1 := hM_kr (n := n) (A := A) (b := b) (a := pbl n A) pbl_1 n (Nat.le_refl n) (r - 1) z hz
  rw [← flM_hM n (Nat.le_refl n), dot_zero_l (f := flM n A n z) (fun c hc => Or.inl (fl_zero hn hz hc)), Nat.sub_self] at h1
  rw [h1]
  exact sm_congr (fun i _ => by rw [Nat.zero_add])
/-- the polynomial part is the numerator -/
theorem pol_pab : pol n (hs n A b c d) (ctr (n + 1) (pbl n A)) = ctr n (pab n A b c) := funext fun j => by
  unfold pol
  by_cases q : j < n
  · have e1 : ctr n (pab n A b c) j = dot n c (fun i => dot n (flM n A (n - 1 - j) i) b) := by
      unfold ctr pab
      rw [if_pos q, if_neg (by omega)]
    rw [e1]
    have e2 : dot n c (fun i => dot n (flM n A (n - 1 - j) i) b) = dot n c (fun z => sm (n - 1 - j + 1) (fun t => pbl n A (n - (n - 1 - j) + t) * kr n A b (t + 0) z)) := dot_congr (fun _ _ => rfl) (fun z hz => by
      rw [← hM_kr (n := n) (A := A) (b := b) (a := pbl n A) pbl_1 (n - 1 - j) (by omega) 0 z hz, flM_hM _ (by omega)]
      rfl)
    rw [e2, dot_smr (g := fun t z => pbl n A (n - (n - 1 - j) + t) * kr n A b (t + 0) z), show n + 1 = (j + 1) + (n - 1 - j + 1) by omega, sm_split, sm_zero (n := j + 1) (fun i hi => if_neg (by omega))]
    have e3 : sm (n - 1 - j + 1) (fun i => if j < j + 1 + i then ctr (n + 1) (pbl n A) (j + 1 + i) * hs n A b c d (j + 1 + i - j) else 0) = sm (n - 1 - j + 1) (fun t => dot n c (fun z => pbl n A (n - (n - 1 - j) + t) * kr n A b (t + 0) z)) := sm_congr (fun t ht => by
      rw [if_pos (by omega), dot_scaler]
      unfold ctr hs
      rw [if_pos (by omega), if_neg (by omega), show j + 1 + t - j - 1 = t + 0 by omega, show j + 1 + t = n - (n - 1 - j) + t by omega])
    rw [show j + 1 + (n - 1 - j + 1) = n + 1 by omega] at *
    rw [e3]
    grind
  · rw [sm_zero (fun i hi => if_neg (by omega))]
    unfold ctr
    rw [if_neg q]
/-- the rank of the numbers h is what Euclid leaves -/
theorem least_eq (hn : n ≤ 8) : rk n (fun i j => hs n A b c d (i + j + 1)) = n - ecd 8 (pbl n A) (pab n A b c) n (dg (pab n A b c) n) := by
  have hle := dg_le (f := pab n A b c) n
  have h1 := ecd_GC 8 (pbl n A) (pab n A b c) n (dg (pab n A b c) n) (by omega) hle (by rw [pbl_1]; decide) (dg_p n)
  rw [ctr_dg, ← pol_pab (d := d)] at h1
  exact hankel (by show (if n < n + 1 then pbl n A n else 0) = 1; rw [if_pos (by omega), pbl_1]) (fun i hi => if_neg (by omega)) (fun r hr _ => act_pbl hn hr) h1
end
