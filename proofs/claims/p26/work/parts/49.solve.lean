/-! SOLVING: what holds ahead of each column. -/
def SI (n e : Nat) (A : Nat → Nat → F) (m : M1) (p : M2) (j r : Nat) (m1 : M1) (p1 : M2) (R1 : Nat → Nat) : Prop := r = (els n A j).2 ∧ EQ p1 e R1 ∧ Pk (e + 1) p p1 ∧ Fr (fun a => e + 2 ≤ a ∧ a < e + 10) m m1 ∧ (∀ i, r ≤ i → i < n → ∀ c, c < n → m1 (R1 i) c = (els n A j).1 i c) ∧ (∀ x, Sat n (fun i => m1 (R1 i)) x ↔ Sat n A x) ∧ (r = j → Idc n j (fun i => m1 (R1 i)))
theorem SI_0 {n e : Nat} {m : M1} {p : M2} {R : Nat → Nat} (h : EQ p e R) : SI n e (fun i => m (R i)) m p 0 0 m p R :=
  ⟨rfl, h, Pk_rfl, Fr_rfl, fun _ _ _ _ _ => rfl, fun _ => Iff.rfl, fun _ c hc => absurd hc (Nat.not_lt_zero c)⟩
theorem SI_skip {n e j r k : Nat} {A : Nat → Nat → F} {m m1 : M1} {p p1 : M2} {R1 : Nat → Nat} (h : SI n e A m p j r m1 p1 R1) (hj : j < n) (hk : IsF (fun i => m1 (R1 i) j) n r k) (hn : ¬ k < n) : SI n e A m p (j + 1) r m1 p1 R1 := by
  obtain ⟨h1, h2, h3, h4, h5, h6, h7⟩ := h
  subst h1
  have hle := els_le (n := n) (A := A) j (by omega)
  have he : els n A (j + 1) = els n A j := (gj_el (M := fun i => m1 (R1 i)) (by omega) hj h5 hk).2 hn
  refine ⟨by rw [he], h2, h3, h4, fun i hi hn c hc => by rw [he]; exact h5 i hi hn c hc, h6, fun q => by omega⟩
theorem swA_swR {m : M1} {R : Nat → Nat} {r k i : Nat} : m (swR R r k i) = swA (fun i => m (R i)) r k i := by
  unfold swR swA
  by_cases c1 : i = k
  · rw [if_pos c1, if_pos c1]
  · rw [if_neg c1, if_neg c1]
    by_cases c2 : i = r
    · rw [if_pos c2, if_pos c2]
    · rw [if_neg c2, if_neg c2]
theorem gj_mem {n r j k : Nat} {m1 m2 m3 : M1} {R1 R2 : Nat → Nat} (hR : R2 = swR R1 r k) (inj : ∀ a b, a < 8 → b < 8 → R2 a = R2 b → a = b) (hn : n ≤ 8) (hr : r < n) (hj : j < n) (hF2 : Fr (fun a => a = R2 r) m1 m2) (hv2 : ∀ c, m2 (R2 r) c = if c < n + 1 then iv (m1 (R2 r) j) * m1 (R2 r) c else m1 (R2 r) c)
    (hv3 : ∀ i, i < n → ∀ c, c ≤ n → m3 (R2 i) c = if i = r then m2 (R2 i) c else m2 (R2 i) c - m2 (R2 i) j * m2 (R2 r) c) : ∀ i, i < n → ∀ c, c ≤ n → m3 (R2 i) c = gj (swA (fun i => m1 (R1 i)) r k) r j i c := by
  intro i hi c hc
  have hs : ∀ i, m1 (R2 i) = swA (fun i => m1 (R1 i)) r k i := fun i => by rw [hR]; exact swA_swR
  rw [hv3 i hi c hc]
  unfold gj
  by_cases e : i = r
  · rw [if_pos e, if_pos e, e, hv2 c, if_pos (by omega), hs r]
  · have hk : m2 (R2 i) = m1 (R2 i) := hF2 _ (fun z => e (inj i r (by omega) (by omega) z))
    rw [if_neg e, if_neg e, hk, hv2 c, if_pos (by omega), hs i, hs r]
theorem SI_step {n e j r k : Nat} {A : Nat → Nat → F} {m m1 m2 m3 : M1} {p p1 p2 : M2} {R1 R2 : Nat → Nat} (h : SI n e A m p j r m1 p1 R1) (hn : n ≤ 8) (hj : j < n) (hk : IsF (fun i => m1 (R1 i) j) n r k) (hkn : k < n) (hR : R2 = swR R1 r k) (hE : EQ p2 e R2) (hP : Pk (e + 1) p1 p2) (hF2 : Fr (fun a => a = R2 r) m1 m2) (hv2 : ∀ c, m2 (R2 r) c = if c < n + 1 then iv (m1 (R2 r) j) * m1 (R2 r) c else m1 (R2 r) c) (hF3 : Fr (fun a => e + 2 ≤ a ∧ a < e + 10) m2 m3)
    (hv3 : ∀ i, i < n → ∀ c, c ≤ n → m3 (R2 i) c = if i = r then m2 (R2 i) c else m2 (R2 i) c - m2 (R2 i) j * m2 (R2 r) c) : SI n e A m p (j + 1) (r + 1) m3 p2 R2 := by
  obtain ⟨h1, h2, h3, h4, h5, h6, h7⟩ := h
  have hle := els_le (n := n) (A := A) j (by omega)
  rw [← h1] at hle
  have hm := gj_mem hR hE.2.2.2.2 hn (by omega) hj hF2 hv2 hv3
  have hp : m1 (R1 k) j ≠ 0 := hk.2.2.1 hkn
  have hp' : swA (fun i => m1 (R1 i)) r k r j ≠ 0 := by
    unfold swA
    by_cases c : r = k
    · rw [if_pos c, c]; exact hp
    · rw [if_neg c, if_pos rfl]; exact hp
  have hg := (gj_el (g := els n A j) (M := fun i => m1 (R1 i)) (by omega) hj (by rw [← h1]; exact h5) (by rw [← h1]; exact hk)).1 hkn
  rw [← h1] at hg
  refine ⟨hg.1.symm, hE, Pk_trans h3 hP, Fr_trans h4 (Fr_trans (Fr_mono hF2 (fun a ha => by rw [ha]; exact hE.2.2.2.1 r (by omega))) hF3), fun i hi hin c hc => ?_, fun x => ?_, fun q => ?_⟩
  · rw [hm i hin c (by omega)]
    exact hg.2 i hi hin c hc
  · rw [← h6 x, ← Sat_sw (M := fun i => m1 (R1 i)) (r := r) (k := k) (by omega) hkn, ← Sat_gj (r := r) (by omega) hp']
    exact Sat_congr hm
  · have hrj : r = j := by omega
    subst hrj
    intro c hc i hi
    show m3 (R2 i) c = _
    rw [hm i hi c (by omega)]
    exact Idc_gj (h7 rfl) hj hk.1 hkn hp c hc i hi
theorem SI_end {n e r : Nat} {A : Nat → Nat → F} {m m1 : M1} {p p1 : M2} {R1 : Nat → Nat} (h : SI n e A m p n r m1 p1 R1) : r = rk n A ∧ EQ p1 e R1 ∧ Pk (e + 1) p p1 ∧ Fr (fun a => e + 2 ≤ a ∧ a < e + 10) m m1 ∧ (rk n A = n → ∀ x, Sat n A x ↔ ∀ i, i < n → x i = m1 (R1 i) n) := by
  obtain ⟨h1, h2, h3, h4, h5, h6, h7⟩ := h
  refine ⟨h1, h2, h3, h4, fun q x => ?_⟩
  rw [← h6 x]
  exact Sat_id (h7 (h1.trans q))
