/-! WHERE all lies: what the references are. -/
def ptC : List (Nat × Nat × Nat) := [(1, 0, 2), (1, 2, 3), (1, 3, 5), (1, 4, 7), (1, 5, 19), (1, 6, 33), (1, 7, 34), (1, 8, 35), (1, 9, 59), (1, 10, 73), (3, 0, 4), (5, 0, 6), (19, 0, 20), (19, 1, 30), (19, 2, 31), (19, 3, 32), (35, 0, 36), (35, 1, 37), (35, 4, 56), (59, 0, 60), (59, 1, 61), (59, 2, 62), (59, 3, 63), (73, 0, 74), (73, 1, 83), (73, 2, 92), (73, 3, 113), (73, 4, 114), (73, 5, 115), (73, 6, 116)]
def PQ (p : M2) : Prop := SQ p 38 (fun i => 39 + i) ∧ SQ p 47 (fun i => 48 + i) ∧ (∃ qa qb, p 35 2 = some qa ∧ p 35 3 = some qb ∧ (qa = 38 ∧ qb = 47 ∨ qa = 47 ∧ qb = 38)) ∧ ∃ u v, p 35 5 = some u ∧ p 35 6 = some v ∧ (u = 57 ∧ v = 58 ∨ u = 58 ∧ v = 57)
def PI (p : M2) : Prop := (∀ q ∈ ptC, p q.1 q.2.1 = some q.2.2) ∧ (∀ k, k < 12 → p 2 k = some (117 + 12 * k)) ∧ (∀ k, k < 12 → PL p (117 + 12 * k)) ∧ PL p 7 ∧ SQ p 74 (fun i => 75 + i) ∧ SQ p 83 (fun i => 84 + i) ∧ (∀ i, i < 20 → p 92 i = some (93 + i)) ∧ (∃ R, EQ p 20 R) ∧ (∃ R, EQ p 63 R) ∧ PQ p
/-- where a plant may lie -/
def IsPl (t : Nat) : Prop := t = 7 ∨ ∃ k, k < 12 ∧ t = 117 + 12 * k
theorem IsPl_b {t : Nat} (h : IsPl t) : t = 7 ∨ (117 ≤ t ∧ t ≤ 249) := h.elim Or.inl (fun ⟨k, h1, h2⟩ => by omega)
theorem PI_pl {p : M2} {t : Nat} (h : PI p) (ht : IsPl t) : PL p t := by
  rcases ht with rfl | ⟨k, hk, rfl⟩
  · exact h.2.2.2.1
  · exact h.2.2.1 k hk
theorem SH_93 {i : Nat} (h : i < 20) : SH (93 + i) = (1, 8) := (show ∀ i : Fin 20, SH (93 + i) = (1, 8) by decide) ⟨i, h⟩
theorem pt_1_0 {p : M2} (h : PI p) : p 1 0 = some 2 := h.1 (1, 0, 2) (by decide)
theorem pt_1_2 {p : M2} (h : PI p) : p 1 2 = some 3 := h.1 (1, 2, 3) (by decide)
theorem pt_1_3 {p : M2} (h : PI p) : p 1 3 = some 5 := h.1 (1, 3, 5) (by decide)
theorem pt_1_4 {p : M2} (h : PI p) : p 1 4 = some 7 := h.1 (1, 4, 7) (by decide)
theorem pt_1_5 {p : M2} (h : PI p) : p 1 5 = some 19 := h.1 (1, 5, 19) (by decide)
theorem pt_1_6 {p : M2} (h : PI p) : p 1 6 = some 33 := h.1 (1, 6, 33) (by decide)
theorem pt_1_7 {p : M2} (h : PI p) : p 1 7 = some 34 := h.1 (1, 7, 34) (by decide)
theorem pt_1_8 {p : M2} (h : PI p) : p 1 8 = some 35 := h.1 (1, 8, 35) (by decide)
theorem pt_1_9 {p : M2} (h : PI p) : p 1 9 = some 59 := h.1 (1, 9, 59) (by decide)
theorem pt_1_10 {p : M2} (h : PI p) : p 1 10 = some 73 := h.1 (1, 10, 73) (by decide)
theorem pt_3_0 {p : M2} (h : PI p) : p 3 0 = some 4 := h.1 (3, 0, 4) (by decide)
theorem pt_5_0 {p : M2} (h : PI p) : p 5 0 = some 6 := h.1 (5, 0, 6) (by decide)
theorem pt_19_0 {p : M2} (h : PI p) : p 19 0 = some 20 := h.1 (19, 0, 20) (by decide)
theorem pt_19_1 {p : M2} (h : PI p) : p 19 1 = some 30 := h.1 (19, 1, 30) (by decide)
theorem pt_19_2 {p : M2} (h : PI p) : p 19 2 = some 31 := h.1 (19, 2, 31) (by decide)
theorem pt_19_3 {p : M2} (h : PI p) : p 19 3 = some 32 := h.1 (19, 3, 32) (by decide)
theorem pt_35_0 {p : M2} (h : PI p) : p 35 0 = some 36 := h.1 (35, 0, 36) (by decide)
theorem pt_35_1 {p : M2} (h : PI p) : p 35 1 = some 37 := h.1 (35, 1, 37) (by decide)
theorem pt_35_4 {p : M2} (h : PI p) : p 35 4 = some 56 := h.1 (35, 4, 56) (by decide)
theorem pt_59_0 {p : M2} (h : PI p) : p 59 0 = some 60 := h.1 (59, 0, 60) (by decide)
theorem pt_59_1 {p : M2} (h : PI p) : p 59 1 = some 61 := h.1 (59, 1, 61) (by decide)
theorem pt_59_2 {p : M2} (h : PI p) : p 59 2 = some 62 := h.1 (59, 2, 62) (by decide)
theorem pt_59_3 {p : M2} (h : PI p) : p 59 3 = some 63 := h.1 (59, 3, 63) (by decide)
theorem pt_73_0 {p : M2} (h : PI p) : p 73 0 = some 74 := h.1 (73, 0, 74) (by decide)
theorem pt_73_1 {p : M2} (h : PI p) : p 73 1 = some 83 := h.1 (73, 1, 83) (by decide)
theorem pt_73_2 {p : M2} (h : PI p) : p 73 2 = some 92 := h.1 (73, 2, 92) (by decide)
theorem pt_73_3 {p : M2} (h : PI p) : p 73 3 = some 113 := h.1 (73, 3, 113) (by decide)
theorem pt_73_4 {p : M2} (h : PI p) : p 73 4 = some 114 := h.1 (73, 4, 114) (by decide)
theorem pt_73_5 {p : M2} (h : PI p) : p 73 5 = some 115 := h.1 (73, 5, 115) (by decide)
theorem pt_73_6 {p : M2} (h : PI p) : p 73 6 = some 116 := h.1 (73, 6, 116) (by decide)
theorem ptC_ne {q : Nat × Nat × Nat} (h : q ∈ ptC) : q.1 ≠ 21 ∧ q.1 ≠ 64 := (show ∀ q ∈ ptC, q.1 ≠ 21 ∧ q.1 ≠ 64 by decide) q h
theorem PQ_pk {x : Nat} {p p' : M2} (h : PQ p) (k : Pk x p p') (hx : x = 21 ∨ x = 64) : PQ p' := by
  obtain ⟨h1, h2, h3, h4⟩ := h
  refine ⟨SQ_pk h1 k (by omega), SQ_pk h2 k (by omega), ?_, ?_⟩
  · rw [k 35 (by omega)]
    exact h3
  · rw [k 35 (by omega)]
    exact h4
theorem PI_eq {p p' : M2} {e : Nat} {R : Nat → Nat} (h : PI p) (hE : EQ p' e R) (k : Pk (e + 1) p p') (he : e = 20 ∨ e = 63) : PI p' := by
  obtain ⟨h1, h2, h3, h4, h5, h6, h7, h8, h9, h10⟩ := h
  refine ⟨fun q hq => ?_, fun i hi => ?_, fun i hi => PL_pk (h3 i hi) k (by omega) (by omega), PL_pk h4 k (by omega) (by omega), SQ_pk h5 k (by omega), SQ_pk h6 k (by omega), fun i hi => ?_, ?_, ?_, PQ_pk h10 k (by omega)⟩
  · have := ptC_ne hq
    rw [k q.1 (by omega)]
    exact h1 q hq
  · rw [k 2 (by omega)]
    exact h2 i hi
  · rw [k 92 (by omega)]
    exact h7 i hi
  · rcases he with rfl | rfl
    · exact ⟨R, hE⟩
    · obtain ⟨R0, h8⟩ := h8
      exact ⟨R0, EQ_pk h8 k (by omega) (by omega)⟩
  · rcases he with rfl | rfl
    · obtain ⟨R0, h9⟩ := h9
      exact ⟨R0, EQ_pk h9 k (by omega) (by omega)⟩
    · exact ⟨R, hE⟩
