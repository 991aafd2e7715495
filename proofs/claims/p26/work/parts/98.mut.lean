/-! What the shop's calls make of it, by 'does'. -/
def upN (N : Nat → Nat) (k n : Nat) : Nat → Nat := fun z => if z = k then n else N z
theorem upN_at {N : Nat → Nat} {k n : Nat} : upN N k n k = n := if_pos rfl
theorem upN_ne {N : Nat → Nat} {k n z : Nat} (h : z ≠ k) : upN N k n z = N z := if_neg h
theorem upN_lt {N : Nat → Nat} {k n z : Nat} (h : z < k) : upN N k n z = N z := if_neg (by omega)
/-- what stands when system k is new -/
def NW (m0 m' : M1) (k : Nat) : Prop := (∀ a, a < 7 → a ≠ 1 → m' a = m0 a) ∧ ∀ a, 117 ≤ a → a < 117 + 12 * k → m' a = m0 a
theorem NW.A {m0 m' : M1} {k s z : Nat} (h : NW m0 m' k) (hs : s < k) (hz : z < 8) : SA m' s z = SA m0 s z := h.2 _ (by omega) (by omega)
theorem NW.b {m0 m' : M1} {k s : Nat} (h : NW m0 m' k) (hs : s < k) : Sb m' s = Sb m0 s := h.2 _ (by omega) (by omega)
theorem NW.c {m0 m' : M1} {k s : Nat} (h : NW m0 m' k) (hs : s < k) : Sc m' s = Sc m0 s := h.2 _ (by omega) (by omega)
theorem NW.d {m0 m' : M1} {k s : Nat} (h : NW m0 m' k) (hs : s < k) : Sd m' s = Sd m0 s := congrFun (h.2 _ (by omega) (by omega)) 4
theorem NW.P {m0 m' : M1} {k : Nat} (h : NW m0 m' k) : m' 4 = m0 4 := h.1 4 (by omega) (by omega)
theorem NW.U {m0 m' : M1} {k : Nat} (h : NW m0 m' k) : m' 6 = m0 6 := h.1 6 (by omega) (by omega)
theorem CI_new {m0 m m' : M1} {k cp ci n : Nat} {N : Nat → Nat} {p p' : M2} (h : CS m0 k N cp ci m p) (hk1 : k < 12) (hP : PI p') (hF : Fr (fun a_ => (7 ≤ a_ ∧ a_ < 117) ∨ a_ = 1 ∨ (117 + 12 * k ≤ a_ ∧ a_ < 117 + 12 * k + 12)) m m') (h1 : m' 1 1 = nF (k + 1)) (h0 : m' (117 + 12 * k) 0 = nF n) (hn1 : 1 ≤ n) (hn : n ≤ 8) : CS m' (k + 1) (upN N k n) cp ci m' p' ∧ NW m0 m' k := by
  have hf : ∀ a, ¬ ((7 ≤ a ∧ a < 117) ∨ a = 1 ∨ (117 + 12 * k ≤ a ∧ a < 117 + 12 * k + 12)) → m' a = m a := hF
  refine ⟨CS_rf ⟨hP, by omega, h.p16, h.i20, h1, by rw [hf 3 (by omega)]; exact h.pc, by rw [hf 3 (by omega)]; exact h.cpw, by rw [hf 5 (by omega)]; exact h.ic, by rw [hf 5 (by omega)]; exact h.ciw, fun s hs => ?_, fun c c1 c2 j => by rw [hf c (by omega)]; exact h.z c (by omega) c2 j⟩, fun a h1 h2 => (hf a (by omega)).trans (h.2 a (by omega)), fun a h1 h2 => (hf a (by omega)).trans (h.2 a (by omega))⟩
  by_cases q : s = k
  · subst q
    rw [upN_at]
    exact ⟨hn1, hn, h0⟩
  · rw [upN_ne q, hf _ (by omega)]
    exact ⟨h.N1 (by omega), h.N8 (by omega), h.cn (by omega)⟩
theorem av_A {n : Nat} {A A' : Nat → Nat → F} {P x : Nat → F} (h : ∀ i, i < n → ∀ j, j < n → A i j = A' i j) (t : Nat) : ∀ j, j < n → av n A P x t j = av n A' P x t j := by
  induction t with
  | zero => exact fun _ _ => rfl
  | succ t ih =>
    intro j hj
    show dot n (av n A P x t) (fun i => A i j) - P t * av n A P x t j = dot n (av n A' P x t) (fun i => A' i j) - P t * av n A' P x t j
    rw [ih j hj, dot_congr (fun i hi => ih i hi) (fun i hi => h i hi j hj)]
theorem serA_cg {n1 n2 : Nat} {A1 A1' A2 A2' : Nat → Nat → F} {b c : Nat → F} (h1 : ∀ r, r < n1 → ∀ c, c < n1 → A1 r c = A1' r c) (h2 : ∀ r, r < n2 → ∀ c, c < n2 → A2 r c = A2' r c) {r s : Nat} (hr : r < n1 + n2) (hs : s < n1 + n2) : serA n1 A1 b c A2 r s = serA n1 A1' b c A2' r s := by
  unfold serA
  by_cases q : r < n1
  · rw [if_pos q, if_pos q]
    by_cases q2 : s < n1
    · rw [if_pos q2, if_pos q2]
      exact h1 r q s q2
    · rw [if_neg q2, if_neg q2]
  · rw [if_neg q, if_neg q]
    by_cases q2 : s < n1
    · rw [if_pos q2, if_pos q2]
    · rw [if_neg q2, if_neg q2]
      exact h2 _ (by omega) _ (by omega)
theorem sidA_cg {n1 n2 : Nat} {A1 A1' A2 A2' : Nat → Nat → F} (h1 : ∀ r, r < n1 → ∀ c, c < n1 → A1 r c = A1' r c) (h2 : ∀ r, r < n2 → ∀ c, c < n2 → A2 r c = A2' r c) {r s : Nat} (hr : r < n1 + n2) (hs : s < n1 + n2) : sidA n1 A1 A2 r s = sidA n1 A1' A2' r s := by
  unfold sidA
  by_cases q : r < n1
  · rw [if_pos q, if_pos q]
    by_cases q2 : s < n1
    · rw [if_pos q2, if_pos q2]
      exact h1 r q s q2
    · rw [if_neg q2, if_neg q2]
  · rw [if_neg q, if_neg q]
    by_cases q2 : s < n1
    · rw [if_pos q2, if_pos q2]
    · rw [if_neg q2, if_neg q2]
      exact h2 _ (by omega) _ (by omega)
theorem obA_cg {n : Nat} {A A' : Nat → Nat → F} {b c k k' l l' : Nat → F} (h : ∀ r, r < n → ∀ c, c < n → A r c = A' r c) (hk : ∀ i, i < n → k i = k' i) (hl : ∀ i, i < n → l i = l' i) {r s : Nat} (hr : r < 2 * n) (hs : s < 2 * n) : obA n A b c k l r s = obA n A' b c k' l' r s := by
  unfold obA
  by_cases q : r < n
  · rw [if_pos q, if_pos q]
    by_cases q2 : s < n
    · rw [if_pos q2, if_pos q2]
      exact h r q s q2
    · rw [if_neg q2, if_neg q2, hk _ (by omega)]
  · rw [if_neg q, if_neg q]
    by_cases q2 : s < n
    · rw [if_pos q2, if_pos q2, hl _ (by omega)]
    · rw [if_neg q2, if_neg q2, h _ (by omega) _ (by omega), hk _ (by omega), hl _ (by omega)]
def Dm (d : Nat) (X : MC) (ar : List Value) (m : M1) (p : M2) (K : Nat) (sh : Nat → Nat) (nn : N2) (v : Int) (R : M1 → M2 → Prop) : Prop := Lc d k_L_does X ar m p K sh nn (fun w m' p' K' sh' n' => w = some (.int (iI v)) ∧ R m' p' ∧ nn = n' ∧ sh = sh')
section
variable {d : Nat} {X : MC} {m0 m : M1} {k cp ci s : Nat} {N : Nat → Nat} {p : M2} {K : Nat} {sh : Nat → Nat} {nn : N2}
theorem e_system (hd : 9 ≤ d) (h : CS m0 k N cp ci m p) (hk1 : k < 12) {n : Nat} (hn : 1 ≤ n ∧ n ≤ 4) : Dm d X (dA 0 n 0 0 0) m p K sh nn ((k : Nat) : Int) (fun m' p' => CS m' (k + 1) (upN N k n) cp ci m' p' ∧ NW m0 m' k) := by
  obtain ⟨d, rfl⟩ : ∃ e, d = e + 1 := ⟨d - 1, by omega⟩
  refine dr_0 (Ct_mono (c_X9_system (by omega) n k h.PI h.ck h.k12 hn hk1) (fun v m' p' q => ⟨q.1, ?_⟩))
  obtain ⟨_, rfl, rfl⟩ := q
  refine CI_new h hk1 h.PI (fun a ha => ?_) w1_at ?_ hn.1 (by omega)
  · have ha : ¬ ((7 ≤ a ∧ a < 117) ∨ a = 1 ∨ (117 + 12 * k ≤ a ∧ a < 117 + 12 * k + 12)) := ha
    rw [w1_a (by omega), w1_a (by omega)]
  · rw [w1_a (by omega)]
    exact w1_at
theorem e_systemX (hd : 9 ≤ d) (h : CS m0 k N cp ci m p) {n : Nat} (hn : n < 1 ∨ 4 < n) (hr : n < 1000) : Dn d X (dA 0 n 0 0 0) m0 k N cp ci m p K sh nn (-2000) := by
  obtain ⟨d, rfl⟩ : ∃ e, d = e + 1 := ⟨d - 1, by omega⟩
  exact dx_0_1 (Q := fun m' p' => CS m0 k N cp ci m' p') (Tx_mono (t_X9_system (by omega) ((n : Nat) : Int) k h.PI h.ck h.k12 ⟨by omega, by omega⟩ (by omega)) (fun m' p' q => by rw [← q.1, ← q.2]; exact h))
theorem e_systemF (hd : 9 ≤ d) (h : CS m0 k N cp ci m p) {n : Nat} (hn : 1 ≤ n ∧ n ≤ 4) (hk1 : 12 ≤ k) : Dn d X (dA 0 n 0 0 0) m0 k N cp ci m p K sh nn (-1000) := by
  obtain ⟨d, rfl⟩ : ∃ e, d = e + 1 := ⟨d - 1, by omega⟩
  exact dx_0_2 (Q := fun m' p' => CS m0 k N cp ci m' p') (Tx_mono (t_X9_systemF (by omega) n k h.PI h.ck h.k12 hn hk1) (fun m' p' q => by rw [← q.1, ← q.2]; exact h))
/-- joined in series -/
theorem e_join1 (hd : 9 ≤ d) (h : CS m0 k N cp ci m p) {a b : Nat} (ha : a < k) (hb : b < k) (hs8 : N a + N b ≤ 8) (hk1 : k < 12) : Dm d X (dA 2 a b 1 0) m p K sh nn ((k : Nat) : Int) (fun m' p' => (CS m' (k + 1) (upN N k (N a + N b)) cp ci m' p' ∧ NW m0 m' k) ∧ upN N k (N a + N b) k = upN N k (N a + N b) a + upN N k (N a + N b) b ∧ Sd m' k = Sd m' b * Sd m' a ∧ (∀ i, i < upN N k (N a + N b) k → Sb m' k i = twob (upN N k (N a + N b) a) 1 (Sb m' a) (Sd m' a) (Sb m' b) i) ∧ (∀ i, i < upN N k (N a + N b) k → Sc m' k i = twob (upN N k (N a + N b) a) (Sd m' b) (Sc m' a) 1 (Sc m' b) i) ∧ ∀ i, i < upN N k (N a + N b) k → ∀ j, j < upN N k (N a + N b) k → SA m' k i j = serA (upN N k (N a + N b) a) (SA m' a) (Sb m' b) (Sc m' a) (SA m' b) i j) := by
  obtain ⟨d, rfl⟩ : ∃ e, d = e + 1 := ⟨d - 1, by omega⟩
  have a1 := h.N1 ha
  have a8 := h.N8 ha
  have b1 := h.N1 hb
  have b8 := h.N8 hb
  refine dr_2_1 (Ct_mono (c_X9_join1 (by omega) a b k (N a) (N b) 1 h.PI h.ck h.k12 ha hb (h.cn ha) (h.cn hb) ⟨a1, a8, b1, b8⟩ hs8 hk1 (fun c c1 c2 => h.z c c1 (by omega)) ⟨⟨by omega, by omega⟩, by omega⟩) (fun v m' p' q => ⟨q.1, ?_⟩))
  obtain ⟨_, rfl, hF, q1, q2, q3, q4, q5, q6⟩ := q
  have hf : ∀ z, ¬ (z = 1 ∨ (117 + 12 * k ≤ z ∧ z < 117 + 12 * k + 12)) → m z = m' z := fun z hz => (hF z hz).symm
  rw [hf (117 + 12 * b + 10) (by omega), hf (117 + 12 * a + 11) (by omega)] at q3
  rw [hf (117 + 12 * a + 10) (by omega), hf (117 + 12 * a) (by omega), hf (117 + 12 * b + 10) (by omega)] at q4
  rw [hf (117 + 12 * b) (by omega), hf (117 + 12 * a + 11) (by omega), hf (117 + 12 * b + 11) (by omega)] at q5
  rw [hf (117 + 12 * b) (by omega), hf (117 + 12 * a) (by omega)] at q6
  rw [upN_at, upN_lt ha, upN_lt hb]
  exact ⟨CI_new h hk1 h.PI (Fr_mono hF (fun z hz => Or.inr hz)) q1 q2 (by omega) hs8, rfl, q6, q4, q5, fun i hi j hj => (q3 i hi j hj).trans (serA_cg (fun r hr c _ => congrFun (hf (117 + 12 * a + 2 + r) (by omega)) c) (fun r hr c _ => congrFun (hf (117 + 12 * b + 2 + r) (by omega)) c) hi hj)⟩
theorem e_join0 (hd : 9 ≤ d) (h : CS m0 k N cp ci m p) {a b : Nat} (ha : a < k) (hb : b < k) (hs8 : N a + N b ≤ 8) (hk1 : k < 12) : Dm d X (dA 2 a b 0 0) m p K sh nn ((k : Nat) : Int) (fun m' p' => (CS m' (k + 1) (upN N k (N a + N b)) cp ci m' p' ∧ NW m0 m' k) ∧ upN N k (N a + N b) k = upN N k (N a + N b) a + upN N k (N a + N b) b ∧ Sd m' k = Sd m' a + Sd m' b ∧ (∀ i, i < upN N k (N a + N b) k → Sb m' k i = twob (upN N k (N a + N b) a) 1 (Sb m' a) 1 (Sb m' b) i) ∧ (∀ i, i < upN N k (N a + N b) k → Sc m' k i = twob (upN N k (N a + N b) a) 1 (Sc m' a) 1 (Sc m' b) i) ∧ ∀ i, i < upN N k (N a + N b) k → ∀ j, j < upN N k (N a + N b) k → SA m' k i j = sidA (upN N k (N a + N b) a) (SA m' a) (SA m' b) i j) := by
  obtain ⟨d, rfl⟩ : ∃ e, d = e + 1 := ⟨d - 1, by omega⟩
  have a1 := h.N1 ha
  have a8 := h.N8 ha
  have b1 := h.N1 hb
  have b8 := h.N8 hb
  refine dr_2_0 (Ct_mono (c_X9_join0 (by omega) a b k (N a) (N b) h.PI h.ck h.k12 ha hb (h.cn ha) (h.cn hb) ⟨a1, a8, b1, b8⟩ hs8 hk1 (fun c c1 c2 => h.z c c1 (by omega))) (fun v m' p' q => ⟨q.1, ?_⟩))
  obtain ⟨_, rfl, hF, q1, q2, q3, q4, q5, q6⟩ := q
  have hf : ∀ z, ¬ (z = 1 ∨ (117 + 12 * k ≤ z ∧ z < 117 + 12 * k + 12)) → m z = m' z := fun z hz => (hF z hz).symm
  rw [hf (117 + 12 * a + 10) (by omega), hf (117 + 12 * b + 10) (by omega)] at q4
  rw [hf (117 + 12 * a + 11) (by omega), hf (117 + 12 * b + 11) (by omega)] at q5
  rw [hf (117 + 12 * a) (by omega), hf (117 + 12 * b) (by omega)] at q6
  rw [upN_at, upN_lt ha, upN_lt hb]
  exact ⟨CI_new h hk1 h.PI (Fr_mono hF (fun z hz => Or.inr hz)) q1 q2 (by omega) hs8, rfl, q6, q4, q5, fun i hi j hj => (q3 i hi j hj).trans (sidA_cg (fun r hr c _ => congrFun (hf (117 + 12 * a + 2 + r) (by omega)) c) (fun r hr c _ => congrFun (hf (117 + 12 * b + 2 + r) (by omega)) c) hi hj)⟩
theorem e_loop (hd : 9 ≤ d) (h : CS m0 k N cp ci m p) (hsk : s < k) {x : Int} (hx : -10007 < x ∧ x < 10007) (h0 : 1 + toF x * Sd m0 s ≠ 0) (hk1 : k < 12) : Dm d X (dA 3 s x 0 0) m p K sh nn ((k : Nat) : Int) (fun m' p' => (CS m' (k + 1) (upN N k (N s)) cp ci m' p' ∧ NW m0 m' k) ∧ upN N k (N s) k = upN N k (N s) s ∧ Sd m' k = Sd m' s * iv (1 + toF x * Sd m' s) ∧ (∀ i, i < upN N k (N s) s → Sb m' k i = Sb m' s i * iv (1 + toF x * Sd m' s)) ∧ (∀ i, i < upN N k (N s) s → Sc m' k i = Sc m' s i * iv (1 + toF x * Sd m' s)) ∧ ∀ i, i < upN N k (N s) s → ∀ j, j < upN N k (N s) s → SA m' k i j = SA m' s i j - Sb m' s i * Sc m' s j * toF x * iv (1 + toF x * Sd m' s)) := by
  obtain ⟨d, rfl⟩ : ∃ e, d = e + 1 := ⟨d - 1, by omega⟩
  have a1 := h.N1 hsk
  have a8 := h.N8 hsk
  refine dr_3 (Ct_mono (c_X9_loop (by omega) s k (N s) x h.PI h.ck h.k12 hsk (h.cn hsk) a1 a8 hx (by rw [h.d]; exact h0) hk1) (fun v m' p' q => ⟨q.1, ?_⟩))
  obtain ⟨_, hP, hF, q1, q2, q3, q4, q5⟩ := q
  have hf : ∀ z, ¬ (z = 1 ∨ (117 + 12 * k ≤ z ∧ z < 117 + 12 * k + 12)) → m z = m' z := fun z hz => (hF z hz).symm
  have g1 : m (117 + 12 * s) 4 = Sd m' s := congrFun (hf (117 + 12 * s) (by omega)) 4
  have g2 : m (117 + 12 * s + 10) = Sb m' s := hf (117 + 12 * s + 10) (by omega)
  have g3 : m (117 + 12 * s + 11) = Sc m' s := hf (117 + 12 * s + 11) (by omega)
  rw [g1] at q5
  rw [upN_at, upN_lt hsk]
  refine ⟨CI_new h hk1 hP (Fr_mono hF (fun z hz => Or.inr hz)) q1 q2 (by omega) a8, rfl, ?_, fun i hi => ?_, fun i hi => ?_, fun i hi j hj => ?_⟩
  · refine q5.trans ?_
    grind
  · refine (q4 i hi).1.trans ?_
    rw [g1, g2]
    grind
  · refine (q4 i hi).2.trans ?_
    rw [g1, g3]
    grind
  · have g4 : m (117 + 12 * s + 2 + i) j = SA m' s i j := congrFun (hf (117 + 12 * s + 2 + i) (by omega)) j
    refine (q3 i hi j hj).trans ?_
    rw [g1, g2, g3, g4]
    grind
theorem e_placed (hd : 9 ≤ d) (h : CS m0 k N cp ci m p) (hsk : s < k) (hc : N s ≤ cp) (hr : rk (N s) (kr (N s) (SA m0 s) (Sb m0 s)) = N s) (hk1 : k < 12) : Dm d X (dA 6 s 0 0 0) m p K sh nn ((k : Nat) : Int) (fun m' p' => ∃ y, (CS m' (k + 1) (upN N k (N s)) cp ci m' p' ∧ NW m0 m' k) ∧ upN N k (N s) s ≤ cp ∧ rk (upN N k (N s) s) (kr (upN N k (N s) s) (SA m' s) (Sb m' s)) = upN N k (N s) s ∧ Du (upN N k (N s) s) (SA m' s) (Sb m' s) y ∧ upN N k (N s) k = upN N k (N s) s ∧ Sd m' k = Sd m' s ∧ (∀ i, i < upN N k (N s) s → Sb m' k i = Sb m' s i) ∧ (∀ i, i < upN N k (N s) s → Sc m' k i = Sc m' s i) ∧ ∀ i, i < upN N k (N s) s → ∀ j, j < upN N k (N s) s → SA m' k i j = SA m' s i j - Sb m' s i * av (upN N k (N s) s) (SA m' s) (m' 4) y (upN N k (N s) s) j) := by
  obtain ⟨d, rfl⟩ : ∃ e, d = e + 1 := ⟨d - 1, by omega⟩
  have a1 := h.N1 hsk
  have a8 := h.N8 hsk
  refine dr_6 (Ct_mono (Q := fun v m' p' => ∃ x, _) (c_X9_placed (by omega) s k (N s) cp h.PI h.ck h.k12 hsk (h.cn hsk) a1 a8 h.pc h.p16 hc (by rw [h.A, h.b]; exact hr) hk1) (fun v m' p' q => ?_))
  obtain ⟨x, qv, hP, hF, q1, q2, q3, q4, q5, q6⟩ := q
  have hCN := CI_new h hk1 hP hF q1 q2 a1 a8
  have hN := hCN.2
  have hf : ∀ z, ¬ ((7 ≤ z ∧ z < 117) ∨ z = 1 ∨ (117 + 12 * k ≤ z ∧ z < 117 + 12 * k + 12)) → m z = m' z := fun z hz => (hF z hz).symm
  rw [h.A, h.b] at q6
  refine ⟨qv, x, hCN, ?_⟩
  rw [upN_at, upN_lt hsk, hN.b hsk]
  have eA : ∀ i, i < N s → ∀ j, j < N s → SA m0 s i j = SA m' s i j := fun i hi j _ => (congrFun (hN.A hsk (by omega)) j).symm
  refine ⟨hc, (rk_congr (fun i hi c hc => (kr_congr eA (fun _ _ => rfl) i c hc).symm)).trans hr, fun i hi => (dot_congr (fun c hc => (kr_congr eA (fun _ _ => rfl) i c hc).symm) (fun _ _ => rfl)).trans (q6 i hi), rfl, q5.trans (congrFun (hf (117 + 12 * s) (by omega)) 4), fun i hi => (q4 i hi).1.trans (congrFun h.b i), fun i hi => (q4 i hi).2.trans (congrFun (hf (117 + 12 * s + 11) (by omega)) i), fun i hi j hj => ?_⟩
  refine (q3 i hi j hj).trans ?_
  rw [h.A, h.b, hf 4 (by omega), av_A eA (N s) j hj, show m (117 + 12 * s + 2 + i) j = SA m' s i j from congrFun (hf (117 + 12 * s + 2 + i) (by omega)) j]
theorem e_joined (hd : 9 ≤ d) (h : CS m0 k N cp ci m p) (hsk : s < k) (hn4 : N s ≤ 4) (hd0 : Sd m0 s = 0) (hc : 2 * N s ≤ cp) (hr : rk (N s) (kr (N s) (SA m0 s) (Sb m0 s)) = N s) (hr2 : rk (N s) (kr (N s) (trp (SA m0 s)) (Sc m0 s)) = N s) (hk1 : k < 12) : Dm d X (dA 7 s 0 0 0) m p K sh nn ((k : Nat) : Int) (fun m' p' => ∃ y y2, (CS m' (k + 1) (upN N k (2 * N s)) cp ci m' p' ∧ NW m0 m' k) ∧ upN N k (2 * N s) s ≤ cp ∧ rk (upN N k (2 * N s) s) (kr (upN N k (2 * N s) s) (SA m' s) (Sb m' s)) = upN N k (2 * N s) s ∧ Du (upN N k (2 * N s) s) (SA m' s) (Sb m' s) y ∧ 2 * upN N k (2 * N s) s ≤ cp ∧ rk (upN N k (2 * N s) s) (kr (upN N k (2 * N s) s) (trp (SA m' s)) (Sc m' s)) = upN N k (2 * N s) s ∧ Du (upN N k (2 * N s) s) (trp (SA m' s)) (Sc m' s) y2 ∧ upN N k (2 * N s) s ≤ 4 ∧ upN N k (2 * N s) k = 2 * upN N k (2 * N s) s ∧ Sd m' k = Sd m' s ∧ (∀ i, i < upN N k (2 * N s) s → Sb m' k i = Sb m' s i ∧ Sb m' k (upN N k (2 * N s) s + i) = Sb m' s i) ∧ (∀ i, i < upN N k (2 * N s) k → Sc m' k i = if i < upN N k (2 * N s) s then Sc m' s i else 0) ∧ ∀ i, i < upN N k (2 * N s) k → ∀ j, j < upN N k (2 * N s) k → SA m' k i j = obA (upN N k (2 * N s) s) (SA m' s) (Sb m' s) (Sc m' s) (av (upN N k (2 * N s) s) (SA m' s) (m' 4) y (upN N k (2 * N s) s)) (av (upN N k (2 * N s) s) (trp (SA m' s)) (fun i => m' 4 (upN N k (2 * N s) s + i)) y2 (upN N k (2 * N s) s)) i j) := by
  obtain ⟨d, rfl⟩ : ∃ e, d = e + 1 := ⟨d - 1, by omega⟩
  have a1 := h.N1 hsk
  have a8 := h.N8 hsk
  refine dr_7 (Ct_mono (Q := fun v m' p' => ∃ x y, _) (c_X9_joined (by omega) s k (N s) cp h.PI h.ck h.k12 hsk (h.cn hsk) a1 a8 hn4 (by rw [h.d]; exact hd0) h.pc h.p16 hc (by rw [h.A, h.b]; exact hr) (by rw [h.At, h.c]; exact hr2) hk1 (fun c c1 c2 => h.z c c1 (by omega))) (fun v m' p' q => ?_))
  obtain ⟨x, y, qv, hP, hF, q1, q2, q3, q4, q5, q6, q7, q8⟩ := q
  have hCN := CI_new h hk1 hP hF q1 q2 (by omega) (by omega)
  have hN := hCN.2
  have hf : ∀ z, ¬ ((7 ≤ z ∧ z < 117) ∨ z = 1 ∨ (117 + 12 * k ≤ z ∧ z < 117 + 12 * k + 12)) → m z = m' z := fun z hz => (hF z hz).symm
  rw [h.A, h.b] at q7
  rw [h.At, h.c] at q8
  have eA : ∀ i, i < N s → ∀ j, j < N s → SA m0 s i j = SA m' s i j := fun i hi j _ => (congrFun (hN.A hsk (by omega)) j).symm
  have eT : ∀ i, i < N s → ∀ j, j < N s → trp (SA m0 s) i j = trp (SA m' s) i j := fun i hi j hj => eA j hj i hi
  refine ⟨qv, x, y, hCN, ?_⟩
  rw [upN_at, upN_lt hsk, hN.b hsk, hN.c hsk]
  refine ⟨by omega, (rk_congr (fun i hi c hc => (kr_congr eA (fun _ _ => rfl) i c hc).symm)).trans hr, fun i hi => (dot_congr (fun c hc => (kr_congr eA (fun _ _ => rfl) i c hc).symm) (fun _ _ => rfl)).trans (q7 i hi), hc, (rk_congr (fun i hi c hc => (kr_congr eT (fun _ _ => rfl) i c hc).symm)).trans hr2, fun i hi => (dot_congr (fun c hc => (kr_congr eT (fun _ _ => rfl) i c hc).symm) (fun _ _ => rfl)).trans (q8 i hi), hn4, rfl, ?_, fun i hi => ⟨(q4 i hi).1.trans (congrFun h.b i), (q4 i hi).2.trans (congrFun h.b i)⟩, fun i hi => (q5 i).trans (by rw [h.c]), fun i hi j hj => ?_⟩
  · rw [hN.d hsk, hd0]
    exact q6
  · refine (q3 i hi j hj).trans ?_
    rw [h.A, h.At, h.b, h.c, hf 4 (by omega)]
    exact obA_cg eA (fun z hz => av_A eA (N s) z hz) (fun z hz => av_A eT (N s) z hz) hi hj
end
