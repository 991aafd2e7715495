/-! Refusals, and what does not make a system. -/
section
variable {d : Nat} {X : MC} {m0 m : M1} {k cp ci s : Nat} {N : Nat → Nat} {p : M2} {K : Nat} {sh : Nat → Nat} {nn : N2}
theorem e_joinP {c : Nat} (hc01 : c = 0 ∨ c = 1) (hd : 9 ≤ d) (h : CS m0 k N cp ci m p) {a b : Nat} (hab : ¬ (a < k ∧ b < k)) (ha : a < 1000) (hb : b < 1000) : Dn d X (dA 2 a b c 0) m0 k N cp ci m p K sh nn (-3000) := by
  obtain ⟨d, rfl⟩ : ∃ e, d = e + 1 := ⟨d - 1, by omega⟩
  have key : ∀ x : Int, Tx d k_X9_join (K, gB X sh nn) false [.ref 1, .int (iI ((a : Nat) : Int)), .int (iI ((b : Nat) : Int)), .int (iI x)] m p 0 (fun m' p' => CS m0 k N cp ci m' p') := fun x => by
    by_cases q : a < k
    · exact Tx_mono (t_X9_joinB (by omega) a ((b : Nat) : Int) x k h.PI h.ck h.k12 q ⟨⟨by omega, by omega⟩, by omega⟩) (fun m' p' q => by rw [← q.1, ← q.2]; exact h)
    · exact Tx_mono (t_X9_joinA (by omega) ((a : Nat) : Int) ((b : Nat) : Int) x k h.PI h.ck h.k12 ⟨⟨by omega, by omega⟩, by omega⟩) (fun m' p' q => by rw [← q.1, ← q.2]; exact h)
  rcases hc01 with rfl | rfl
  · exact dx_2_0_0 (key 0)
  · exact dx_2_1_0 (key 1)
theorem e_joinN {c : Nat} (hc01 : c = 0 ∨ c = 1) (hd : 9 ≤ d) (h : CS m0 k N cp ci m p) {a b : Nat} (ha : a < k) (hb : b < k) (hn : ¬ (N a + N b < 9 ∧ k < 12)) : Dn d X (dA 2 a b c 0) m0 k N cp ci m p K sh nn (-1000) := by
  obtain ⟨d, rfl⟩ : ∃ e, d = e + 1 := ⟨d - 1, by omega⟩
  have a1 := h.N1 ha
  have a8 := h.N8 ha
  have b1 := h.N1 hb
  have b8 := h.N8 hb
  have key : ∀ x : Int, Tx d k_X9_join (K, gB X sh nn) false [.ref 1, .int (iI ((a : Nat) : Int)), .int (iI ((b : Nat) : Int)), .int (iI x)] m p 2 (fun m' p' => CS m0 k N cp ci m' p') := fun x => by
    by_cases q : 8 < N a + N b
    · exact Tx_mono (t_X9_joinO (by omega) a b k (N a) (N b) x h.PI h.ck h.k12 ha hb (h.cn ha) (h.cn hb) ⟨a1, a8, b1, b8⟩ q) (fun m' p' q => by rw [← q.1, ← q.2]; exact h)
    · exact Tx_mono (t_X9_joinF (by omega) a b k (N a) (N b) x h.PI h.ck h.k12 ha hb (h.cn ha) (h.cn hb) ⟨a1, a8, b1, b8⟩ (by omega) (by omega)) (fun m' p' q => by rw [← q.1, ← q.2]; exact h)
  rcases hc01 with rfl | rfl
  · exact dx_2_0_2 (key 0)
  · exact dx_2_1_2 (key 1)
theorem e_loopP (hd : 9 ≤ d) (h : CS m0 k N cp ci m p) {x : Int} (hs : ¬ s < k) (hr : s < 1000) : Dn d X (dA 3 s x 0 0) m0 k N cp ci m p K sh nn (-3000) := by
  obtain ⟨d, rfl⟩ : ∃ e, d = e + 1 := ⟨d - 1, by omega⟩
  exact dx_3_0 (Q := fun m' p' => CS m0 k N cp ci m' p') (Tx_mono (t_X9_loop (by omega) ((s : Nat) : Int) x k h.PI h.ck h.k12 ⟨⟨by omega, by omega⟩, by omega⟩) (fun m' p' q => by rw [← q.1, ← q.2]; exact h))
theorem e_loopX (hd : 9 ≤ d) (h : CS m0 k N cp ci m p) (hsk : s < k) {x : Int} (hr : -30000 ≤ x ∧ x ≤ 30000) (hx : x ≤ -10007 ∨ 10007 ≤ x) : Dn d X (dA 3 s x 0 0) m0 k N cp ci m p K sh nn (-2000) := by
  obtain ⟨d, rfl⟩ : ∃ e, d = e + 1 := ⟨d - 1, by omega⟩
  exact dx_3_1 (Q := fun m' p' => CS m0 k N cp ci m' p') (Tx_mono (t_X9_loopX (by omega) s k (N s) x h.PI h.ck h.k12 hsk (h.cn hsk) (h.N1 hsk) (h.N8 hsk) ⟨by omega, by omega⟩ hx) (fun m' p' q => by rw [← q.1, ← q.2]; exact h))
theorem e_loopN (hd : 9 ≤ d) (h : CS m0 k N cp ci m p) (hsk : s < k) {x : Int} (hx : -10007 < x ∧ x < 10007) (hn : ¬ (1 + toF x * Sd m0 s ≠ 0 ∧ k < 12)) : Dn d X (dA 3 s x 0 0) m0 k N cp ci m p K sh nn (-1000) := by
  obtain ⟨d, rfl⟩ : ∃ e, d = e + 1 := ⟨d - 1, by omega⟩
  refine dx_3_2 (Q := fun m' p' => CS m0 k N cp ci m' p') ?_
  by_cases q : 1 + toF x * Sd m0 s = 0
  · exact Tx_mono (t_X9_loopS (by omega) s k (N s) x h.PI h.ck h.k12 hsk (h.cn hsk) (h.N1 hsk) (h.N8 hsk) hx (by rw [h.d]; exact q)) (fun m' p' q => by rw [← q.1, ← q.2]; exact h)
  · exact Tx_mono (t_X9_loopF (by omega) s k (N s) x h.PI h.ck h.k12 hsk (h.cn hsk) (h.N1 hsk) (h.N8 hsk) hx (by rw [h.d]; exact q) (Nat.le_of_not_lt (fun e => hn ⟨q, e⟩))) (fun m' p' q => by rw [← q.1, ← q.2]; exact h)
theorem e_placedP (hd : 9 ≤ d) (h : CS m0 k N cp ci m p) (hs : ¬ s < k) (hr : s < 1000) : Dn d X (dA 6 s 0 0 0) m0 k N cp ci m p K sh nn (-3000) := by
  obtain ⟨d, rfl⟩ : ∃ e, d = e + 1 := ⟨d - 1, by omega⟩
  exact dx_6_0 (Q := fun m' p' => CS m0 k N cp ci m' p') (Tx_mono (t_X9_placed (by omega) ((s : Nat) : Int) k h.PI h.ck h.k12 ⟨⟨by omega, by omega⟩, by omega⟩) (fun m' p' q => by rw [← q.1, ← q.2]; exact h))
theorem e_joinedP (hd : 9 ≤ d) (h : CS m0 k N cp ci m p) (hs : ¬ s < k) (hr : s < 1000) : Dn d X (dA 7 s 0 0 0) m0 k N cp ci m p K sh nn (-3000) := by
  obtain ⟨d, rfl⟩ : ∃ e, d = e + 1 := ⟨d - 1, by omega⟩
  exact dx_7_0 (Q := fun m' p' => CS m0 k N cp ci m' p') (Tx_mono (t_X9_joined (by omega) ((s : Nat) : Int) k h.PI h.ck h.k12 ⟨⟨by omega, by omega⟩, by omega⟩) (fun m' p' q => by rw [← q.1, ← q.2]; exact h))
theorem e_placedN (hd : 9 ≤ d) (h : CS m0 k N cp ci m p) (hsk : s < k) (hn : ¬ (N s ≤ cp ∧ rk (N s) (kr (N s) (SA m0 s) (Sb m0 s)) = N s ∧ k < 12)) : Dn d X (dA 6 s 0 0 0) m0 k N cp ci m p K sh nn (-1000) := by
  obtain ⟨d, rfl⟩ : ∃ e, d = e + 1 := ⟨d - 1, by omega⟩
  refine dx_6_2 (Q := fun m' p' => CS m0 k N cp ci m' p') ?_
  by_cases q : N s ≤ cp
  · by_cases q2 : rk (N s) (kr (N s) (SA m0 s) (Sb m0 s)) = N s
    · exact Tx_mono (t_X9_placedF (by omega) s k (N s) cp h.PI h.ck h.k12 hsk (h.cn hsk) (h.N1 hsk) (h.N8 hsk) h.pc h.p16 q (by rw [h.A, h.b]; exact q2) (Nat.le_of_not_lt (fun e => hn ⟨q, q2, e⟩))) (fun m' p' q => CS_fr h q.1 q.2)
    · exact Tx_mono (t_X9_placedR (by omega) s k (N s) cp h.PI h.ck h.k12 hsk (h.cn hsk) (h.N1 hsk) (h.N8 hsk) h.pc h.p16 q (by rw [h.A, h.b]; exact q2)) (fun m' p' q => CS_fr h q.1 q.2)
  · exact Tx_mono (t_X9_placedC (by omega) s k (N s) cp h.PI h.ck h.k12 hsk (h.cn hsk) (h.N1 hsk) (h.N8 hsk) h.pc h.p16 (by omega)) (fun m' p' q => by rw [← q.1, ← q.2]; exact h)
theorem e_joinedN (hd : 9 ≤ d) (h : CS m0 k N cp ci m p) (hsk : s < k) (hn : ¬ (2 * N s ≤ cp ∧ rk (N s) (kr (N s) (SA m0 s) (Sb m0 s)) = N s ∧ k < 12 ∧ N s < 5 ∧ rk (N s) (kr (N s) (trp (SA m0 s)) (Sc m0 s)) = N s ∧ Sd m0 s = 0)) : Dn d X (dA 7 s 0 0 0) m0 k N cp ci m p K sh nn (-1000) := by
  obtain ⟨d, rfl⟩ : ∃ e, d = e + 1 := ⟨d - 1, by omega⟩
  refine dx_7_2 (Q := fun m' p' => CS m0 k N cp ci m' p') ?_
  by_cases q0 : 4 < N s
  · exact Tx_mono (t_X9_joinedO (by omega) s k (N s) cp h.PI h.ck h.k12 hsk (h.cn hsk) (h.N1 hsk) (h.N8 hsk) h.pc h.p16 q0) (fun m' p' q => by rw [← q.1, ← q.2]; exact h)
  have q4 : N s ≤ 4 := by omega
  by_cases qd : Sd m0 s = 0
  case neg =>
    exact Tx_mono (t_X9_joinedD (by omega) s k (N s) cp h.PI h.ck h.k12 hsk (h.cn hsk) (h.N1 hsk) (h.N8 hsk) h.pc h.p16 q4 (by rw [h.d]; exact qd)) (fun m' p' q => by rw [← q.1, ← q.2]; exact h)
  have hd0 : m (117 + 12 * s) 4 = 0 := by rw [h.d]; exact qd
  by_cases q : N s ≤ cp
  case neg =>
    exact Tx_mono (t_X9_joinedC (by omega) s k (N s) cp h.PI h.ck h.k12 hsk (h.cn hsk) (h.N1 hsk) (h.N8 hsk) q4 hd0 h.pc h.p16 (by omega)) (fun m' p' q => by rw [← q.1, ← q.2]; exact h)
  by_cases q2 : rk (N s) (kr (N s) (SA m0 s) (Sb m0 s)) = N s
  case neg =>
    exact Tx_mono (t_X9_joinedR (by omega) s k (N s) cp h.PI h.ck h.k12 hsk (h.cn hsk) (h.N1 hsk) (h.N8 hsk) q4 hd0 h.pc h.p16 q (by rw [h.A, h.b]; exact q2)) (fun m' p' q => CS_fr h q.1 q.2)
  by_cases q3 : 2 * N s ≤ cp
  case neg =>
    exact Tx_mono (t_X9_joinedE (by omega) s k (N s) cp h.PI h.ck h.k12 hsk (h.cn hsk) (h.N1 hsk) (h.N8 hsk) q4 hd0 h.pc h.p16 ⟨q, by omega⟩ (by rw [h.A, h.b]; exact q2)) (fun m' p' q => CS_fr h q.1 q.2)
  by_cases q5 : rk (N s) (kr (N s) (trp (SA m0 s)) (Sc m0 s)) = N s
  case neg =>
    exact Tx_mono (t_X9_joinedW (by omega) s k (N s) cp h.PI h.ck h.k12 hsk (h.cn hsk) (h.N1 hsk) (h.N8 hsk) q4 hd0 h.pc h.p16 q3 (by rw [h.A, h.b]; exact q2) (by rw [h.At, h.c]; exact q5)) (fun m' p' q => CS_fr h q.1 q.2)
  exact Tx_mono (t_X9_joinedF (by omega) s k (N s) cp h.PI h.ck h.k12 hsk (h.cn hsk) (h.N1 hsk) (h.N8 hsk) q4 hd0 h.pc h.p16 q3 (by rw [h.A, h.b]; exact q2) (by rw [h.At, h.c]; exact q5) (Nat.le_of_not_lt (fun e => hn ⟨q3, q2, e, by omega, q5, qd⟩))) (fun m' p' q => CS_fr h q.1 q.2)
/-! set -/
abbrev dB (w a b c e f : Int) : List Value := [.ref 1, .int (iI w), .int (iI a), .int (iI b), .int (iI c), .int (iI e), .int (iI f)]
def St (m0 m' : M1) (k cp ci : Nat) (N : Nat → Nat) (p' : M2) : Prop := CS m' k N cp ci m' p' ∧ m' 4 = m0 4 ∧ m' 6 = m0 6
theorem CI_set {c j : Nat} {v : F} (h : CS m0 k N cp ci m p) (hc : 117 ≤ c) (hc2 : c < 117 + 12 * k) (hz : ∀ z, z < k → ¬ (117 + 12 * z = c ∧ 0 = j)) : St m0 (w1 m c j v) k cp ci N p := by
  have hf : ∀ a, a ≠ c → w1 m c j v a = m a := fun a ha => w1_a ha
  refine ⟨CS_rf ⟨h.PI, h.k12, h.p16, h.i20, by rw [hf 1 (by omega)]; exact h.ck, by rw [hf 3 (by omega)]; exact h.pc, by rw [hf 3 (by omega)]; exact h.cpw, by rw [hf 5 (by omega)]; exact h.ic, by rw [hf 5 (by omega)]; exact h.ciw, fun s hs => ⟨h.N1 hs, h.N8 hs, ?_⟩, fun a c1 c2 i => by rw [hf a (by omega)]; exact h.z a c1 c2 i⟩, (hf 4 (by omega)).trans h.P, (hf 6 (by omega)).trans h.U⟩
  rw [w1_ne (hz s hs)]
  exact h.cn hs
theorem e_set0 (hd : 9 ≤ d) (h : CS m0 k N cp ci m p) (hsk : s < k) {i j : Nat} {x : Int} (hi : i < N s) (hj : j < N s) (hx : -10007 < x ∧ x < 10007) : Dm d X (dB 1 s 0 i j x) m p K sh nn (vF (SA m0 s i j)) (fun m' p' => St m0 m' k cp ci N p' ∧ SA m' s i j = toF x) := by
  obtain ⟨d, rfl⟩ : ∃ e, d = e + 1 := ⟨d - 1, by omega⟩
  have a8 := h.N8 hsk
  refine dr_1 (Ct_mono (c_X9_set0 (by omega) s k (N s) i j x h.PI h.ck h.k12 hsk (h.cn hsk) (h.N1 hsk) a8 hi hj hx) (fun v m' p' q => ⟨by rw [q.1, ← h.A], ?_⟩))
  obtain ⟨_, rfl, rfl⟩ := q
  exact ⟨CI_set h (by omega) (by omega) (fun z _ e => by omega), w1_at⟩
theorem e_set1 (hd : 9 ≤ d) (h : CS m0 k N cp ci m p) (hsk : s < k) {i : Nat} {j : Int} {x : Int} (hi : i < N s) (hx : -10007 < x ∧ x < 10007) : Dm d X (dB 1 s 1 i j x) m p K sh nn (vF (Sb m0 s i)) (fun m' p' => St m0 m' k cp ci N p' ∧ Sb m' s i = toF x) := by
  obtain ⟨d, rfl⟩ : ∃ e, d = e + 1 := ⟨d - 1, by omega⟩
  have a8 := h.N8 hsk
  refine dr_1 (Ct_mono (c_X9_set1 (by omega) s k (N s) i j x h.PI h.ck h.k12 hsk (h.cn hsk) (h.N1 hsk) a8 hi hx) (fun v m' p' q => ⟨by rw [q.1, ← h.b], ?_⟩))
  obtain ⟨_, rfl, rfl⟩ := q
  exact ⟨CI_set h (by omega) (by omega) (fun z _ e => by omega), w1_at⟩
theorem e_set2 (hd : 9 ≤ d) (h : CS m0 k N cp ci m p) (hsk : s < k) {i : Int} {j : Nat} {x : Int} (hj : j < N s) (hx : -10007 < x ∧ x < 10007) : Dm d X (dB 1 s 2 i j x) m p K sh nn (vF (Sc m0 s j)) (fun m' p' => St m0 m' k cp ci N p' ∧ Sc m' s j = toF x) := by
  obtain ⟨d, rfl⟩ : ∃ e, d = e + 1 := ⟨d - 1, by omega⟩
  have a8 := h.N8 hsk
  refine dr_1 (Ct_mono (c_X9_set2 (by omega) s k (N s) i j x h.PI h.ck h.k12 hsk (h.cn hsk) (h.N1 hsk) a8 hj hx) (fun v m' p' q => ⟨by rw [q.1, ← h.c], ?_⟩))
  obtain ⟨_, rfl, rfl⟩ := q
  exact ⟨CI_set h (by omega) (by omega) (fun z _ e => by omega), w1_at⟩
theorem e_set3 (hd : 9 ≤ d) (h : CS m0 k N cp ci m p) (hsk : s < k) {i j : Int} {x : Int} (hx : -10007 < x ∧ x < 10007) : Dm d X (dB 1 s 3 i j x) m p K sh nn (vF (Sd m0 s)) (fun m' p' => St m0 m' k cp ci N p' ∧ Sd m' s = toF x) := by
  obtain ⟨d, rfl⟩ : ∃ e, d = e + 1 := ⟨d - 1, by omega⟩
  have a8 := h.N8 hsk
  refine dr_1 (Ct_mono (c_X9_set3 (by omega) s k (N s) i j x h.PI h.ck h.k12 hsk (h.cn hsk) (h.N1 hsk) a8 hx) (fun v m' p' q => ⟨by rw [q.1, ← h.d], ?_⟩))
  obtain ⟨_, rfl, rfl⟩ := q
  exact ⟨CI_set h (by omega) (by omega) (fun z _ e => by omega), w1_at⟩
theorem e_setX {w i j : Nat} (hd : 9 ≤ d) (h : CS m0 k N cp ci m p) (hsk : s < k) {x : Int} (hw : w = 0 ∧ i < N s ∧ j < N s ∨ w = 1 ∧ i < N s ∨ w = 2 ∧ j < N s ∨ w = 3) (hr : -30000 ≤ x ∧ x ≤ 30000) (hx : x ≤ -10007 ∨ 10007 ≤ x) : Dn d X (dB 1 s w i j x) m0 k N cp ci m p K sh nn (-2000) := by
  obtain ⟨d, rfl⟩ : ∃ e, d = e + 1 := ⟨d - 1, by omega⟩
  refine dx_1_1 (Q := fun m' p' => CS m0 k N cp ci m' p') ?_
  have hr2 : -2147483648 ≤ x ∧ x < 2147483648 := ⟨by omega, by omega⟩
  rcases hw with ⟨rfl, hi, hj⟩ | ⟨rfl, hi⟩ | ⟨rfl, hj⟩ | rfl
  · exact Tx_mono (t_X9_set0 (by omega) s k (N s) i j x h.PI h.ck h.k12 hsk (h.cn hsk) (h.N1 hsk) (h.N8 hsk) hi hj hr2 hx) (fun m' p' q => by rw [← q.1, ← q.2]; exact h)
  · exact Tx_mono (t_X9_set1 (by omega) s k (N s) i j x h.PI h.ck h.k12 hsk (h.cn hsk) (h.N1 hsk) (h.N8 hsk) hi hr2 hx) (fun m' p' q => by rw [← q.1, ← q.2]; exact h)
  · exact Tx_mono (t_X9_set2 (by omega) s k (N s) i j x h.PI h.ck h.k12 hsk (h.cn hsk) (h.N1 hsk) (h.N8 hsk) hj hr2 hx) (fun m' p' q => by rw [← q.1, ← q.2]; exact h)
  · exact Tx_mono (t_X9_set3 (by omega) s k (N s) i j x h.PI h.ck h.k12 hsk (h.cn hsk) (h.N1 hsk) (h.N8 hsk) hr2 hx) (fun m' p' q => by rw [← q.1, ← q.2]; exact h)
theorem e_setP {w i j : Nat} (hd : 9 ≤ d) (h : CS m0 k N cp ci m p) {x : Int} (hw : ¬ s < k ∨ s < k ∧ (3 < w ∨ w = 0 ∧ N s ≤ i ∨ w = 1 ∧ N s ≤ i ∨ w = 2 ∧ N s ≤ j ∨ w = 0 ∧ i < N s ∧ N s ≤ j)) (hr : s < 100000 ∧ w < 100000 ∧ i < 100000 ∧ j < 100000) : Dn d X (dB 1 s w i j x) m0 k N cp ci m p K sh nn (-3000) := by
  obtain ⟨d, rfl⟩ : ∃ e, d = e + 1 := ⟨d - 1, by omega⟩
  refine dx_1_0 (Q := fun m' p' => CS m0 k N cp ci m' p') ?_
  rcases hw with hs | ⟨hsk, hw | ⟨rfl, hw⟩ | ⟨rfl, hw⟩ | ⟨rfl, hw⟩ | ⟨rfl, hi, hw⟩⟩
  · exact Tx_mono (t_X9_set (by omega) ((s : Nat) : Int) _ _ _ _ k h.PI h.ck h.k12 ⟨⟨by omega, by omega⟩, by omega⟩) (fun m' p' q => by rw [← q.1, ← q.2]; exact h)
  · exact Tx_mono (t_X9_setW (by omega) s k (N s) ((w : Nat) : Int) _ _ _ h.PI h.ck h.k12 hsk (h.cn hsk) (h.N1 hsk) (h.N8 hsk) ⟨by omega, by omega⟩ (by omega)) (fun m' p' q => by rw [← q.1, ← q.2]; exact h)
  · exact Tx_mono (t_X9_setE0 (by omega) s k (N s) ((i : Nat) : Int) _ _ h.PI h.ck h.k12 hsk (h.cn hsk) (h.N1 hsk) (h.N8 hsk) ⟨by omega, by omega⟩ (by omega)) (fun m' p' q => by rw [← q.1, ← q.2]; exact h)
  · exact Tx_mono (t_X9_setE1 (by omega) s k (N s) ((i : Nat) : Int) _ _ h.PI h.ck h.k12 hsk (h.cn hsk) (h.N1 hsk) (h.N8 hsk) ⟨by omega, by omega⟩ (by omega)) (fun m' p' q => by rw [← q.1, ← q.2]; exact h)
  · exact Tx_mono (t_X9_setE2 (by omega) s k (N s) _ ((j : Nat) : Int) _ h.PI h.ck h.k12 hsk (h.cn hsk) (h.N1 hsk) (h.N8 hsk) ⟨by omega, by omega⟩ (by omega)) (fun m' p' q => by rw [← q.1, ← q.2]; exact h)
  · exact Tx_mono (t_X9_setE4 (by omega) s k (N s) ((i : Nat) : Int) ((j : Nat) : Int) _ h.PI h.ck h.k12 hsk (h.cn hsk) (h.N1 hsk) (h.N8 hsk) ⟨by omega, by omega⟩ ⟨by omega, by omega⟩ (by omega)) (fun m' p' q => by rw [← q.1, ← q.2]; exact h)
/-! poles, inputs, and none -/
theorem e_pole (hd : 9 ≤ d) (h : CS m0 k N cp ci m p) {x : Int} (hx : -10007 < x ∧ x < 10007) (hc : cp < 16) : Dm d X (dA 4 x 0 0 0) m p K sh nn ((cp + 1 : Nat) : Int) (fun m' p' => CS m' k N (cp + 1) ci m' p' ∧ (∀ i, m' 4 i = if i = cp then toF x else m0 4 i) ∧ m' 6 = m0 6) := by
  obtain ⟨d, rfl⟩ : ∃ e, d = e + 1 := ⟨d - 1, by omega⟩
  refine dr_4 (Ct_mono (c_X9_pole (by omega) cp x h.PI h.pc h.cpw hc hx) (fun v m' p' q => ⟨q.1, ?_⟩))
  obtain ⟨_, rfl, hm⟩ := q
  have hf : ∀ a, a ≠ 4 → a ≠ 3 → m' a = m a := fun a h1 h2 => by rw [← hm, w1_a h2, w1_a h1]
  refine ⟨CS_rf ⟨h.PI, h.k12, by omega, h.i20, by rw [hf 1 (by omega) (by omega)]; exact h.ck, by rw [← hm]; exact w1_at, by rw [← hm, w1_ne (by omega), w1_a (by omega)]; exact h.cpw, by rw [hf 5 (by omega) (by omega)]; exact h.ic, by rw [hf 5 (by omega) (by omega)]; exact h.ciw, fun s hs => ⟨h.N1 hs, h.N8 hs, by rw [hf _ (by omega) (by omega)]; exact h.cn hs⟩, fun a c1 c2 i => by rw [hf a (by omega) (by omega)]; exact h.z a c1 c2 i⟩, fun i => ?_, (hf 6 (by omega) (by omega)).trans h.U⟩
  rw [← hm, w1_a (by omega), ← h.P]
  by_cases q : i = cp
  · rw [if_pos q, q]
    exact w1_at
  · rw [if_neg q]
    exact w1_ne (fun z => q z.2)
theorem e_poleX (hd : 9 ≤ d) (h : CS m0 k N cp ci m p) {x : Int} (hr : -30000 ≤ x ∧ x ≤ 30000) (hx : x ≤ -10007 ∨ 10007 ≤ x) : Dn d X (dA 4 x 0 0 0) m0 k N cp ci m p K sh nn (-2000) := by
  obtain ⟨d, rfl⟩ : ∃ e, d = e + 1 := ⟨d - 1, by omega⟩
  exact dx_4_1 (Q := fun m' p' => CS m0 k N cp ci m' p') (Tx_mono (t_X9_pole (by omega) cp x h.PI h.pc h.cpw ⟨by omega, by omega⟩ hx) (fun m' p' q => by rw [← q.1, ← q.2]; exact h))
theorem e_poleF (hd : 9 ≤ d) (h : CS m0 k N cp ci m p) {x : Int} (hx : -10007 < x ∧ x < 10007) (hc : 16 ≤ cp) : Dn d X (dA 4 x 0 0 0) m0 k N cp ci m p K sh nn (-1000) := by
  obtain ⟨d, rfl⟩ : ∃ e, d = e + 1 := ⟨d - 1, by omega⟩
  have := h.p16
  exact dx_4_2 (Q := fun m' p' => CS m0 k N cp ci m' p') (Tx_mono (t_X9_poleF (by omega) cp x h.PI h.pc h.cpw ⟨hc, by omega⟩ hx) (fun m' p' q => by rw [← q.1, ← q.2]; exact h))
theorem e_input (hd : 9 ≤ d) (h : CS m0 k N cp ci m p) {x : Int} (hx : -10007 < x ∧ x < 10007) (hc : ci < 20) : Dm d X (dA 5 x 0 0 0) m p K sh nn ((ci + 1 : Nat) : Int) (fun m' p' => CS m' k N cp (ci + 1) m' p' ∧ (∀ i, m' 6 i = if i = ci then toF x else m0 6 i) ∧ m' 4 = m0 4) := by
  obtain ⟨d, rfl⟩ : ∃ e, d = e + 1 := ⟨d - 1, by omega⟩
  refine dr_5 (Ct_mono (c_X9_input (by omega) ci x h.PI h.ic h.ciw hc hx) (fun v m' p' q => ⟨q.1, ?_⟩))
  obtain ⟨_, rfl, hm⟩ := q
  have hf : ∀ a, a ≠ 6 → a ≠ 5 → m' a = m a := fun a h1 h2 => by rw [← hm, w1_a h2, w1_a h1]
  refine ⟨CS_rf ⟨h.PI, h.k12, h.p16, by omega, by rw [hf 1 (by omega) (by omega)]; exact h.ck, by rw [hf 3 (by omega) (by omega)]; exact h.pc, by rw [hf 3 (by omega) (by omega)]; exact h.cpw, by rw [← hm]; exact w1_at, by rw [← hm, w1_ne (by omega), w1_a (by omega)]; exact h.ciw, fun s hs => ⟨h.N1 hs, h.N8 hs, by rw [hf _ (by omega) (by omega)]; exact h.cn hs⟩, fun a c1 c2 i => by rw [hf a (by omega) (by omega)]; exact h.z a c1 c2 i⟩, fun i => ?_, (hf 4 (by omega) (by omega)).trans h.P⟩
  rw [← hm, w1_a (by omega), ← h.U]
  by_cases q : i = ci
  · rw [if_pos q, q]
    exact w1_at
  · rw [if_neg q]
    exact w1_ne (fun z => q z.2)
theorem e_inputX (hd : 9 ≤ d) (h : CS m0 k N cp ci m p) {x : Int} (hr : -30000 ≤ x ∧ x ≤ 30000) (hx : x ≤ -10007 ∨ 10007 ≤ x) : Dn d X (dA 5 x 0 0 0) m0 k N cp ci m p K sh nn (-2000) := by
  obtain ⟨d, rfl⟩ : ∃ e, d = e + 1 := ⟨d - 1, by omega⟩
  exact dx_5_1 (Q := fun m' p' => CS m0 k N cp ci m' p') (Tx_mono (t_X9_input (by omega) ci x h.PI h.ic h.ciw ⟨by omega, by omega⟩ hx) (fun m' p' q => by rw [← q.1, ← q.2]; exact h))
theorem e_inputF (hd : 9 ≤ d) (h : CS m0 k N cp ci m p) {x : Int} (hx : -10007 < x ∧ x < 10007) (hc : 20 ≤ ci) : Dn d X (dA 5 x 0 0 0) m0 k N cp ci m p K sh nn (-1000) := by
  obtain ⟨d, rfl⟩ : ∃ e, d = e + 1 := ⟨d - 1, by omega⟩
  have := h.i20
  exact dx_5_2 (Q := fun m' p' => CS m0 k N cp ci m' p') (Tx_mono (t_X9_inputF (by omega) ci x h.PI h.ic h.ciw ⟨hc, by omega⟩ hx) (fun m' p' q => by rw [← q.1, ← q.2]; exact h))
theorem e_orderP (hd : 9 ≤ d) (h : CS m0 k N cp ci m p) (hs : ¬ s < k) (hr : s < 1000) : Dn d X (dA 16 s 0 0 0) m0 k N cp ci m p K sh nn (-3000) := by
  obtain ⟨d, rfl⟩ : ∃ e, d = e + 1 := ⟨d - 1, by omega⟩
  exact dx_16_0 (Q := fun m' p' => CS m0 k N cp ci m' p') (Tx_mono (t_X9_order (by omega) ((s : Nat) : Int) k h.PI h.ck h.k12 ⟨⟨by omega, by omega⟩, by omega⟩) (fun m' p' q => by rw [← q.1, ← q.2]; exact h))
theorem e_atP (hd : 9 ≤ d) (h : CS m0 k N cp ci m p) (hs : ¬ s < k) (hr : s < 1000) : Dn d X (dA 8 s 0 0 0) m0 k N cp ci m p K sh nn (-3000) := by
  obtain ⟨d, rfl⟩ : ∃ e, d = e + 1 := ⟨d - 1, by omega⟩
  exact dx_8_0 (Q := fun m' p' => CS m0 k N cp ci m' p') (Tx_mono (t_X9_at (by omega) ((s : Nat) : Int) 0 0 0 k h.PI h.ck h.k12 ⟨⟨by omega, by omega⟩, by omega⟩) (fun m' p' q => by rw [← q.1, ← q.2]; exact h))
def Qm (d k9 : Nat) (S : Env) (ar : List Value) (m : M1) (p : M2) (v : Int) (R : M1 → M2 → Prop) : Prop := Ct d k9 S false ar m p (fun w m' p' => w = some (.int (iI v)) ∧ R m' p')
theorem w_clear {S : Env} (hd : 1 ≤ d) (h : CS m0 k N cp ci m p) : Qm d k_X9_clear S [.ref 1] m p ((cp + ci : Nat) : Int) (fun m' p' => CS m' k N 0 0 m' p') := by
  refine Ct_mono (c_X9_clear hd cp ci h.PI h.pc h.p16 h.ic h.i20) (fun v m' p' q => ⟨q.1, ?_⟩)
  obtain ⟨_, rfl, hm⟩ := q
  have hf : ∀ a, a ≠ 5 → a ≠ 3 → m' a = m a := fun a h1 h2 => by rw [← hm, w1_a h1, w1_a h2]
  exact CS_rf ⟨h.PI, h.k12, by omega, by omega, by rw [hf 1 (by omega) (by omega)]; exact h.ck, by rw [← hm, w1_a (by omega)]; exact w1_at, by rw [← hm, w1_a (by omega), w1_ne (by omega)]; exact h.cpw, by rw [← hm]; exact w1_at, by rw [← hm, w1_ne (by omega), w1_a (by omega)]; exact h.ciw, fun s hs => ⟨h.N1 hs, h.N8 hs, by rw [hf _ (by omega) (by omega)]; exact h.cn hs⟩, fun a c1 c2 i => by rw [hf a (by omega) (by omega)]; exact h.z a c1 c2 i⟩
end
