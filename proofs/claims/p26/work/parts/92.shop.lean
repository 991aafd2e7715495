/-! THE CLASS as the law sees it: what its systems, poles and inputs are. -/
theorem ecd_le (t : Nat) : ∀ (f g : Nat → F) (hd ld : Nat), ld ≤ hd → ecd t f g hd ld ≤ hd := by
  induction t with
  | zero => exact fun _ _ _ _ _ => Nat.le_refl _
  | succ t ih =>
    intro f g hd ld h
    show (if ld = 0 then hd else _) ≤ hd
    by_cases q : ld = 0
    · rw [if_pos q]
      exact Nat.le_refl _
    · rw [if_neg q]
      have h1 := dg_le (f := mdv hd (ld - 1) g f (hd - (ld - 1) + 1)) (ld - 1)
      have h2 := ih g (mdv hd (ld - 1) g f (hd - (ld - 1) + 1)) (ld - 1) (dg (mdv hd (ld - 1) g f (hd - (ld - 1) + 1)) (ld - 1)) h1
      omega
theorem av_x {n : Nat} {A : Nat → Nat → F} {P x y : Nat → F} (h : ∀ i, i < n → x i = y i) (t : Nat) : ∀ j, j < n → av n A P x t j = av n A P y t j := by
  induction t with
  | zero => exact h
  | succ t ih =>
    intro j hj
    show dot n (av n A P x t) (fun i => A i j) - P t * av n A P x t j = dot n (av n A P y t) (fun i => A i j) - P t * av n A P y t j
    rw [ih j hj, dot_congr (fun i hi => ih i hi) (fun _ _ => rfl)]
theorem av_P {n : Nat} {A : Nat → Nat → F} {P P' x : Nat → F} (t : Nat) : (∀ i, i < t → P i = P' i) → ∀ j, av n A P x t j = av n A P' x t j := by
  induction t with
  | zero => exact fun _ _ => rfl
  | succ t ih =>
    intro h j
    have e : av n A P x t = av n A P' x t := funext (ih (fun i hi => h i (by omega)))
    show dot n (av n A P x t) (fun i => A i j) - P t * av n A P x t j = dot n (av n A P' x t) (fun i => A i j) - P' t * av n A P' x t j
    rw [e, h t (by omega)]
/-- a row of which only the last of b, A b, .. is 1 -/
def Du (n : Nat) (A : Nat → Nat → F) (b y : Nat → F) : Prop := ∀ i, i < n → dot n (kr n A b i) y = if i + 1 = n then 1 else 0
theorem Du_ex {n : Nat} {A : Nat → Nat → F} {b : Nat → F} (h : rk n (kr n A b) = n) : ∃ y, Du n A b y := rk_ex h (fun i => if i + 1 = n then 1 else 0)
theorem Du_eq {n : Nat} {A : Nat → Nat → F} {b x y : Nat → F} (h : rk n (kr n A b) = n) (hx : Du n A b x) (hy : Du n A b y) : ∀ c, c < n → x c = y c := rk_uniq h (fun i hi => (hx i hi).trans (hy i hi).symm)
/-- system s: its square, column, row, number -/
def SA (m : M1) (s : Nat) : Nat → Nat → F := fun z => m (117 + 12 * s + 2 + z)
def Sb (m : M1) (s : Nat) : Nat → F := m (117 + 12 * s + 10)
def Sc (m : M1) (s : Nat) : Nat → F := m (117 + 12 * s + 11)
def Sd (m : M1) (s : Nat) : F := m (117 + 12 * s) 4
def CI (k : Nat) (N : Nat → Nat) (cp ci : Nat) (m : M1) (p : M2) : Prop := PI p ∧ k ≤ 12 ∧ cp ≤ 16 ∧ ci ≤ 20 ∧ m 1 1 = nF k ∧ m 3 1 = nF cp ∧ m 3 2 = nF 16 ∧ m 5 1 = nF ci ∧ m 5 2 = nF 20 ∧ (∀ s, s < k → 1 ≤ N s ∧ N s ≤ 8 ∧ m (117 + 12 * s) 0 = nF (N s)) ∧ ∀ c, 117 + 12 * k ≤ c → c < 261 → ∀ j, m c j = 0
/-- nothing but the class's scratch differs -/
def Kp (m0 m : M1) : Prop := ∀ a, (a < 7 ∨ 117 ≤ a) → m a = m0 a
def CS (m0 : M1) (k : Nat) (N : Nat → Nat) (cp ci : Nat) (m : M1) (p : M2) : Prop := CI k N cp ci m p ∧ Kp m0 m
theorem CI_kp {k cp ci : Nat} {N : Nat → Nat} {m m' : M1} {p p' : M2} (h : CI k N cp ci m p) (hP : PI p') (hk : ∀ a, (a < 7 ∨ 117 ≤ a) → m' a = m a) : CI k N cp ci m' p' := by
  obtain ⟨h1, h2, h3, h4, h5, h6, h7, h8, h9, h10, h11⟩ := h
  exact ⟨hP, h2, h3, h4, by rw [hk 1 (by omega)]; exact h5, by rw [hk 3 (by omega)]; exact h6, by rw [hk 3 (by omega)]; exact h7, by rw [hk 5 (by omega)]; exact h8, by rw [hk 5 (by omega)]; exact h9, fun s hs => ⟨(h10 s hs).1, (h10 s hs).2.1, by rw [hk _ (by omega)]; exact (h10 s hs).2.2⟩, fun c c1 c2 j => by rw [hk c (by omega)]; exact h11 c c1 c2 j⟩
theorem CS_fr {m0 m m' : M1} {k cp ci : Nat} {N : Nat → Nat} {p p' : M2} (h : CS m0 k N cp ci m p) (hP : PI p') (hF : Fr (fun a => 7 ≤ a ∧ a < 117) m m') : CS m0 k N cp ci m' p' :=
  ⟨CI_kp h.1 hP (fun a ha => hF a (by show ¬ (7 ≤ a ∧ a < 117); omega)), fun a ha => (hF a (by show ¬ (7 ≤ a ∧ a < 117); omega)).trans (h.2 a ha)⟩
theorem CS_rf {m : M1} {k cp ci : Nat} {N : Nat → Nat} {p : M2} (h : CI k N cp ci m p) : CS m k N cp ci m p := ⟨h, fun _ _ => rfl⟩
section
variable {m0 m : M1} {k cp ci s : Nat} {N : Nat → Nat} {p : M2}
theorem CS.PI (h : CS m0 k N cp ci m p) : PI p := h.1.1
theorem CS.k12 (h : CS m0 k N cp ci m p) : k ≤ 12 := h.1.2.1
theorem CS.p16 (h : CS m0 k N cp ci m p) : cp ≤ 16 := h.1.2.2.1
theorem CS.i20 (h : CS m0 k N cp ci m p) : ci ≤ 20 := h.1.2.2.2.1
theorem CS.ck (h : CS m0 k N cp ci m p) : m 1 1 = nF k := h.1.2.2.2.2.1
theorem CS.pc (h : CS m0 k N cp ci m p) : m 3 1 = nF cp := h.1.2.2.2.2.2.1
theorem CS.cpw (h : CS m0 k N cp ci m p) : m 3 2 = nF 16 := h.1.2.2.2.2.2.2.1
theorem CS.ic (h : CS m0 k N cp ci m p) : m 5 1 = nF ci := h.1.2.2.2.2.2.2.2.1
theorem CS.ciw (h : CS m0 k N cp ci m p) : m 5 2 = nF 20 := h.1.2.2.2.2.2.2.2.2.1
theorem CS.N1 (h : CS m0 k N cp ci m p) (hs : s < k) : 1 ≤ N s := (h.1.2.2.2.2.2.2.2.2.2.1 s hs).1
theorem CS.N8 (h : CS m0 k N cp ci m p) (hs : s < k) : N s ≤ 8 := (h.1.2.2.2.2.2.2.2.2.2.1 s hs).2.1
theorem CS.cn (h : CS m0 k N cp ci m p) (hs : s < k) : m (117 + 12 * s) 0 = nF (N s) := (h.1.2.2.2.2.2.2.2.2.2.1 s hs).2.2
theorem CS.z (h : CS m0 k N cp ci m p) : ∀ c, 117 + 12 * k ≤ c → c < 261 → ∀ j, m c j = 0 := h.1.2.2.2.2.2.2.2.2.2.2
theorem CS.A (h : CS m0 k N cp ci m p) : (fun z => m (117 + 12 * s + 2 + z)) = SA m0 s := funext fun z => h.2 _ (by omega)
theorem CS.At (h : CS m0 k N cp ci m p) : (fun z c => m (117 + 12 * s + 2 + c) z) = trp (SA m0 s) := funext fun z => funext fun c => congrFun (h.2 _ (by omega)) z
theorem CS.b (h : CS m0 k N cp ci m p) : m (117 + 12 * s + 10) = Sb m0 s := h.2 _ (by omega)
theorem CS.c (h : CS m0 k N cp ci m p) : m (117 + 12 * s + 11) = Sc m0 s := h.2 _ (by omega)
theorem CS.d (h : CS m0 k N cp ci m p) : m (117 + 12 * s) 4 = Sd m0 s := congrFun (h.2 _ (by omega)) 4
theorem CS.P (h : CS m0 k N cp ci m p) : m 4 = m0 4 := h.2 4 (by omega)
theorem CS.U (h : CS m0 k N cp ci m p) : m 6 = m0 6 := h.2 6 (by omega)
end
/-- a question is answered, and nothing but scratch changes -/
def Qn (d k9 : Nat) (S : Env) (ar : List Value) (m0 : M1) (k : Nat) (N : Nat → Nat) (cp ci : Nat) (m : M1) (p : M2) (v : Int) : Prop := Ct d k9 S false ar m p (fun w m' p' => w = some (.int (iI v)) ∧ CS m0 k N cp ci m' p')
section
variable {d : Nat} {S : Env} {m0 m : M1} {k cp ci s : Nat} {N : Nat → Nat} {p : M2}
theorem w_order (hd : 7 ≤ d) (h : CS m0 k N cp ci m p) (hsk : s < k) : Qn d k_X9_order S [.ref 1, .int (iI ((s : Nat) : Int))] m0 k N cp ci m p ((N s : Nat) : Int) :=
  Ct_mono (c_X9_order hd s k (N s) h.PI h.ck h.k12 hsk (h.cn hsk) (h.N1 hsk) (h.N8 hsk)) (fun v m' p' q => ⟨q.1, by rw [← q.2.1, ← q.2.2]; exact h⟩)
theorem w_at0 (hd : 8 ≤ d) (h : CS m0 k N cp ci m p) (hsk : s < k) {i j : Nat} (hi : i < N s) (hj : j < N s) : Qn d k_X9_at S [.ref 1, .int (iI ((s : Nat) : Int)), .int (iI 0), .int (iI ((i : Nat) : Int)), .int (iI ((j : Nat) : Int))] m0 k N cp ci m p (vF (SA m0 s i j)) :=
  Ct_mono (c_X9_at0 hd s k (N s) i j h.PI h.ck h.k12 hsk (h.cn hsk) (h.N1 hsk) (h.N8 hsk) hi hj) (fun v m' p' q => ⟨by rw [q.1, ← h.A], by rw [← q.2.1, ← q.2.2]; exact h⟩)
theorem w_at1 (hd : 8 ≤ d) (h : CS m0 k N cp ci m p) (hsk : s < k) {i : Nat} {j : Int} (hi : i < N s) : Qn d k_X9_at S [.ref 1, .int (iI ((s : Nat) : Int)), .int (iI 1), .int (iI ((i : Nat) : Int)), .int (iI j)] m0 k N cp ci m p (vF (Sb m0 s i)) :=
  Ct_mono (c_X9_at1 hd s k (N s) i j h.PI h.ck h.k12 hsk (h.cn hsk) (h.N1 hsk) (h.N8 hsk) hi) (fun v m' p' q => ⟨by rw [q.1, ← h.b], by rw [← q.2.1, ← q.2.2]; exact h⟩)
theorem w_at2 (hd : 8 ≤ d) (h : CS m0 k N cp ci m p) (hsk : s < k) {i : Int} {j : Nat} (hj : j < N s) : Qn d k_X9_at S [.ref 1, .int (iI ((s : Nat) : Int)), .int (iI 2), .int (iI i), .int (iI ((j : Nat) : Int))] m0 k N cp ci m p (vF (Sc m0 s j)) :=
  Ct_mono (c_X9_at2 hd s k (N s) i j h.PI h.ck h.k12 hsk (h.cn hsk) (h.N1 hsk) (h.N8 hsk) hj) (fun v m' p' q => ⟨by rw [q.1, ← h.c], by rw [← q.2.1, ← q.2.2]; exact h⟩)
theorem w_at3 (hd : 8 ≤ d) (h : CS m0 k N cp ci m p) (hsk : s < k) {i j : Int} : Qn d k_X9_at S [.ref 1, .int (iI ((s : Nat) : Int)), .int (iI 3), .int (iI i), .int (iI j)] m0 k N cp ci m p (vF (Sd m0 s)) :=
  Ct_mono (c_X9_at3 hd s k (N s) i j h.PI h.ck h.k12 hsk (h.cn hsk) (h.N1 hsk) (h.N8 hsk)) (fun v m' p' q => ⟨by rw [q.1, ← h.d], by rw [← q.2.1, ← q.2.2]; exact h⟩)
theorem w_rank0 (hd : 7 ≤ d) (h : CS m0 k N cp ci m p) (hsk : s < k) : Qn d k_X9_rank S [.ref 1, .int (iI ((s : Nat) : Int)), .int (iI 0)] m0 k N cp ci m p ((rk (N s) (kr (N s) (SA m0 s) (Sb m0 s)) : Nat) : Int) :=
  Ct_mono (c_X9_rank0 hd s k (N s) h.PI h.ck h.k12 hsk (h.cn hsk) (h.N1 hsk) (h.N8 hsk)) (fun v m' p' q => ⟨by rw [q.1, h.A, h.b], CS_fr h q.2.1 q.2.2⟩)
theorem w_rank1 (hd : 7 ≤ d) (h : CS m0 k N cp ci m p) (hsk : s < k) : Qn d k_X9_rank S [.ref 1, .int (iI ((s : Nat) : Int)), .int (iI 1)] m0 k N cp ci m p ((rk (N s) (kr (N s) (trp (SA m0 s)) (Sc m0 s)) : Nat) : Int) :=
  Ct_mono (c_X9_rank1 hd s k (N s) 1 h.PI h.ck h.k12 hsk (h.cn hsk) (h.N1 hsk) (h.N8 hsk) ⟨⟨by omega, by omega⟩, by omega⟩) (fun v m' p' q => ⟨by rw [q.1, h.At, h.c], CS_fr h q.2.1 q.2.2⟩)
theorem w_poly0 (hd : 7 ≤ d) (h : CS m0 k N cp ci m p) (hsk : s < k) {g : Nat} (hg : g ≤ N s) : Qn d k_X9_polynomial S [.ref 1, .int (iI ((s : Nat) : Int)), .int (iI ((g : Nat) : Int)), .int (iI 0)] m0 k N cp ci m p (vF (pbl (N s) (SA m0 s) g)) :=
  Ct_mono (c_X9_polynomial0 hd s k (N s) g h.PI h.ck h.k12 hsk (h.cn hsk) (h.N1 hsk) (h.N8 hsk) hg) (fun v m' p' q => ⟨by rw [q.1, h.A], CS_fr h q.2.1 q.2.2⟩)
theorem w_poly1 (hd : 7 ≤ d) (h : CS m0 k N cp ci m p) (hsk : s < k) {g : Nat} (hg : g ≤ N s) : Qn d k_X9_polynomial S [.ref 1, .int (iI ((s : Nat) : Int)), .int (iI ((g : Nat) : Int)), .int (iI 1)] m0 k N cp ci m p (vF (pab (N s) (SA m0 s) (Sb m0 s) (Sc m0 s) g)) :=
  Ct_mono (c_X9_polynomial1 hd s k (N s) g 1 h.PI h.ck h.k12 hsk (h.cn hsk) (h.N1 hsk) (h.N8 hsk) hg ⟨⟨by omega, by omega⟩, by omega⟩) (fun v m' p' q => ⟨by rw [q.1, h.A, h.b, h.c], CS_fr h q.2.1 q.2.2⟩)
theorem w_number (hd : 7 ≤ d) (h : CS m0 k N cp ci m p) (hsk : s < k) {l : Nat} (hl : l ≤ 40) : Qn d k_X9_number S [.ref 1, .int (iI ((s : Nat) : Int)), .int (iI ((l : Nat) : Int))] m0 k N cp ci m p (vF (hs (N s) (SA m0 s) (Sb m0 s) (Sc m0 s) (Sd m0 s) l)) :=
  Ct_mono (c_X9_number hd s k (N s) l h.PI h.ck h.k12 hsk (h.cn hsk) (h.N1 hsk) (h.N8 hsk) hl) (fun v m' p' q => ⟨by rw [q.1, h.A, h.b, h.c, h.d], CS_fr h (by rw [← q.2.1]; exact h.PI) q.2.2⟩)
/-- the output at a step -/
def Ov (m0 : M1) (N : Nat → Nat) (ci s l : Nat) : F := sm (l + 1) (fun i => hs (N s) (SA m0 s) (Sb m0 s) (Sc m0 s) (Sd m0 s) (l - i) * uu (m0 6) ci i)
theorem w_output (hd : 7 ≤ d) (h : CS m0 k N cp ci m p) (hsk : s < k) {l : Nat} (hl : l ≤ 40) : Qn d k_X9_output S [.ref 1, .int (iI ((s : Nat) : Int)), .int (iI ((l : Nat) : Int))] m0 k N cp ci m p (vF (Ov m0 N ci s l)) :=
  Ct_mono (c_X9_output hd s k (N s) l ci h.PI h.ck h.k12 hsk (h.cn hsk) (h.N1 hsk) (h.N8 hsk) h.ic h.i20 hl) (fun v m' p' q => ⟨by rw [q.1, h.A, h.b, h.c, h.d, h.U, ← out_eq]; rfl, CS_fr h (by rw [← q.2.1]; exact h.PI) q.2.2⟩)
theorem w_outputAnew (hd : 7 ≤ d) (h : CS m0 k N cp ci m p) (hsk : s < k) {l : Nat} (hl : l ≤ 40) : Qn d k_X9_outputAnew S [.ref 1, .int (iI ((s : Nat) : Int)), .int (iI ((l : Nat) : Int))] m0 k N cp ci m p (vF (Ov m0 N ci s l)) :=
  Ct_mono (c_X9_outputAnew hd s k (N s) l ci h.PI h.ck h.k12 hsk (h.cn hsk) (h.N1 hsk) (h.N8 hsk) h.ic h.i20 hl) (fun v m' p' q => ⟨by rw [q.1, h.A, h.b, h.c, h.d, h.U]; rfl, CS_fr h (by rw [← q.2.1]; exact h.PI) q.2.2⟩)
def Lv (m0 : M1) (N : Nat → Nat) (s : Nat) : Nat := rk (N s) (fun i j => hs (N s) (SA m0 s) (Sb m0 s) (Sc m0 s) (Sd m0 s) (i + j + 1))
theorem w_least (hd : 7 ≤ d) (h : CS m0 k N cp ci m p) (hsk : s < k) : Qn d k_X9_least S [.ref 1, .int (iI ((s : Nat) : Int))] m0 k N cp ci m p ((Lv m0 N s : Nat) : Int) :=
  Ct_mono (c_X9_least hd s k (N s) h.PI h.ck h.k12 hsk (h.cn hsk) (h.N1 hsk) (h.N8 hsk)) (fun v m' p' q => ⟨by
    rw [q.1, h.A, h.b, h.c]
    unfold Lv
    rw [least_eq (h.N8 hsk)]
    have h1 := ecd_le 8 (pbl (N s) (SA m0 s)) (pab (N s) (SA m0 s) (Sb m0 s) (Sc m0 s)) (N s) (dg (pab (N s) (SA m0 s) (Sb m0 s) (Sc m0 s)) (N s)) (dg_le _)
    exact lvI (by omega), CS_fr h q.2.1 q.2.2⟩)
theorem w_leastAnew (hd : 7 ≤ d) (h : CS m0 k N cp ci m p) (hsk : s < k) : Qn d k_X9_leastAnew S [.ref 1, .int (iI ((s : Nat) : Int))] m0 k N cp ci m p ((Lv m0 N s : Nat) : Int) :=
  Ct_mono (c_X9_leastAnew hd s k (N s) h.PI h.ck h.k12 hsk (h.cn hsk) (h.N1 hsk) (h.N8 hsk)) (fun v m' p' q => ⟨by rw [q.1, h.A, h.b, h.c, h.d]; rfl, CS_fr h q.2.1 q.2.2⟩)
end
/-! What 'does' answers. -/
def Dn (d : Nat) (X : MC) (ar : List Value) (m0 : M1) (k : Nat) (N : Nat → Nat) (cp ci : Nat) (m : M1) (p : M2) (K : Nat) (sh : Nat → Nat) (nn : N2) (v : Int) : Prop := Lc d k_L_does X ar m p K sh nn (fun w m' p' K' sh' n' => w = some (.int (iI v)) ∧ CS m0 k N cp ci m' p' ∧ nn = n' ∧ sh = sh')
section
variable {d : Nat} {X : MC} {m0 m : M1} {k cp ci s : Nat} {N : Nat → Nat} {p : M2} {K : Nat} {sh : Nat → Nat} {nn : N2}
abbrev dA (w a b c e : Int) : List Value := [.ref 1, .int (iI w), .int (iI a), .int (iI b), .int (iI c), .int (iI e), .int (iI 0)]
theorem e_gain (hd : 9 ≤ d) (h : CS m0 k N cp ci m p) (hsk : s < k) {g : Nat} {y : Nat → F} (hg : g < N s) (hc : N s ≤ cp) (hr : rk (N s) (kr (N s) (SA m0 s) (Sb m0 s)) = N s) (hy : Du (N s) (SA m0 s) (Sb m0 s) y) : Dn d X (dA 10 s g 0 0) m0 k N cp ci m p K sh nn (vF (av (N s) (SA m0 s) (m0 4) y (N s) g)) := by
  obtain ⟨d, rfl⟩ : ∃ e, d = e + 1 := ⟨d - 1, by omega⟩
  obtain ⟨v, m', p', hE, x, rfl, hx, hP, hF⟩ := c_X9_gain (S := (K, gB X sh nn)) (fz := false) (d := d) (by omega) s k (N s) g cp h.PI h.ck h.k12 hsk (h.cn hsk) (h.N1 hsk) (h.N8 hsk) h.pc h.p16 hg hc (by rw [h.A, h.b]; exact hr)
  rw [h.A, h.P] at hE
  rw [h.A, h.b] at hx
  rw [av_x (fun i hi => Du_eq hr hx hy i hi) (N s) g hg] at hE
  exact dr_10 (Q := fun m' p' => CS m0 k N cp ci m' p') ⟨_, m', p', hE, rfl, CS_fr h hP hF⟩
theorem e_gainN (hd : 9 ≤ d) (h : CS m0 k N cp ci m p) (hsk : s < k) {g : Nat} (hg : g < N s) (hc : ¬ (N s ≤ cp ∧ rk (N s) (kr (N s) (SA m0 s) (Sb m0 s)) = N s)) : Dn d X (dA 10 s g 0 0) m0 k N cp ci m p K sh nn (-1000) := by
  obtain ⟨d, rfl⟩ : ∃ e, d = e + 1 := ⟨d - 1, by omega⟩
  refine dx_10_2 (Q := fun m' p' => CS m0 k N cp ci m' p') ?_
  by_cases q : N s ≤ cp
  · exact Tx_mono (t_X9_gainR (by omega) s k (N s) g cp h.PI h.ck h.k12 hsk (h.cn hsk) (h.N1 hsk) (h.N8 hsk) h.pc h.p16 hg q (by rw [h.A, h.b]; exact fun e => hc ⟨q, e⟩)) (fun m' p' q => CS_fr h q.1 q.2)
  · exact Tx_mono (t_X9_gainC (by omega) s k (N s) g cp h.PI h.ck h.k12 hsk (h.cn hsk) (h.N1 hsk) (h.N8 hsk) h.pc h.p16 hg (by omega)) (fun m' p' q => by rw [← q.1, ← q.2]; exact h)
theorem e_gainP (hd : 9 ≤ d) (h : CS m0 k N cp ci m p) (hsk : s < k) : Dn d X (dA 10 s (N s) 0 0) m0 k N cp ci m p K sh nn (-3000) := by
  obtain ⟨d, rfl⟩ : ∃ e, d = e + 1 := ⟨d - 1, by omega⟩
  have := h.N8 hsk
  exact dx_10_0 (Q := fun m' p' => CS m0 k N cp ci m' p') (Tx_mono (t_X9_gainP (by omega) s k (N s) cp ((N s : Nat) : Int) h.PI h.ck h.k12 hsk (h.cn hsk) (h.N1 hsk) (h.N8 hsk) h.pc h.p16 ⟨by omega, by omega⟩ (by omega)) (fun m' p' q => by rw [← q.1, ← q.2]; exact h))
theorem e_gainA (hd : 9 ≤ d) (h : CS m0 k N cp ci m p) (hsk : s < k) {g : Nat} {y : Nat → F} (hg : g < N s) (hc : N s ≤ cp) (hr : rk (N s) (kr (N s) (SA m0 s) (Sb m0 s)) = N s) (hy : Du (N s) (SA m0 s) (Sb m0 s) y) : Dn d X (dA 11 s g 0 0) m0 k N cp ci m p K sh nn (vF (av (N s) (SA m0 s) (m0 4) y (N s) g)) := by
  obtain ⟨d, rfl⟩ : ∃ e, d = e + 1 := ⟨d - 1, by omega⟩
  have hr2 := (cf_full (own := pbl (N s) (SA m0 s))).mpr hr
  obtain ⟨v, m', p', hE, x, rfl, hx, hP, hF⟩ := c_X9_gainAnew (S := (K, gB X sh nn)) (fz := false) (d := d) (by omega) s k (N s) g cp h.PI h.ck h.k12 hsk (h.cn hsk) (h.N1 hsk) (h.N8 hsk) h.pc h.p16 hg hc (by rw [h.A, h.b]; exact hr2)
  rw [h.A, h.b, h.P] at hx
  have e : x g = av (N s) (SA m0 s) (m0 4) y (N s) g := rk_uniq hr2 (fun i hi => (hx i hi).trans (gain_eq (h.N8 hsk) hr hy hi).symm) g hg
  rw [e] at hE
  exact dr_11 (Q := fun m' p' => CS m0 k N cp ci m' p') ⟨_, m', p', hE, rfl, CS_fr h hP hF⟩
theorem e_gainAN (hd : 9 ≤ d) (h : CS m0 k N cp ci m p) (hsk : s < k) {g : Nat} (hg : g < N s) (hc : ¬ (N s ≤ cp ∧ rk (N s) (kr (N s) (SA m0 s) (Sb m0 s)) = N s)) : Dn d X (dA 11 s g 0 0) m0 k N cp ci m p K sh nn (-1000) := by
  obtain ⟨d, rfl⟩ : ∃ e, d = e + 1 := ⟨d - 1, by omega⟩
  refine dx_11_2 (Q := fun m' p' => CS m0 k N cp ci m' p') ?_
  by_cases q : N s ≤ cp
  · exact Tx_mono (t_X9_gainAnewR (by omega) s k (N s) g cp h.PI h.ck h.k12 hsk (h.cn hsk) (h.N1 hsk) (h.N8 hsk) h.pc h.p16 hg q (by rw [h.A, h.b]; exact fun e => hc ⟨q, cf_full.mp e⟩)) (fun m' p' q => CS_fr h q.1 q.2)
  · exact Tx_mono (t_X9_gainAnewC (by omega) s k (N s) g cp h.PI h.ck h.k12 hsk (h.cn hsk) (h.N1 hsk) (h.N8 hsk) h.pc h.p16 hg (by omega)) (fun m' p' q => by rw [← q.1, ← q.2]; exact h)
theorem e_obs (hd : 9 ≤ d) (h : CS m0 k N cp ci m p) (hsk : s < k) {g : Nat} {y : Nat → F} (hg : g < N s) (hc : 2 * N s ≤ cp) (hr : rk (N s) (kr (N s) (trp (SA m0 s)) (Sc m0 s)) = N s) (hy : Du (N s) (trp (SA m0 s)) (Sc m0 s) y) : Dn d X (dA 12 s g 0 0) m0 k N cp ci m p K sh nn (vF (av (N s) (trp (SA m0 s)) (fun i => m0 4 (N s + i)) y (N s) g)) := by
  obtain ⟨d, rfl⟩ : ∃ e, d = e + 1 := ⟨d - 1, by omega⟩
  obtain ⟨v, m', p', hE, x, rfl, hx, hP, hF⟩ := c_X9_observer (S := (K, gB X sh nn)) (fz := false) (d := d) (by omega) s k (N s) g cp h.PI h.ck h.k12 hsk (h.cn hsk) (h.N1 hsk) (h.N8 hsk) h.pc h.p16 hg hc (by rw [h.At, h.c]; exact hr)
  rw [h.At, h.P] at hE
  rw [h.At, h.c] at hx
  rw [av_x (fun i hi => Du_eq hr hx hy i hi) (N s) g hg] at hE
  exact dr_12 (Q := fun m' p' => CS m0 k N cp ci m' p') ⟨_, m', p', hE, rfl, CS_fr h hP hF⟩
theorem e_obsN (hd : 9 ≤ d) (h : CS m0 k N cp ci m p) (hsk : s < k) {g : Nat} (hg : g < N s) (hc : ¬ (2 * N s ≤ cp ∧ rk (N s) (kr (N s) (trp (SA m0 s)) (Sc m0 s)) = N s)) : Dn d X (dA 12 s g 0 0) m0 k N cp ci m p K sh nn (-1000) := by
  obtain ⟨d, rfl⟩ : ∃ e, d = e + 1 := ⟨d - 1, by omega⟩
  refine dx_12_2 (Q := fun m' p' => CS m0 k N cp ci m' p') ?_
  by_cases q : 2 * N s ≤ cp
  · exact Tx_mono (t_X9_observerR (by omega) s k (N s) g cp h.PI h.ck h.k12 hsk (h.cn hsk) (h.N1 hsk) (h.N8 hsk) h.pc h.p16 hg q (by rw [h.At, h.c]; exact fun e => hc ⟨q, e⟩)) (fun m' p' q => CS_fr h q.1 q.2)
  · exact Tx_mono (t_X9_observerC (by omega) s k (N s) g cp h.PI h.ck h.k12 hsk (h.cn hsk) (h.N1 hsk) (h.N8 hsk) h.pc h.p16 hg (by omega)) (fun m' p' q => by rw [← q.1, ← q.2]; exact h)
theorem e_obsP (hd : 9 ≤ d) (h : CS m0 k N cp ci m p) (hsk : s < k) : Dn d X (dA 12 s (-1) 0 0) m0 k N cp ci m p K sh nn (-3000) := by
  obtain ⟨d, rfl⟩ : ∃ e, d = e + 1 := ⟨d - 1, by omega⟩
  exact dx_12_0 (Q := fun m' p' => CS m0 k N cp ci m' p') (Tx_mono (t_X9_observerP (by omega) s k (N s) cp (-1) h.PI h.ck h.k12 hsk (h.cn hsk) (h.N1 hsk) (h.N8 hsk) h.pc h.p16 ⟨by omega, by omega⟩ (by omega)) (fun m' p' q => by rw [← q.1, ← q.2]; exact h))
/-- costs -/
def Cv (m0 : M1) (N : Nat → Nat) (s l : Nat) (q r : F) : F := sm (N s) (fun i => sm (N s) (fun j => mc (N s) (SA m0 s) (Sb m0 s) (Sc m0 s) q r l i j))
def Cm (m0 : M1) (N : Nat → Nat) (s t : Nat) (q r : F) : F := rm (N s) (mc (N s) (SA m0 s) (Sb m0 s) (Sc m0 s) q r t) (Sb m0 s) r
theorem Cm_rc {t : Nat} {q r : F} : Cm m0 N s t q r = rm (N s) (rc (N s) (SA m0 s) (Sb m0 s) (Sc m0 s) q r t) (Sb m0 s) r := rm_congr (mc_rc t)
theorem Cv_rc {l : Nat} {q r : F} : Cv m0 N s l q r = sm (N s) (fun i => sm (N s) (fun j => rc (N s) (SA m0 s) (Sb m0 s) (Sc m0 s) q r l i j)) := sm_congr (fun i hi => sm_congr (fun j hj => mc_rc l i hi j hj))
theorem e_cost (hd : 9 ≤ d) (h : CS m0 k N cp ci m p) (hsk : s < k) {l : Nat} {q r : F} (hl : l ≤ 20) (hr : ∀ z, z < l → Cm m0 N s z q r ≠ 0) : Dn d X (dA 13 s (vF q) (vF r) l) m0 k N cp ci m p K sh nn (vF (Cv m0 N s l q r)) := by
  obtain ⟨d, rfl⟩ : ∃ e, d = e + 1 := ⟨d - 1, by omega⟩
  exact dr_13 (Q := fun m' p' => CS m0 k N cp ci m' p') (Ct_mono (c_X9_cost (by omega) s k (N s) l q r h.PI h.ck h.k12 hsk (h.cn hsk) (h.N1 hsk) (h.N8 hsk) hl (fun z hz => by rw [h.A, h.b, h.c, ← Cm_rc]; exact hr z hz)) (fun v m' p' e => ⟨by rw [e.1, h.A, h.b, h.c, Cv_rc], CS_fr h (by rw [← e.2.1]; exact h.PI) e.2.2⟩))
theorem e_costN (hd : 9 ≤ d) (h : CS m0 k N cp ci m p) (hsk : s < k) {l l0 : Nat} {q r : F} (hl : l ≤ 20) (hl0 : l0 < l) (hr : ∀ z, z < l0 → Cm m0 N s z q r ≠ 0) (hr0 : Cm m0 N s l0 q r = 0) : Dn d X (dA 13 s (vF q) (vF r) l) m0 k N cp ci m p K sh nn (-1000) := by
  obtain ⟨d, rfl⟩ : ∃ e, d = e + 1 := ⟨d - 1, by omega⟩
  exact dx_13_2 (Q := fun m' p' => CS m0 k N cp ci m' p') (Tx_mono (t_X9_costM (by omega) s k (N s) l l0 q r h.PI h.ck h.k12 hsk (h.cn hsk) (h.N1 hsk) (h.N8 hsk) ⟨hl0, hl⟩ (fun z hz => by rw [h.A, h.b, h.c, ← Cm_rc]; exact hr z hz) (by rw [h.A, h.b, h.c, ← Cm_rc]; exact hr0)) (fun m' p' e => CS_fr h (by rw [← e.1]; exact h.PI) e.2))
theorem e_costA (hd : 9 ≤ d) (h : CS m0 k N cp ci m p) (hsk : s < k) {l : Nat} {q r : F} (hl : l ≤ 20) (hr : ∀ z, z < l → Cm m0 N s z q r ≠ 0) : Dn d X (dA 14 s (vF q) (vF r) l) m0 k N cp ci m p K sh nn (vF (Cv m0 N s l q r)) := by
  obtain ⟨d, rfl⟩ : ∃ e, d = e + 1 := ⟨d - 1, by omega⟩
  refine dr_14 (Q := fun m' p' => CS m0 k N cp ci m' p') (Ct_mono (c_X9_costAnew (by omega) s k (N s) l q r h.PI h.ck h.k12 hsk (h.cn hsk) (h.N1 hsk) (h.N8 hsk) hl (fun z hz => by rw [h.A, h.b, h.c, ← Cm_rc]; exact hr z hz)) (fun v m' p' e => ⟨?_, CS_fr h (by rw [← e.2.1]; exact h.PI) e.2.2⟩))
  rw [e.1, h.A, h.b, h.c, cost_eq (fun z hz => by rw [← Cm_rc]; exact hr z hz), Cv_rc]
theorem e_costAN (hd : 9 ≤ d) (h : CS m0 k N cp ci m p) (hsk : s < k) {l l0 : Nat} {q r : F} (hl : l ≤ 20) (hl0 : l0 < l) (hr : ∀ z, z < l0 → Cm m0 N s z q r ≠ 0) (hr0 : Cm m0 N s l0 q r = 0) : Dn d X (dA 14 s (vF q) (vF r) l) m0 k N cp ci m p K sh nn (-1000) := by
  obtain ⟨d, rfl⟩ : ∃ e, d = e + 1 := ⟨d - 1, by omega⟩
  exact dx_14_2 (Q := fun m' p' => CS m0 k N cp ci m' p') (Tx_mono (t_X9_costAnewM (by omega) s k (N s) l l0 q r h.PI h.ck h.k12 hsk (h.cn hsk) (h.N1 hsk) (h.N8 hsk) ⟨hl0, hl⟩ (fun z hz => by rw [h.A, h.b, h.c, ← Cm_rc]; exact hr z hz) (by rw [h.A, h.b, h.c, ← Cm_rc]; exact hr0)) (fun m' p' e => CS_fr h (by rw [← e.1]; exact h.PI) e.2))
/-- refused questions -/
theorem e_polyX (hd : 9 ≤ d) (h : CS m0 k N cp ci m p) (hsk : s < k) : Dn d X (dA 9 s ((N s : Nat) + 1) 0 0) m0 k N cp ci m p K sh nn (-3000) := by
  obtain ⟨d, rfl⟩ : ∃ e, d = e + 1 := ⟨d - 1, by omega⟩
  have := h.N8 hsk
  exact dx_9_0_0 (Q := fun m' p' => CS m0 k N cp ci m' p') (Tx_mono (t_X9_polynomialX (by omega) s k (N s) (((N s : Nat) : Int) + 1) 0 h.PI h.ck h.k12 hsk (h.cn hsk) (h.N1 hsk) (h.N8 hsk) ⟨by omega, by omega⟩ (by omega)) (fun m' p' q => by rw [← q.1, ← q.2]; exact h))
theorem e_numX (hd : 9 ≤ d) (h : CS m0 k N cp ci m p) (hsk : s < k) : Dn d X (dA 15 s 41 0 0) m0 k N cp ci m p K sh nn (-2000) := by
  obtain ⟨d, rfl⟩ : ∃ e, d = e + 1 := ⟨d - 1, by omega⟩
  exact dx_15_1 (Q := fun m' p' => CS m0 k N cp ci m' p') (Tx_mono (t_X9_numberX (by omega) s k (N s) 41 h.PI h.ck h.k12 hsk (h.cn hsk) (h.N1 hsk) (h.N8 hsk) ⟨by omega, by omega⟩ (by omega)) (fun m' p' q => by rw [← q.1, ← q.2]; exact h))
end
