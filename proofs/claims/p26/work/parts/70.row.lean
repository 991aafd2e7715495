/-! THE LAW'S ROWS: cells behind the class's own, rows of ints alone; more are made as the law goes on. -/
abbrev N2 : Type := Nat → Nat → Int
def gB (X : MC) (sh : Nat → Nat) (n : N2) : Nat → Option MC := fun j => if j = 0 then some X else if sh j = 0 then none else some (mI (sh j) (fun i => iI (n j i)))
abbrev hB (X : MC) (m : M1) (p : M2) (K : Nat) (sh : Nat → Nat) (n : N2) : MH := hpM (K, gB X sh n) false (m, p)
/-- a row: where, how long -/
def Ro (K : Nat) (sh : Nat → Nat) (a l : Nat) : Prop := 260 < a ∧ a ≤ K ∧ sh a = l
def wI (n : N2) (a i : Nat) (x : Int) : N2 := fun a' i' => if a' = a ∧ i' = i then x else n a' i'
def nU (n : N2) (a : Nat) : N2 := fun a' => if a' = a then fun _ => 0 else n a'
def shU (sh : Nat → Nat) (a l : Nat) : Nat → Nat := fun j => if j = a then l else sh j
theorem wI_at {n : N2} {a i : Nat} {x : Int} : wI n a i x a i = x := if_pos ⟨rfl, rfl⟩
theorem wI_ne {n : N2} {a i a' i' : Nat} {x : Int} (h : ¬ (a' = a ∧ i' = i)) : wI n a i x a' i' = n a' i' := if_neg h
theorem wI_a {n : N2} {a i a' : Nat} {x : Int} (h : a' ≠ a) : wI n a i x a' = n a' := funext fun _ => if_neg (fun z => h z.1)
theorem nU_at {n : N2} {a i : Nat} : nU n a a i = 0 := congrFun (if_pos rfl) i
theorem nU_ne {n : N2} {a a' : Nat} (h : a' ≠ a) : nU n a a' = n a' := if_neg h
theorem shU_ne {sh : Nat → Nat} {a a' l : Nat} (h : a' ≠ a) : shU sh a l a' = sh a' := if_neg h
theorem kN {n n' : N2} {a j c : Nat} {x : Int} (h : wI n a j x = n') (hc : c ≠ a) : n' c = n c := by
  rw [← h]
  exact wI_a hc
theorem kU {n n' : N2} {a c : Nat} (h : nU n a = n') (hc : c ≠ a) : n' c = n c := by
  rw [← h]
  exact nU_ne hc
theorem kU0 {n n' : N2} {a i : Nat} (h : nU n a = n') : n' a i = 0 := by
  rw [← h]
  exact nU_at
theorem kA {n n' : N2} {a j : Nat} {x : Int} (h : wI n a j x = n') : n' a j = x := by
  rw [← h]
  exact wI_at
theorem kB {n n' : N2} {a j i : Nat} {x : Int} (h : wI n a j x = n') (hi : i ≠ j) : n' a i = n a i := by
  rw [← h]
  exact wI_ne (fun z => hi z.2)
/-- rows that stay -/
def FrN (X : Nat → Prop) (n n' : N2) : Prop := ∀ a, ¬ X a → n' a = n a
/-- lengths that stay -/
def FrS (K : Nat) (sh sh' : Nat → Nat) : Prop := ∀ a, a ≤ K → sh' a = sh a
theorem Ro_call {K K' : Nat} {sh sh' : Nat → Nat} {a l : Nat} (hK : K ≤ K') (hS : FrS K sh sh') (h : Ro K sh a l) : Ro K' sh' a l := ⟨h.1, Nat.le_trans h.2.1 hK, (hS a h.2.1).trans h.2.2⟩
theorem Ro_new {K : Nat} {sh : Nat → Nat} {a l l' : Nat} (h : Ro K sh a l) : Ro (K + 1) (shU sh (K + 1) l') a l := ⟨h.1, Nat.le_succ_of_le h.2.1, (shU_ne (by have := h.2.1; omega)).trans h.2.2⟩
theorem Ro_made {K : Nat} {sh : Nat → Nat} {l : Nat} (h : 260 ≤ K) : Ro (K + 1) (shU sh (K + 1) l) (K + 1) l := ⟨by omega, Nat.le_refl _, if_pos rfl⟩
theorem FrS_new {K : Nat} {sh : Nat → Nat} {l : Nat} : FrS K sh (shU sh (K + 1) l) := fun a ha => shU_ne (by omega)
theorem FrS_rfl {K : Nat} {sh : Nat → Nat} : FrS K sh sh := fun _ _ => rfl
theorem FrS_tr {K K' : Nat} {sh sh' sh'' : Nat → Nat} (hK : K ≤ K') (h : FrS K sh sh') (h' : FrS K' sh' sh'') : FrS K sh sh'' := fun a ha => (h' a (Nat.le_trans ha hK)).trans (h a ha)
section
variable {X : MC} {m : M1} {p : M2} {K : Nat} {sh : Nat → Nat} {n : N2} {a l : Nat}
theorem hB_at (ha : 260 < a) : (hB X m p K sh n).2.2 a = if sh a = 0 then none else some (mI (sh a) (fun i => iI (n a i))) := by
  show (if 1 ≤ a ∧ a ≤ 260 then _ else gB X sh n a) = _
  rw [if_neg (by omega)]
  unfold gB
  rw [if_neg (by omega)]
theorem hB_I (h : Ro K sh a l) (hl : l ≠ 0) : (hB X m p K sh n).2.2 a = some (mI l (fun i => iI (n a i))) := by
  rw [hB_at h.1, h.2.2, if_neg hl]
theorem hup_B {j : Nat} {v : Int} (h : Ro K sh a l) (hl : l ≠ 0) : hup (hB X m p K sh n) a (mI l (upd (fun i => iI (n a i)) j (iI v))) = hB X m p K sh (wI n a j v) := by
  unfold hup hB hpM
  refine congrArg (fun f => (K, false, f)) (funext fun c => ?_)
  show (if c = a then _ else if 1 ≤ c ∧ c ≤ 260 then _ else gB X sh n c) = if 1 ≤ c ∧ c ≤ 260 then _ else gB X sh (wI n a j v) c
  have h1 := h.1
  by_cases e : c = a
  · subst e
    rw [if_pos rfl, if_neg (by omega)]
    unfold gB
    rw [if_neg (by omega), h.2.2, if_neg hl]
    refine congrArg (fun f => some (mI l f)) (funext fun i => ?_)
    by_cases q : i = j
    · subst q
      rw [wI_at]
      exact if_pos rfl
    · rw [wI_ne (fun z => q z.2)]
      exact if_neg q
  · rw [if_neg e]
    by_cases q : 1 ≤ c ∧ c ≤ 260
    · rw [if_pos q, if_pos q]
    · rw [if_neg q, if_neg q]
      unfold gB
      rw [wI_a e]
theorem hpush_B (hK : 260 ≤ K) (hl : l ≠ 0) : hpush (hB X m p K sh n) (mI l (fun _ => 0)) = hB X m p (K + 1) (shU sh (K + 1) l) (nU n (K + 1)) := by
  unfold hpush hB hpM
  refine congrArg (fun f => (K + 1, false, f)) (funext fun c => ?_)
  show (if c = K + 1 then _ else if 1 ≤ c ∧ c ≤ 260 then _ else gB X sh n c) = if 1 ≤ c ∧ c ≤ 260 then _ else gB X (shU sh (K + 1) l) (nU n (K + 1)) c
  by_cases e : c = K + 1
  · subst e
    rw [if_pos rfl, if_neg (by omega)]
    unfold gB
    rw [if_neg (by omega), show shU sh (K + 1) l (K + 1) = l from if_pos rfl, if_neg hl]
    refine congrArg (fun f => some (mI l f)) (funext fun i => ?_)
    rw [nU_at]
    rfl
  · rw [if_neg e]
    by_cases q : 1 ≤ c ∧ c ≤ 260
    · rw [if_pos q, if_pos q]
    · rw [if_neg q, if_neg q]
      unfold gB
      rw [nU_ne e, shU_ne e]
end
section RR
variable {C : Nat → List Value → MH → Res → Prop} {k : Nat} {r : Res} {pc x y z : Nat} {is : List Ent} {lv lv' : List (Option Value)} {st : List Value} {h : MH} {c s : Nat} {X : MC} {m m' : M1} {p p' : M2} {K : Nat} {sh : Nat → Nat} {n : N2}
theorem q_lald {a l j : Nat} {e v : Int} (hr : Ro K sh a l) (hj : e = (j : Int)) (hl : j < l ∧ l ≤ 1000) (hv : n a j = v) (nn : Rn C k (pc + 1, is, lv, .int (iI v) :: st, hB X m p K sh n, c, s) r) : Rn C k (pc, (.iaload, 1, x, y, z) :: is, lv, .int (iI e) :: .ref a :: st, hB X m p K sh n, c, s) r := rn_next (by
  subst hj
  subst hv
  simp only [step, stepI]
  simp only [s_iald, hB_I hr (show l ≠ 0 by omega)]
  rw [if_neg (iI_in hl.1 (by omega)), iI_clamp (by omega)]
  rfl) nn
theorem q_last {a l j : Nat} {e v : Int} (hr : Ro K sh a l) (hj : e = (j : Int)) (hl : j < l ∧ l ≤ 1000) (nn : Rn C k (pc + 1, is, lv, st, hB X m p K sh (wI n a j v), c, s) r) : Rn C k (pc, (.iastore, 1, x, y, z) :: is, lv, .int (iI v) :: .int (iI e) :: .ref a :: st, hB X m p K sh n, c, s) r := rn_next (by
  subst hj
  simp only [step, stepI]
  simp only [s_iast, hB_I hr (show l ≠ 0 by omega)]
  rw [if_neg (show ¬ a = 0 by have := hr.1; omega), if_neg (iI_in hl.1 (by omega)), iI_clamp (by omega), hup_B hr (by omega)]
  rfl) nn
theorem q_lnew {l : Nat} {e : Int} (hK : 260 ≤ K) (he : e = (l : Int)) (hl : 0 < l ∧ l ≤ 100) (nn : Rn C k (pc + 2, is, lv, .ref (K + 1) :: st, hB X m p (K + 1) (shU sh (K + 1) l) (nU n (K + 1)), c + 1, s + l) r) : Rn C k (pc, (.newarray .int, 2, x, y, z) :: is, lv, .int (iI e) :: st, hB X m p K sh n, c, s) r := rn_next (by
  subst he
  simp only [step, stepI]
  simp only [s_newa]
  have h1 : (iI (l : Int)).toNatClampNeg = l := iI_clamp (by omega)
  have h2 : ¬ iI (l : Int) < 0 := by
    rw [show (0 : Int32) = iI 0 from rfl, iI_lt ⟨by omega, by omega⟩ ⟨by omega, by omega⟩]
    omega
  rw [if_neg (fun q => q.elim (fun q => by cases q) (fun q => q.elim h2 (fun q => by omega))), h1, hpush_B hK (by omega)]
  rfl) nn
theorem q_eqv {a b : Int} (e : a = b) (nn : Rn C k (pc, is, lv, .int (iI b) :: st, h, c, s) r) : Rn C k (pc, is, lv, .int (iI a) :: st, h, c, s) r := by
  rw [e]
  exact nn
theorem q_ldc {ix : Nat} {w : Int32} {v : Int} (hw : cstT.lookup (m_cn k, ix) = some w) (hv : w = iI v) (nn : Rn C k (pc + 2, is, lv, .int (iI v) :: st, h, c, s) r) : Rn C k (pc, (.ldc ix, 2, x, y, z) :: is, lv, st, h, c, s) r := rn_next (by
  simp only [step, stepI]
  simp only [s_ldc, hw, hv, if_true, nx]) nn
end RR
/-- how many cells a law's method makes at most -/
def bT : List (Nat × Nat) := [(94, 1), (101, 1), (102, 1), (103, 42), (104, 10), (105, 66), (106, 4), (107, 160), (108, 6), (109, 4), (110, 7)]
def bK (k : Nat) : Nat := (bT.lookup k).getD 0
/-- the end of a law's method -/
def LQ (X : MC) (K : Nat) (sh : Nat → Nat) (B : Nat) (Q : Option Value → M1 → M2 → Nat → (Nat → Nat) → N2 → Prop) : Res → Prop := fun r => ∃ v m' p' K' sh' n' c s, r = (.inl v, hB X m' p' K' sh' n', c, s) ∧ K ≤ K' ∧ K' ≤ K + B ∧ FrS K sh sh' ∧ Q v m' p' K' sh' n'
def Lc (d k : Nat) (X : MC) (ar : List Value) (m : M1) (p : M2) (K : Nat) (sh : Nat → Nat) (n : N2) (Q : Option Value → M1 → M2 → Nat → (Nat → Nat) → N2 → Prop) : Prop := ∃ v m' p' K' sh' n' c s, Ev d k ar (hB X m p K sh n) (.inl v, hB X m' p' K' sh' n', c, s) ∧ K ≤ K' ∧ K' ≤ K + bK k ∧ FrS K sh sh' ∧ Q v m' p' K' sh' n'
theorem lc_go {d k B : Nat} {X : MC} {ar : List Value} {m : M1} {p : M2} {K : Nat} {sh : Nat → Nat} {n : N2} {Q : Option Value → M1 → M2 → Nat → (Nat → Nat) → N2 → Prop} {lv : List (Option Value)} (hl : ar.length ≤ m_L k) (ha : okar ar) (hlv : lv0 (m_L k) ar = lv) (hB9 : bK k = B) (hr : ∀ Qr, Qr = LQ X K sh B Q → Rw (Ev d) k (0, [], lv, [], hB X m p K sh n, 0, 0) Qr) : Lc (d + 1) k X ar m p K sh n Q := by
  subst hB9
  obtain ⟨r, hr, v, m', p', K', sh', n', c, s, rfl, h1, h2, h3, h4⟩ := hr _ rfl
  exact ⟨v, m', p', K', sh', n', c, s, ev_ret hl ha hlv hr, h1, h2, h3, h4⟩
theorem Lc_mono {d k : Nat} {X : MC} {ar : List Value} {m : M1} {p : M2} {K : Nat} {sh : Nat → Nat} {n : N2} {Q Q' : Option Value → M1 → M2 → Nat → (Nat → Nat) → N2 → Prop} (h : Lc d k X ar m p K sh n Q) (hQ : ∀ v m' p' K' sh' n', K ≤ K' → FrS K sh sh' → Q v m' p' K' sh' n' → Q' v m' p' K' sh' n') : Lc d k X ar m p K sh n Q' := by
  obtain ⟨v, m', p', K', sh', n', c, s, h1, h2, h3, h4, h5⟩ := h
  exact ⟨v, m', p', K', sh', n', c, s, h1, h2, h3, h4, hQ _ _ _ _ _ _ h2 h4 h5⟩
theorem lw_end {C : Nat → List Value → MH → Res → Prop} {k B : Nat} {Q : Res → Prop} {X : MC} {v : Option Value} {m' : M1} {p' : M2} {K K' : Nat} {sh sh' : Nat → Nat} {n' : N2} {c s : Nat} {Q' : Option Value → M1 → M2 → Nat → (Nat → Nat) → N2 → Prop} {g : Cfg} (hQ : Q = LQ X K sh B Q') (h : Rn C k g (.inl v, hB X m' p' K' sh' n', c, s)) (hK : K ≤ K') (hKB : K' ≤ K + B) (hS : FrS K sh sh') (hq : Q' v m' p' K' sh' n') : Rw C k g Q := by
  subst hQ
  exact ⟨_, h, v, m', p', K', sh', n', c, s, rfl, hK, hKB, hS, hq⟩
theorem toF_nat (x : Nat) : toF (x : Int) = nF x := vF_inj (by
  rw [vF_toF]
  unfold vF nF
  show _ = ((x % 10007 : Nat) : Int)
  omega)
theorem rem0F {a : Int} {f : F} (h : toF a = f) : a % 10007 = vF f := by rw [← h, vF_toF]
