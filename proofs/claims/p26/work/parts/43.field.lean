/-! NUMBERS: the remainders by 10007. -/
theorem vF_lt (x : F) : vF x < 10007 := by unfold vF; omega
theorem vF_ge (x : F) : 0 ≤ vF x := by unfold vF; omega
theorem rg_vF (x : F) : rg (vF x) := ⟨by have := vF_ge x; omega, by have := vF_lt x; omega⟩
theorem vF_inj {x y : F} (h : vF x = vF y) : x = y := by
  apply Fin.eq_of_val_eq
  unfold vF at h
  omega
theorem vF_0 : vF 0 = 0 := rfl
theorem vF_1 : vF 1 = 1 := rfl
theorem vF_eq0 {x : F} : vF x = 0 ↔ x = 0 := ⟨fun h => vF_inj (h.trans vF_0.symm), fun h => by rw [h]; rfl⟩
theorem vF_eqz {x y : F} : vF x = vF y ↔ x = y := ⟨vF_inj, fun h => by rw [h]⟩
/-- the remainder of a whole number -/
def toF (z : Int) : F := ⟨(z % 10007).toNat, by omega⟩
theorem vF_toF (z : Int) : vF (toF z) = z % 10007 := by unfold vF toF; show (((z % 10007).toNat : Nat) : Int) = _; omega
theorem toF_vF (x : F) : toF (vF x) = x := vF_inj (by rw [vF_toF]; have := vF_ge x; have := vF_lt x; omega)
theorem tmod_vF {z : Int} (h : 0 ≤ z) : z.tmod 10007 = vF (toF z) := by rw [vF_toF, Int.tmod_eq_emod_of_nonneg h]
theorem toF_eq {a b : Int} (h : a % 10007 = b % 10007) : toF a = toF b := vF_inj (by rw [vF_toF, vF_toF, h])
theorem vF_add' (a b : F) : vF (a + b) = (vF a + vF b) % 10007 := by
  unfold vF
  rw [Fin.val_add]
  omega
theorem vF_mul' (a b : F) : vF (a * b) = (vF a * vF b) % 10007 := by
  unfold vF
  rw [Fin.val_mul, ← Int.natCast_mul]
  omega
theorem vF_sub' (a b : F) : vF (a - b) = (vF a - vF b) % 10007 := by
  unfold vF
  rw [Fin.sub_def]
  show (((10007 - b.val + a.val) % 10007 : Nat) : Int) = _
  omega
theorem vF_neg' (a : F) : vF (-a) = (-vF a) % 10007 := by
  have h : -a = 0 - a := by grind
  rw [h, vF_sub', vF_0]
  congr 1
  omega
theorem toF_add (a b : Int) : toF (a + b) = toF a + toF b := vF_inj (by rw [vF_toF, vF_add', vF_toF, vF_toF, Int.emod_add_emod, Int.add_emod_emod])
theorem toF_mul (a b : Int) : toF (a * b) = toF a * toF b := vF_inj (by rw [vF_toF, vF_mul', vF_toF, vF_toF, Int.mul_emod])
theorem toF_sub (a b : Int) : toF (a - b) = toF a - toF b := vF_inj (by rw [vF_toF, vF_sub', vF_toF, vF_toF, Int.emod_sub_emod, Int.sub_emod_emod])
theorem toF_neg (a : Int) : toF (-a) = -toF a := vF_inj (by rw [vF_toF, vF_neg', vF_toF]; omega)
theorem toF_0 : toF 0 = 0 := rfl
theorem toF_1 : toF 1 = 1 := rfl
theorem toF_M : toF 10007 = 0 := rfl
theorem vF_plus (a b : F) : (vF a + vF b).tmod 10007 = vF (a + b) := by
  rw [tmod_vF (by have := vF_ge a; have := vF_ge b; omega), toF_add, toF_vF, toF_vF]
theorem vF_times (a b : F) : (vF a * vF b).tmod 10007 = vF (a * b) := by
  rw [tmod_vF (Int.mul_nonneg (vF_ge a) (vF_ge b)), toF_mul, toF_vF, toF_vF]
theorem vF_minus (a b : F) : (vF a + 10007 - vF b).tmod 10007 = vF (a - b) := by
  rw [tmod_vF (by have := vF_ge a; have := vF_lt b; omega), toF_sub, toF_add, toF_vF, toF_vF, toF_M]
  have h : a + 0 - b = a - b := by grind
  rw [h]
theorem rg_plus (a b : F) : rg (vF a + vF b) := ⟨by have := vF_ge a; have := vF_ge b; omega, by have := vF_lt a; have := vF_lt b; omega⟩
theorem vF_mul_lt (a b : F) : vF a * vF b ≤ 100120036 := by
  have h1 := Int.mul_le_mul (show vF a ≤ 10006 by have := vF_lt a; omega) (show vF b ≤ 10006 by have := vF_lt b; omega) (vF_ge b) (by omega)
  omega
theorem rg_times (a b : F) : rg (vF a * vF b) := ⟨by have := Int.mul_nonneg (vF_ge a) (vF_ge b); omega, by have := vF_mul_lt a b; omega⟩
theorem rg_minus (a b : F) : rg (vF a + 10007 - vF b) := ⟨by have := vF_ge a; have := vF_lt b; omega, by have := vF_lt a; have := vF_ge b; omega⟩
/-- counts as remainders -/
def nF (n : Nat) : F := Fin.ofNat 10007 n
theorem vF_nF {n : Nat} (h : n < 10007) : vF (nF n) = (n : Int) := by
  unfold vF nF
  show ((n % 10007 : Nat) : Int) = _
  omega
/-- loops -/
theorem loop_up {P : Nat → Prop} {n : Nat} (hn : P n) (hs : ∀ i, i < n → P (i + 1) → P i) : ∀ i, i ≤ n → P i := by
  intro i hi
  obtain ⟨j, hj⟩ : ∃ j, n = i + j := ⟨n - i, by omega⟩
  induction j generalizing i with
  | zero =>
    have e : n = i := by omega
    rw [← e]
    exact hn
  | succ j ih => exact hs i (by omega) (ih (i + 1) (by omega) (by omega))
theorem loop_down {P : Nat → Prop} (h0 : P 0) (hs : ∀ i, P i → P (i + 1)) : ∀ i, P i := by
  intro i
  induction i with
  | zero => exact h0
  | succ i ih => exact hs i ih
def Rw (C : Nat → List Value → MH → Res → Prop) (k : Nat) (g : Cfg) (Q : Res → Prop) : Prop := ∃ r, Rn C k g r ∧ Q r
theorem lcons {a b : Option Value} {l l' : List (Option Value)} (h : a = b) (h' : l = l') : a :: l = b :: l' := by rw [h, h']
theorem lvI {a b : Int} (h : a = b) : some (Value.int (iI a)) = some (Value.int (iI b)) := by rw [h]
theorem lvR {a b : Nat} (h : a = b) : some (Value.ref a) = some (Value.ref b) := by rw [h]
theorem hp_cast {S : Env} {fz : Bool} {m m' : M1} {p p' : M2} (h : m = m') (h' : p = p') : hpM S fz (m, p) = hpM S fz (m', p') := by rw [h, h']
/-- the end of a method that returns -/
def RQ (S : Env) (fz : Bool) (Q : Option Value → M1 → M2 → Prop) : Res → Prop := fun r => ∃ v m' p', r = (.inl v, hpM S fz (m', p'), 0, 0) ∧ Q v m' p'
theorem ct_run {d k : Nat} {S : Env} {fz : Bool} {ar : List Value} {m : M1} {p : M2} {Q : Option Value → M1 → M2 → Prop} {lv : List (Option Value)} (hl : ar.length ≤ m_L k) (ha : okar ar) (hlv : lv0 (m_L k) ar = lv) (hr : Rw (Ev d) k (0, [], lv, [], hpM S fz (m, p), 0, 0) (RQ S fz Q)) : Ct (d + 1) k S fz ar m p Q := by
  obtain ⟨r, hr, v, m', p', rfl, hq⟩ := hr
  exact ⟨v, m', p', ev_ret hl ha hlv hr, hq⟩
/-- sums -/
def sm : Nat → (Nat → F) → F
  | 0, _ => 0
  | n + 1, f => sm n f + f n
theorem sm_0 {f : Nat → F} : sm 0 f = 0 := rfl
theorem sm_s {n : Nat} {f : Nat → F} : sm (n + 1) f = sm n f + f n := rfl
theorem sm_congr {n : Nat} {f g : Nat → F} (h : ∀ i, i < n → f i = g i) : sm n f = sm n g := by
  induction n with
  | zero => rfl
  | succ n ih => rw [sm_s, sm_s, ih (fun i hi => h i (by omega)), h n (by omega)]
theorem sm_add {n : Nat} {f g : Nat → F} : sm n (fun i => f i + g i) = sm n f + sm n g := by
  induction n with
  | zero => rfl
  | succ n ih => rw [sm_s, sm_s, sm_s, ih]; grind
theorem sm_mul {n : Nat} {a : F} {f : Nat → F} : sm n (fun i => a * f i) = a * sm n f := by
  induction n with
  | zero => rw [sm_0, sm_0]; grind
  | succ n ih => rw [sm_s, sm_s, ih]; grind
theorem sm_zero {n : Nat} {f : Nat → F} (h : ∀ i, i < n → f i = 0) : sm n f = 0 := by
  induction n with
  | zero => rfl
  | succ n ih => rw [sm_s, ih (fun i hi => h i (by omega)), h n (by omega)]; rfl
theorem sm_swap {n k : Nat} {f : Nat → Nat → F} : sm n (fun i => sm k (fun j => f i j)) = sm k (fun j => sm n (fun i => f i j)) := by
  induction n with
  | zero => exact (sm_zero (fun _ _ => rfl)).symm
  | succ n ih =>
    rw [sm_s, ih, ← sm_add]
    exact sm_congr (fun i _ => rfl)
def dot (n : Nat) (f g : Nat → F) : F := sm n (fun i => f i * g i)
theorem dot_0 {f g : Nat → F} : dot 0 f g = 0 := rfl
theorem dot_s {n : Nat} {f g : Nat → F} : dot (n + 1) f g = dot n f g + f n * g n := rfl
/-- what was not touched -/
def Fr (X : Nat → Prop) (m m' : M1) : Prop := ∀ a, ¬ X a → m' a = m a
theorem Fr_rfl {X : Nat → Prop} {m : M1} : Fr X m m := fun _ _ => rfl
theorem Fr_trans {X : Nat → Prop} {m m' m'' : M1} (h : Fr X m m') (h' : Fr X m' m'') : Fr X m m'' := fun a ha => (h' a ha).trans (h a ha)
theorem Fr_mono {X Y : Nat → Prop} {m m' : M1} (h : Fr X m m') (hs : ∀ a, X a → Y a) : Fr Y m m' := fun a ha => h a (fun hx => ha (hs a hx))
theorem w1_at {m : M1} {a i : Nat} {x : F} : w1 m a i x a i = x := if_pos ⟨rfl, rfl⟩
theorem w1_ne {m : M1} {a i a' i' : Nat} {x : F} (h : ¬ (a' = a ∧ i' = i)) : w1 m a i x a' i' = m a' i' := if_neg h
theorem w1_a {m : M1} {a i a' : Nat} {x : F} (h : a' ≠ a) : w1 m a i x a' = m a' := funext fun _ => if_neg (fun z => h z.1)
theorem w2_at {p : M2} {a i : Nat} {x : Option Nat} : w2 p a i x a i = x := if_pos ⟨rfl, rfl⟩
theorem w2_ne {p : M2} {a i a' i' : Nat} {x : Option Nat} (h : ¬ (a' = a ∧ i' = i)) : w2 p a i x a' i' = p a' i' := if_neg h
theorem w2_a {p : M2} {a i a' : Nat} {x : Option Nat} (h : a' ≠ a) : w2 p a i x a' = p a' := funext fun _ => if_neg (fun z => h z.1)
theorem Fr_w1 {X : Nat → Prop} {m m' : M1} {a i : Nat} {x : F} (h : Fr X m m') (ha : X a) : Fr X m (w1 m' a i x) := fun b hb => (w1_a (fun e => hb (by rw [e]; exact ha))).trans (h b hb)
