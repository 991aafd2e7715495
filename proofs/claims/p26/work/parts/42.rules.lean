/-! RULES: from the state behind an instruction to the state ahead of it. -/
theorem rn_next {C : Nat → List Value → MH → Res → Prop} {k : Nat} {g g' : Cfg} {r : Res} (hs : step k g = some (.inl g')) (h : Rn C k g' r) : Rn C k g r := by
  obtain ⟨f, hf⟩ := h
  refine ⟨f + 1, ?_⟩
  unfold runR
  rw [hs]
  exact hf
theorem rn_end {C : Nat → List Value → MH → Res → Prop} {k : Nat} {g : Cfg} {r : Res} (hs : step k g = some (.inr (.inl r))) : Rn C k g r := by
  refine ⟨1, ?_⟩
  unfold runR
  rw [hs]
theorem rn_call {C : Nat → List Value → MH → Res → Prop} {k x : Nat} {ar : List Value} {g : Cfg} {r : Res} {pc : Nat} {is : List Ent} {lv : List (Option Value)} {st : List Value} {h h' : MH} {c s c' s' : Nat} {v : Option Value} (hs : step k g = some (.inr (.inr (x, ar, (pc, is, lv, st, h, c, s))))) (hq : C x ar h (.inl v, h', c', s')) (hr : Rn C k (pc, is, lv, v.toList ++ st, h', c + c', s + s') r) : Rn C k g r := by
  obtain ⟨f, hf⟩ := hr
  refine ⟨f + 1, ?_⟩
  unfold runR
  rw [hs]
  exact ⟨_, hq, hf⟩
theorem rn_thrown {C : Nat → List Value → MH → Res → Prop} {k x E : Nat} {ar : List Value} {g : Cfg} {pc : Nat} {is : List Ent} {lv : List (Option Value)} {st : List Value} {h h' : MH} {c s c' s' : Nat} (hh : m_hh k = []) (hs : step k g = some (.inr (.inr (x, ar, (pc, is, lv, st, h, c, s))))) (hq : C x ar h (.inr E, h', c', s')) : Rn C k g (.inr E, h', c + c', s + s') := by
  refine ⟨1, ?_⟩
  unfold runR
  rw [hs]
  refine ⟨_, hq, ?_⟩
  simp only [hh]
theorem rn_caught {C : Nat → List Value → MH → Res → Prop} {k x E : Nat} {ar : List Value} {g : Cfg} {r : Res} {pc : Nat} {is : List Ent} {lv : List (Option Value)} {st : List Value} {h h' : MH} {c s c' s' n t len : Nat} {a9 : Nat × Nat × Nat} {is' : List Ent} {q0 : Nat × Nat × Nat × Nat} {hh : List (Nat × Nat × Nat × Nat)} (hk : m_hh k = q0 :: hh) (hs : step k g = some (.inr (.inr (x, ar, (pc, is, lv, st, h, c, s))))) (hq : C x ar h (.inr E, h', c', s')) (ht : hnd (pc - 3) E (q0 :: hh) = some t) (hl : (∃ n' : Fin 4, (n' : Nat) = n ∧ len = 1 ∧ (m_bl k).lookup t = some ((.astore_n n', 1, a9) :: is')) ∨ (len = 2 ∧ (m_bl k).lookup t = some ((.astore n, 2, a9) :: is')))
    (hr : Rn C k (t + len, is', lv.set n none, [], h', c + c', s + s') r) : Rn C k g r := by
  obtain ⟨f, hf⟩ := hr
  refine ⟨f + 1, ?_⟩
  unfold runR
  rw [hs]
  refine ⟨_, hq, ?_⟩
  rw [hk]
  simp only [ht]
  rcases hl with ⟨n', rfl, rfl, hl⟩ | ⟨rfl, hl⟩
  · rw [hl]
    exact hf
  · rw [hl]
    exact hf
/-- a method's contract out of its run: it returns -/
theorem ev_ret {d k : Nat} {ar : List Value} {h : MH} {v : Option Value} {h' : MH} {c s : Nat} {lv : List (Option Value)} (hl : ar.length ≤ m_L k) (ha : okar ar) (hlv : lv0 (m_L k) ar = lv) (hr : Rn (Ev d) k (0, [], lv, [], h, 0, 0) (.inl v, h', c, s)) : Ev (d + 1) k ar h (.inl v, h', c, s) :=
  ⟨⟨hl, ha, fun _ => ⟨v, rfl⟩, fun E hE => by cases hE⟩, by rw [hlv]; exact hr⟩
/-- .. or it throws -/
theorem ev_thr {d k E : Nat} {ar : List Value} {h : MH} {h' : MH} {c s : Nat} {lv : List (Option Value)} (hl : ar.length ≤ m_L k) (ha : okar ar) (hk : m_kd k ≠ 2 ∧ m_hh k = []) (hd : 6 ≤ d + 1) (hlv : lv0 (m_L k) ar = lv) (hr : Rn (Ev d) k (0, [], lv, [], h, 0, 0) (.inr E, h', c, s)) : Ev (d + 1) k ar h (.inr E, h', c, s) :=
  ⟨⟨hl, ha, fun h => h.elim (fun h => absurd h hk.1) (fun h => absurd hk.2 h), fun E hE => hd⟩, by rw [hlv]; exact hr⟩
theorem okar_nil : okar [] := fun _ h => by cases h
theorem okar_cons {v : Value} {l : List Value} (h : v.category = 1) (hl : okar l) : okar (v :: l) := fun w hw => (List.mem_cons.mp hw).elim (fun e => by rw [e]; exact h) (hl w)
section RR
variable {C : Nat → List Value → MH → Res → Prop} {k : Nat} {r : Res} {pc x y z : Nat} {is : List Ent} {lv lv' : List (Option Value)} {st : List Value} {h : MH} {c s : Nat} {S : Env} {fz : Bool} {m m' : M1} {p p' : M2}
theorem q_blk {is' : List Ent} (hl : (m_bl k).lookup pc = some is') (n : Rn C k (pc, is', lv, st, h, c, s) r) : Rn C k (pc, [], lv, st, h, c, s) r := rn_next (by simp only [step, hl, nx]) n
theorem q_iload_n {i : Fin 4} {v : Int32} (hv : lv[(i : Nat)]? = some (some (.int v))) (n : Rn C k (pc + 1, is, lv, .int v :: st, h, c, s) r) : Rn C k (pc, (.iload_n i, 1, x, y, z) :: is, lv, st, h, c, s) r := rn_next (by simp only [step, stepI]; simp only [s_iload, hv, nx]) n
theorem q_iload {i : Nat} {v : Int32} (hv : lv[(i : Nat)]? = some (some (.int v))) (n : Rn C k (pc + 2, is, lv, .int v :: st, h, c, s) r) : Rn C k (pc, (.iload i, 2, x, y, z) :: is, lv, st, h, c, s) r := rn_next (by simp only [step, stepI]; simp only [s_iload, hv, nx]) n
theorem q_aload_n {i : Fin 4} {v : Nat} (hv : lv[(i : Nat)]? = some (some (.ref v))) (n : Rn C k (pc + 1, is, lv, .ref v :: st, h, c, s) r) : Rn C k (pc, (.aload_n i, 1, x, y, z) :: is, lv, st, h, c, s) r := rn_next (by simp only [step, stepI]; simp only [s_aload, hv, nx]) n
theorem q_aload {i : Nat} {v : Nat} (hv : lv[(i : Nat)]? = some (some (.ref v))) (n : Rn C k (pc + 2, is, lv, .ref v :: st, h, c, s) r) : Rn C k (pc, (.aload i, 2, x, y, z) :: is, lv, st, h, c, s) r := rn_next (by simp only [step, stepI]; simp only [s_aload, hv, nx]) n
theorem q_istore_n {i : Fin 4} {v : Int32} (hl : (i : Nat) < lv.length) (hv : lv.set i (some (.int v)) = lv') (n : Rn C k (pc + 1, is, lv', st, h, c, s) r) : Rn C k (pc, (.istore_n i, 1, x, y, z) :: is, lv, .int v :: st, h, c, s) r := rn_next (by simp only [step, stepI]; rw [← hv]; simp only [s_istore, hl, if_true, nx]) n
theorem q_istore {i : Nat} {v : Int32} (hl : (i : Nat) < lv.length) (hv : lv.set i (some (.int v)) = lv') (n : Rn C k (pc + 2, is, lv', st, h, c, s) r) : Rn C k (pc, (.istore i, 2, x, y, z) :: is, lv, .int v :: st, h, c, s) r := rn_next (by simp only [step, stepI]; rw [← hv]; simp only [s_istore, hl, if_true, nx]) n
theorem q_astore_n {i : Fin 4} {v : Nat} (hl : (i : Nat) < lv.length) (hv : lv.set i (some (.ref v)) = lv') (n : Rn C k (pc + 1, is, lv', st, h, c, s) r) : Rn C k (pc, (.astore_n i, 1, x, y, z) :: is, lv, .ref v :: st, h, c, s) r := rn_next (by simp only [step, stepI]; rw [← hv]; simp only [s_astore, hl, if_true, nx]) n
theorem q_astore {i : Nat} {v : Nat} (hl : (i : Nat) < lv.length) (hv : lv.set i (some (.ref v)) = lv') (n : Rn C k (pc + 2, is, lv', st, h, c, s) r) : Rn C k (pc, (.astore i, 2, x, y, z) :: is, lv, .ref v :: st, h, c, s) r := rn_next (by simp only [step, stepI]; rw [← hv]; simp only [s_astore, hl, if_true, nx]) n
theorem q_iinc {i : Nat} {d9 a : Int} (hv : lv[i]? = some (some (.int (iI a)))) (hl : lv.set i (some (.int (iI (a + d9)))) = lv') (n : Rn C k (pc + 3, is, lv', st, h, c, s) r) : Rn C k (pc, (.iinc i d9, 3, x, y, z) :: is, lv, st, h, c, s) r := rn_next (by simp only [step, stepI]; rw [← hl]; simp only [s_iinc, hv, nx]; rw [show iI a + Int32.ofInt d9 = iI (a + d9) from iI_add a d9]) n
theorem q_iconst {v : Int} (n : Rn C k (pc + 1, is, lv, .int (iI v) :: st, h, c, s) r) : Rn C k (pc, (.iconst v, 1, x, y, z) :: is, lv, st, h, c, s) r := rn_next (by rfl) n
theorem q_bipush {v : Int} (hv : (Int8.ofInt v).toInt32 = iI v) (n : Rn C k (pc + 2, is, lv, .int (iI v) :: st, h, c, s) r) : Rn C k (pc, (.bipush v, 2, x, y, z) :: is, lv, st, h, c, s) r := rn_next (by show nx _ _ _ (.int (Int8.ofInt v).toInt32 :: _) _ _ _ = _; rw [hv]; rfl) n
theorem q_sipush {v : Int} (hv : (Int16.ofInt v).toInt32 = iI v) (n : Rn C k (pc + 3, is, lv, .int (iI v) :: st, h, c, s) r) : Rn C k (pc, (.sipush v, 3, x, y, z) :: is, lv, st, h, c, s) r := rn_next (by show nx _ _ _ (.int (Int16.ofInt v).toInt32 :: _) _ _ _ = _; rw [hv]; rfl) n
theorem q_iadd {a b : Int} (n : Rn C k (pc + 1, is, lv, .int (iI (a + b)) :: st, h, c, s) r) : Rn C k (pc, (.iadd, 1, x, y, z) :: is, lv, .int (iI b) :: .int (iI a) :: st, h, c, s) r := rn_next (by rw [← iI_add]; rfl) n
theorem q_isub {a b : Int} (n : Rn C k (pc + 1, is, lv, .int (iI (a - b)) :: st, h, c, s) r) : Rn C k (pc, (.isub, 1, x, y, z) :: is, lv, .int (iI b) :: .int (iI a) :: st, h, c, s) r := rn_next (by rw [← iI_sub]; rfl) n
theorem q_imul {a b : Int} (n : Rn C k (pc + 1, is, lv, .int (iI (a * b)) :: st, h, c, s) r) : Rn C k (pc, (.imul, 1, x, y, z) :: is, lv, .int (iI b) :: .int (iI a) :: st, h, c, s) r := rn_next (by rw [← iI_mul]; rfl) n
theorem q_ineg {a : Int} (n : Rn C k (pc + 1, is, lv, .int (iI (-a)) :: st, h, c, s) r) : Rn C k (pc, (.ineg, 1, x, y, z) :: is, lv, .int (iI a) :: st, h, c, s) r := rn_next (by rw [← iI_neg]; rfl) n
theorem q_irem {a b v : Int} (ha : rg a) (hb : rg b) (h0 : b ≠ 0) (hv : a.tmod b = v) (n : Rn C k (pc + 1, is, lv, .int (iI v) :: st, h, c, s) r) : Rn C k (pc, (.irem, 1, x, y, z) :: is, lv, .int (iI b) :: .int (iI a) :: st, h, c, s) r := rn_next (by subst hv; simp only [step, stepI]; simp only [s_div]; rw [if_neg (by rw [show (0 : Int32) = iI 0 from rfl, iI_eq hb ⟨by omega, by omega⟩]; exact h0)]; rw [iI_rem ha hb]; rfl) n
theorem q_idiv {a b v : Int} (ha : rg a) (hb : rg b) (h0 : b ≠ 0) (hv : a.tdiv b = v) (n : Rn C k (pc + 1, is, lv, .int (iI v) :: st, h, c, s) r) : Rn C k (pc, (.idiv, 1, x, y, z) :: is, lv, .int (iI b) :: .int (iI a) :: st, h, c, s) r := rn_next (by subst hv; simp only [step, stepI]; simp only [s_div]; rw [if_neg (by rw [show (0 : Int32) = iI 0 from rfl, iI_eq hb ⟨by omega, by omega⟩]; exact h0)]; rw [iI_tdiv ha hb]; rfl) n
theorem q_iand {a b v : Int32} (hv : a &&& b = v) (n : Rn C k (pc + 1, is, lv, .int v :: st, h, c, s) r) : Rn C k (pc, (.iand, 1, x, y, z) :: is, lv, .int b :: .int a :: st, h, c, s) r := rn_next (by rw [← hv]; rfl) n
theorem q_ishr {a b v : Int32} (hv : a >>> (b &&& 31) = v) (n : Rn C k (pc + 1, is, lv, .int v :: st, h, c, s) r) : Rn C k (pc, (.ishr, 1, x, y, z) :: is, lv, .int b :: .int a :: st, h, c, s) r := rn_next (by rw [← hv]; rfl) n
theorem q_i2l {a : Int32} (n : Rn C k (pc + 1, is, lv, .long a.toInt64 :: st, h, c, s) r) : Rn C k (pc, (.i2l, 1, x, y, z) :: is, lv, .int a :: st, h, c, s) r := rn_next (by rfl) n
theorem q_lcmp {a b : Int64} (n : Rn C k (pc + 1, is, lv, .int (lg_cmp a b) :: st, h, c, s) r) : Rn C k (pc, (.lcmp, 1, x, y, z) :: is, lv, .long b :: .long a :: st, h, c, s) r := rn_next (by rfl) n
theorem q_dup {v : Value} (hv : v.category = 1) (n : Rn C k (pc + 1, is, lv, v :: v :: st, h, c, s) r) : Rn C k (pc, (.dup, 1, x, y, z) :: is, lv, v :: st, h, c, s) r := rn_next (by simp only [step, stepI]; simp only [s_dup, hv, if_true, nx]) n
theorem q_dup2 {v w : Value} (hv : v.category = 1) (hw : w.category = 1) (n : Rn C k (pc + 1, is, lv, v :: w :: v :: w :: st, h, c, s) r) : Rn C k (pc, (.dup2, 1, x, y, z) :: is, lv, v :: w :: st, h, c, s) r := rn_next (by simp only [step, stepI]; simp only [s_dup2, hv, hw, and_self, if_true, nx]) n
theorem q_pop {v : Value} (hv : v.category = 1) (n : Rn C k (pc + 1, is, lv, st, h, c, s) r) : Rn C k (pc, (.pop, 1, x, y, z) :: is, lv, v :: st, h, c, s) r := rn_next (by simp only [step, stepI]; simp only [s_pop, hv, if_true, nx]) n
theorem q_goto {off : Int} {t : Nat} (ht : mk_tg pc off = some t) (n : Rn C k (t, [], lv, st, h, c, s) r) : Rn C k (pc, (.goto off, 3, x, y, z) :: is, lv, st, h, c, s) r := rn_next (by show jp _ _ _ _ _ _ _ = _; simp only [jp, ht, nx]) n
theorem q_icmp_eq {off : Int} {a b : Int} {t : Nat} (ha : rg a) (hb : rg b) (ht : mk_tg pc off = some t) (n1 : a = b → Rn C k (t, [], lv, st, h, c, s) r) (n2 : a ≠ b → Rn C k (pc + 3, is, lv, st, h, c, s) r) : Rn C k (pc, (.if_icmp .eq off, 3, x, y, z) :: is, lv, .int (iI b) :: .int (iI a) :: st, h, c, s) r := by
  have hf : iI a = iI b ↔ a = b := iI_eq ha hb
  by_cases q : a = b
  · refine rn_next ?_ (n1 q)
    simp only [step, stepI]
    simp only [s_icmp, ht, icm, decide_eq_true_eq, Bool.not_eq_true', decide_eq_false_iff_not, hf, nx]
    rw [if_pos q]
  · refine rn_next ?_ (n2 (by omega))
    simp only [step, stepI]
    simp only [s_icmp, ht, icm, decide_eq_true_eq, Bool.not_eq_true', decide_eq_false_iff_not, hf, nx]
    rw [if_neg q]
theorem q_if_eq {off : Int} {a : Int} {t : Nat} (ha : rg a) (ht : mk_tg pc off = some t) (n1 : a = 0 → Rn C k (t, [], lv, st, h, c, s) r) (n2 : a ≠ 0 → Rn C k (pc + 3, is, lv, st, h, c, s) r) : Rn C k (pc, (.ifCond .eq off, 3, x, y, z) :: is, lv, .int (iI a) :: st, h, c, s) r := by
  have hf : iI a = iI 0 ↔ a = 0 := iI_eq ha ⟨by omega, by omega⟩
  by_cases q : a = 0
  · refine rn_next ?_ (n1 q)
    simp only [step, stepI]
    have z0 : (0 : Int32) = iI 0 := rfl
    simp only [s_if, ht, icm, z0, decide_eq_true_eq, Bool.not_eq_true', decide_eq_false_iff_not, hf, nx]
    rw [if_pos q]
  · refine rn_next ?_ (n2 (by omega))
    simp only [step, stepI]
    have z0 : (0 : Int32) = iI 0 := rfl
    simp only [s_if, ht, icm, z0, decide_eq_true_eq, Bool.not_eq_true', decide_eq_false_iff_not, hf, nx]
    rw [if_neg q]
theorem q_icmp_ne {off : Int} {a b : Int} {t : Nat} (ha : rg a) (hb : rg b) (ht : mk_tg pc off = some t) (n1 : a ≠ b → Rn C k (t, [], lv, st, h, c, s) r) (n2 : a = b → Rn C k (pc + 3, is, lv, st, h, c, s) r) : Rn C k (pc, (.if_icmp .ne off, 3, x, y, z) :: is, lv, .int (iI b) :: .int (iI a) :: st, h, c, s) r := by
  have hf : iI a = iI b ↔ a = b := iI_eq ha hb
  by_cases q : a ≠ b
  · refine rn_next ?_ (n1 q)
    simp only [step, stepI]
    simp only [s_icmp, ht, icm, decide_eq_true_eq, Bool.not_eq_true', decide_eq_false_iff_not, hf, nx]
    rw [if_pos q]
  · refine rn_next ?_ (n2 (by omega))
    simp only [step, stepI]
    simp only [s_icmp, ht, icm, decide_eq_true_eq, Bool.not_eq_true', decide_eq_false_iff_not, hf, nx]
    rw [if_neg q]
theorem q_if_ne {off : Int} {a : Int} {t : Nat} (ha : rg a) (ht : mk_tg pc off = some t) (n1 : a ≠ 0 → Rn C k (t, [], lv, st, h, c, s) r) (n2 : a = 0 → Rn C k (pc + 3, is, lv, st, h, c, s) r) : Rn C k (pc, (.ifCond .ne off, 3, x, y, z) :: is, lv, .int (iI a) :: st, h, c, s) r := by
  have hf : iI a = iI 0 ↔ a = 0 := iI_eq ha ⟨by omega, by omega⟩
  by_cases q : a ≠ 0
  · refine rn_next ?_ (n1 q)
    simp only [step, stepI]
    have z0 : (0 : Int32) = iI 0 := rfl
    simp only [s_if, ht, icm, z0, decide_eq_true_eq, Bool.not_eq_true', decide_eq_false_iff_not, hf, nx]
    rw [if_pos q]
  · refine rn_next ?_ (n2 (by omega))
    simp only [step, stepI]
    have z0 : (0 : Int32) = iI 0 := rfl
    simp only [s_if, ht, icm, z0, decide_eq_true_eq, Bool.not_eq_true', decide_eq_false_iff_not, hf, nx]
    rw [if_neg q]
theorem q_icmp_lt {off : Int} {a b : Int} {t : Nat} (ha : rg a) (hb : rg b) (ht : mk_tg pc off = some t) (n1 : a < b → Rn C k (t, [], lv, st, h, c, s) r) (n2 : b ≤ a → Rn C k (pc + 3, is, lv, st, h, c, s) r) : Rn C k (pc, (.if_icmp .lt off, 3, x, y, z) :: is, lv, .int (iI b) :: .int (iI a) :: st, h, c, s) r := by
  have hf : iI a < iI b ↔ a < b := iI_lt ha hb
  by_cases q : a < b
  · refine rn_next ?_ (n1 q)
    simp only [step, stepI]
    simp only [s_icmp, ht, icm, decide_eq_true_eq, Bool.not_eq_true', decide_eq_false_iff_not, hf, nx]
    rw [if_pos q]
  · refine rn_next ?_ (n2 (by omega))
    simp only [step, stepI]
    simp only [s_icmp, ht, icm, decide_eq_true_eq, Bool.not_eq_true', decide_eq_false_iff_not, hf, nx]
    rw [if_neg q]
theorem q_if_lt {off : Int} {a : Int} {t : Nat} (ha : rg a) (ht : mk_tg pc off = some t) (n1 : a < 0 → Rn C k (t, [], lv, st, h, c, s) r) (n2 : 0 ≤ a → Rn C k (pc + 3, is, lv, st, h, c, s) r) : Rn C k (pc, (.ifCond .lt off, 3, x, y, z) :: is, lv, .int (iI a) :: st, h, c, s) r := by
  have hf : iI a < iI 0 ↔ a < 0 := iI_lt ha ⟨by omega, by omega⟩
  by_cases q : a < 0
  · refine rn_next ?_ (n1 q)
    simp only [step, stepI]
    have z0 : (0 : Int32) = iI 0 := rfl
    simp only [s_if, ht, icm, z0, decide_eq_true_eq, Bool.not_eq_true', decide_eq_false_iff_not, hf, nx]
    rw [if_pos q]
  · refine rn_next ?_ (n2 (by omega))
    simp only [step, stepI]
    have z0 : (0 : Int32) = iI 0 := rfl
    simp only [s_if, ht, icm, z0, decide_eq_true_eq, Bool.not_eq_true', decide_eq_false_iff_not, hf, nx]
    rw [if_neg q]
theorem q_icmp_ge {off : Int} {a b : Int} {t : Nat} (ha : rg a) (hb : rg b) (ht : mk_tg pc off = some t) (n1 : b ≤ a → Rn C k (t, [], lv, st, h, c, s) r) (n2 : a < b → Rn C k (pc + 3, is, lv, st, h, c, s) r) : Rn C k (pc, (.if_icmp .ge off, 3, x, y, z) :: is, lv, .int (iI b) :: .int (iI a) :: st, h, c, s) r := by
  have hf : iI b ≤ iI a ↔ b ≤ a := iI_le hb ha
  by_cases q : b ≤ a
  · refine rn_next ?_ (n1 q)
    simp only [step, stepI]
    simp only [s_icmp, ht, icm, decide_eq_true_eq, Bool.not_eq_true', decide_eq_false_iff_not, hf, nx]
    rw [if_pos q]
  · refine rn_next ?_ (n2 (by omega))
    simp only [step, stepI]
    simp only [s_icmp, ht, icm, decide_eq_true_eq, Bool.not_eq_true', decide_eq_false_iff_not, hf, nx]
    rw [if_neg q]
theorem q_if_ge {off : Int} {a : Int} {t : Nat} (ha : rg a) (ht : mk_tg pc off = some t) (n1 : 0 ≤ a → Rn C k (t, [], lv, st, h, c, s) r) (n2 : a < 0 → Rn C k (pc + 3, is, lv, st, h, c, s) r) : Rn C k (pc, (.ifCond .ge off, 3, x, y, z) :: is, lv, .int (iI a) :: st, h, c, s) r := by
  have hf : iI 0 ≤ iI a ↔ 0 ≤ a := iI_le ⟨by omega, by omega⟩ ha
  by_cases q : 0 ≤ a
  · refine rn_next ?_ (n1 q)
    simp only [step, stepI]
    have z0 : (0 : Int32) = iI 0 := rfl
    simp only [s_if, ht, icm, z0, decide_eq_true_eq, Bool.not_eq_true', decide_eq_false_iff_not, hf, nx]
    rw [if_pos q]
  · refine rn_next ?_ (n2 (by omega))
    simp only [step, stepI]
    have z0 : (0 : Int32) = iI 0 := rfl
    simp only [s_if, ht, icm, z0, decide_eq_true_eq, Bool.not_eq_true', decide_eq_false_iff_not, hf, nx]
    rw [if_neg q]
theorem q_icmp_gt {off : Int} {a b : Int} {t : Nat} (ha : rg a) (hb : rg b) (ht : mk_tg pc off = some t) (n1 : b < a → Rn C k (t, [], lv, st, h, c, s) r) (n2 : a ≤ b → Rn C k (pc + 3, is, lv, st, h, c, s) r) : Rn C k (pc, (.if_icmp .gt off, 3, x, y, z) :: is, lv, .int (iI b) :: .int (iI a) :: st, h, c, s) r := by
  have hf : iI b < iI a ↔ b < a := iI_lt hb ha
  by_cases q : b < a
  · refine rn_next ?_ (n1 q)
    simp only [step, stepI]
    simp only [s_icmp, ht, icm, decide_eq_true_eq, Bool.not_eq_true', decide_eq_false_iff_not, hf, nx]
    rw [if_pos q]
  · refine rn_next ?_ (n2 (by omega))
    simp only [step, stepI]
    simp only [s_icmp, ht, icm, decide_eq_true_eq, Bool.not_eq_true', decide_eq_false_iff_not, hf, nx]
    rw [if_neg q]
theorem q_if_gt {off : Int} {a : Int} {t : Nat} (ha : rg a) (ht : mk_tg pc off = some t) (n1 : 0 < a → Rn C k (t, [], lv, st, h, c, s) r) (n2 : a ≤ 0 → Rn C k (pc + 3, is, lv, st, h, c, s) r) : Rn C k (pc, (.ifCond .gt off, 3, x, y, z) :: is, lv, .int (iI a) :: st, h, c, s) r := by
  have hf : iI 0 < iI a ↔ 0 < a := iI_lt ⟨by omega, by omega⟩ ha
  by_cases q : 0 < a
  · refine rn_next ?_ (n1 q)
    simp only [step, stepI]
    have z0 : (0 : Int32) = iI 0 := rfl
    simp only [s_if, ht, icm, z0, decide_eq_true_eq, Bool.not_eq_true', decide_eq_false_iff_not, hf, nx]
    rw [if_pos q]
  · refine rn_next ?_ (n2 (by omega))
    simp only [step, stepI]
    have z0 : (0 : Int32) = iI 0 := rfl
    simp only [s_if, ht, icm, z0, decide_eq_true_eq, Bool.not_eq_true', decide_eq_false_iff_not, hf, nx]
    rw [if_neg q]
theorem q_icmp_le {off : Int} {a b : Int} {t : Nat} (ha : rg a) (hb : rg b) (ht : mk_tg pc off = some t) (n1 : a ≤ b → Rn C k (t, [], lv, st, h, c, s) r) (n2 : b < a → Rn C k (pc + 3, is, lv, st, h, c, s) r) : Rn C k (pc, (.if_icmp .le off, 3, x, y, z) :: is, lv, .int (iI b) :: .int (iI a) :: st, h, c, s) r := by
  have hf : iI a ≤ iI b ↔ a ≤ b := iI_le ha hb
  by_cases q : a ≤ b
  · refine rn_next ?_ (n1 q)
    simp only [step, stepI]
    simp only [s_icmp, ht, icm, decide_eq_true_eq, Bool.not_eq_true', decide_eq_false_iff_not, hf, nx]
    rw [if_pos q]
  · refine rn_next ?_ (n2 (by omega))
    simp only [step, stepI]
    simp only [s_icmp, ht, icm, decide_eq_true_eq, Bool.not_eq_true', decide_eq_false_iff_not, hf, nx]
    rw [if_neg q]
theorem q_if_le {off : Int} {a : Int} {t : Nat} (ha : rg a) (ht : mk_tg pc off = some t) (n1 : a ≤ 0 → Rn C k (t, [], lv, st, h, c, s) r) (n2 : 0 < a → Rn C k (pc + 3, is, lv, st, h, c, s) r) : Rn C k (pc, (.ifCond .le off, 3, x, y, z) :: is, lv, .int (iI a) :: st, h, c, s) r := by
  have hf : iI a ≤ iI 0 ↔ a ≤ 0 := iI_le ha ⟨by omega, by omega⟩
  by_cases q : a ≤ 0
  · refine rn_next ?_ (n1 q)
    simp only [step, stepI]
    have z0 : (0 : Int32) = iI 0 := rfl
    simp only [s_if, ht, icm, z0, decide_eq_true_eq, Bool.not_eq_true', decide_eq_false_iff_not, hf, nx]
    rw [if_pos q]
  · refine rn_next ?_ (n2 (by omega))
    simp only [step, stepI]
    have z0 : (0 : Int32) = iI 0 := rfl
    simp only [s_if, ht, icm, z0, decide_eq_true_eq, Bool.not_eq_true', decide_eq_false_iff_not, hf, nx]
    rw [if_neg q]

theorem getD_le {l : List (Nat × Nat)} (h : ∀ q ∈ l, q.2 ≤ 100000) (i : Nat) : (l.getD i (0, 0)).2 ≤ 100000 := by
  rw [List.getD_eq_getElem?_getD]
  cases q : l[i]? with
  | none => exact Nat.zero_le _
  | some v => exact h v (List.mem_of_getElem? q)
theorem SH_w {a t w : Nat} (hs : SH a = (t, w)) : w ≤ 100000 := by
  have h : (SH a).2 ≤ 100000 := by
    unfold SH
    split
    · exact getD_le (by decide) _
    · split
      · exact getD_le (by decide) _
      · exact Nat.zero_le _
  rw [hs] at h
  exact h
/-- fields -/
theorem q_getI {ix a ci w : Nat} {v : Int} (hs : SH a = (10 + ci, w)) (hf : (sf ci)[y]? = some false) (hv : vF (m a y) = v) (n : Rn C k (pc + 3, is, lv, .int (iI v) :: st, hpM S fz (m, p), c, s) r) : Rn C k (pc, (.getfield ix, 3, ci, y, z) :: is, lv, .ref a :: st, hpM S fz (m, p), c, s) r := rn_next (by
  subst hv
  simp only [step, stepI]
  simp only [s_getf, hp_obj hs, flds_at hf, nx]
  rfl) n
theorem q_getR {ix a ci w q : Nat} (hs : SH a = (10 + ci, w)) (hf : (sf ci)[y]? = some true) (hq : p a y = some q) (n : Rn C k (pc + 3, is, lv, .ref q :: st, hpM S fz (m, p), c, s) r) : Rn C k (pc, (.getfield ix, 3, ci, y, z) :: is, lv, .ref a :: st, hpM S fz (m, p), c, s) r := rn_next (by
  simp only [step, stepI]
  simp only [s_getf, hp_obj hs, flds_at hf, hq, nx]
  rfl) n
theorem q_putI {ix a ci w : Nat} {v : Int} {xx : F} (hs : SH a = (10 + ci, w)) (hf : (sf ci)[y]? = some false) (hz : z % 2 = 0) (hv : v = vF xx) (n : Rn C k (pc + 3, is, lv, st, hpM S fz (w1 m a y xx, p), c, s) r) : Rn C k (pc, (.putfield ix, 3, ci, y, z) :: is, lv, .int (iI v) :: .ref a :: st, hpM S fz (m, p), c, s) r := rn_next (by
  subst hv
  simp only [step, stepI]
  have hl : y < (flds ci a (m, p)).length := by rw [flds_len]; exact (List.getElem?_eq_some_iff.mp hf).1
  simp only [s_putf, hp_obj hs, hl, tyv, hz, hup_F1 hs hf, nx]
  rfl) n
theorem q_putR {ix a ci w q : Nat} (hs : SH a = (10 + ci, w)) (hf : (sf ci)[y]? = some true) (hz : z % 2 = 1) (n : Rn C k (pc + 3, is, lv, st, hpM S fz (m, w2 p a y (some q)), c, s) r) : Rn C k (pc, (.putfield ix, 3, ci, y, z) :: is, lv, .ref q :: .ref a :: st, hpM S fz (m, p), c, s) r := rn_next (by
  simp only [step, stepI]
  have hl : y < (flds ci a (m, p)).length := by rw [flds_len]; exact (List.getElem?_eq_some_iff.mp hf).1
  simp only [s_putf, hp_obj hs, hl, tyv, hz, hup_F2 hs hf, nx]
  rfl) n
/-- arrays -/
theorem q_iald {a w j : Nat} {e v : Int} (hs : SH a = (1, w)) (hj : e = (j : Int)) (hl : j < w) (hv : vF (m a j) = v) (n : Rn C k (pc + 1, is, lv, .int (iI v) :: st, hpM S fz (m, p), c, s) r) : Rn C k (pc, (.iaload, 1, x, y, z) :: is, lv, .int (iI e) :: .ref a :: st, hpM S fz (m, p), c, s) r := rn_next (by
  subst hj
  subst hv
  have hw := SH_w hs
  simp only [step, stepI]
  simp only [s_iald, hp_I hs]
  rw [if_neg (iI_in hl hw), iI_clamp (by omega)]
  rfl) n
theorem q_iast {a w j : Nat} {e v : Int} {xx : F} (hs : SH a = (1, w)) (hj : e = (j : Int)) (hl : j < w) (hv : v = vF xx) (n : Rn C k (pc + 1, is, lv, st, hpM S fz (w1 m a j xx, p), c, s) r) : Rn C k (pc, (.iastore, 1, x, y, z) :: is, lv, .int (iI v) :: .int (iI e) :: .ref a :: st, hpM S fz (m, p), c, s) r := rn_next (by
  subst hj
  subst hv
  have hw := SH_w hs
  simp only [step, stepI]
  simp only [s_iast, hp_I hs]
  rw [if_neg (SH_ne hs (by decide)), if_neg (iI_in hl hw), iI_clamp (by omega), hup_u1 hs]
  rfl) n
theorem q_aald {a w j q t : Nat} {e : Int} (hs : SH a = (3 + t, w)) (ht : t < 2) (hj : e = (j : Int)) (hl : j < w) (hq : p a j = some q) (n : Rn C k (pc + 1, is, lv, .ref q :: st, hpM S fz (m, p), c, s) r) : Rn C k (pc, (.aaload, 1, x, y, z) :: is, lv, .int (iI e) :: .ref a :: st, hpM S fz (m, p), c, s) r := rn_next (by
  subst hj
  have hw := SH_w hs
  simp only [step, stepI]
  simp only [s_aald, hp_Q hs ht]
  rw [if_neg (iI_in hl hw), iI_clamp (by omega), hq]
  rfl) n
theorem q_aast {a w j q w' : Nat} {e : Int} (hs : SH a = (3, w)) (hj : e = (j : Int)) (hl : j < w) (hq : SH q = (1, w')) (n : Rn C k (pc + 1, is, lv, st, hpM S fz (m, w2 p a j (some q)), c, s) r) : Rn C k (pc, (.aastore, 1, x, y, z) :: is, lv, .ref q :: .int (iI e) :: .ref a :: st, hpM S fz (m, p), c, s) r := rn_next (by
  subst hj
  have hw := SH_w hs
  simp only [step, stepI]
  have hs' : SH a = (3 + 0, w) := hs
  simp only [s_aast, hp_Q hs' (by decide : 0 < 2), hp_I hq]
  have h0 : q ≠ 0 := SH_ne hq (by decide)
  have h1 := iI_in hl hw
  rw [if_neg (fun z => z.elim (fun z => h1 (Or.inl z)) (fun z => z.elim (fun z => h1 (Or.inr z)) h0)), iI_clamp (by omega), hup_Q hs' (by decide)]
  rfl) n
theorem q_ireturn {v : Int} (hx : x = 0 ∨ v = 0 ∨ v = 1) : Rn C k (pc, (.ireturn, 1, x, y, z) :: is, lv, [.int (iI v)], h, c, s) (.inl (some (.int (iI v))), h, c, s) := rn_end (by
  simp only [step, stepI]
  have hx' : x = 0 ∨ iI v = 0 ∨ iI v = 1 := by
    rcases hx with hx | rfl | rfl
    · exact Or.inl hx
    · exact Or.inr (Or.inl rfl)
    · exact Or.inr (Or.inr rfl)
  simp only [s_iret]
  rw [if_pos hx']
  rfl)
theorem q_areturn {a : Nat} : Rn C k (pc, (.areturn, 1, x, y, z) :: is, lv, [.ref a], h, c, s) (.inl (some (.ref a)), h, c, s) := rn_end rfl
theorem q_return : Rn C k (pc, (.return_, 1, x, y, z) :: is, lv, [], h, c, s) (.inl none, h, c, s) := rn_end rfl
theorem inv_eq {q m : Nat} {ar rest : List Value} (hst : st = ar.reverse ++ rest) (hm : ar.length = m) (ha : okar ar) (hr : (rest.map fun v => v.category).sum ≤ 8) : s_inv q m pc is lv st h c s = some (.inr (.inr (q, ar, (pc, is, lv, rest, h, c, s)))) := by
  subst hst
  have hl : ar.reverse.length = m := by rw [List.length_reverse]; exact hm
  have e1 : (ar.reverse ++ rest).take m = ar.reverse := by rw [← hl, List.take_left]
  have e2 : (ar.reverse ++ rest).drop m = rest := by rw [← hl, List.drop_left]
  unfold s_inv
  rw [e1, e2, List.reverse_reverse]
  refine if_pos ⟨by rw [List.length_append]; omega, hr, ?_⟩
  rw [List.all_eq_true]
  intro v hv
  have := ha v (List.mem_reverse.mp hv)
  simp [this]
theorem q_invS {ix : Nat} {ar rest : List Value} {v : Option Value} {h' : MH} {c' s' : Nat} (hq : C x ar h (.inl v, h', c', s')) (hst : st = ar.reverse ++ rest) (hm : ar.length = y) (ha : okar ar) (hr : (rest.map fun v => v.category).sum ≤ 8) (n : Rn C k (pc + 3, is, lv, v.toList ++ rest, h', c + c', s + s') r) : Rn C k (pc, (.invokestatic ix, 3, x, y, z) :: is, lv, st, h, c, s) r := rn_call (inv_eq hst hm ha hr) hq n
theorem invO_eq {ix a w : Nat} {ar rest : List Value} (hs : SH a = (10 + z, w)) (hst : st = ar.reverse ++ .ref a :: rest) (hm : ar.length = y) (ha : okar ar) (hr : (rest.map fun v => v.category).sum ≤ 8) : step k (pc, (.invokevirtual ix, 3, x, y, z) :: is, lv, st, hpM S fz (m, p), c, s) = some (.inr (.inr (x, .ref a :: ar, (pc + 3, is, lv, rest, hpM S fz (m, p), c, s)))) := by
  simp only [step, stepI]
  have e1 : st[y]? = some (.ref a) := by
    rw [hst, ← hm, List.getElem?_append_right (by rw [List.length_reverse]; exact Nat.le_refl _), List.length_reverse, Nat.sub_self]
    rfl
  simp only [s_invO, e1, hp_obj hs, if_true]
  exact inv_eq (ar := .ref a :: ar) (by rw [hst]; simp) (by rw [List.length_cons, hm]) (okar_cons rfl ha) hr
theorem q_invV {ix a w : Nat} {ar rest : List Value} {v : Option Value} {h' : MH} {c' s' : Nat} (hq : C x (.ref a :: ar) (hpM S fz (m, p)) (.inl v, h', c', s')) (hs : SH a = (10 + z, w)) (hst : st = ar.reverse ++ .ref a :: rest) (hm : ar.length = y) (ha : okar ar) (hr : (rest.map fun v => v.category).sum ≤ 8) (n : Rn C k (pc + 3, is, lv, v.toList ++ rest, h', c + c', s + s') r) : Rn C k (pc, (.invokevirtual ix, 3, x, y, z) :: is, lv, st, hpM S fz (m, p), c, s) r := rn_call (invO_eq hs hst hm ha hr) hq n
theorem q_invSx {ix E : Nat} {ar rest : List Value} {h' : MH} {c' s' : Nat} (hq : C x ar h (.inr E, h', c', s')) (hh : m_hh k = []) (hst : st = ar.reverse ++ rest) (hm : ar.length = y) (ha : okar ar) (hr : (rest.map fun v => v.category).sum ≤ 8) : Rn C k (pc, (.invokestatic ix, 3, x, y, z) :: is, lv, st, h, c, s) (.inr E, h', c + c', s + s') := rn_thrown hh (inv_eq hst hm ha hr) hq
theorem q_invVx {ix E a w : Nat} {ar rest : List Value} {h' : MH} {c' s' : Nat} (hq : C x (.ref a :: ar) (hpM S fz (m, p)) (.inr E, h', c', s')) (hh : m_hh k = []) (hs : SH a = (10 + z, w)) (hst : st = ar.reverse ++ .ref a :: rest) (hm : ar.length = y) (ha : okar ar) (hr : (rest.map fun v => v.category).sum ≤ 8) : Rn C k (pc, (.invokevirtual ix, 3, x, y, z) :: is, lv, st, hpM S fz (m, p), c, s) (.inr E, h', c + c', s + s') := rn_thrown hh (invO_eq hs hst hm ha hr) hq
/-- a throw -/
theorem q_throw {ix si ic : Nat} {a1 a2 a3 a4 : Nat × Nat × Nat} {tl : List Ent} (hx : ¬ x < 8) (ht : (m_cn k, x - 100, ix, ic, si) ∈ thrT) (his : is = (.dup, 1, a1) :: (.ldc si, 2, a2) :: (.invokespecial ic, 3, a3) :: (.athrow, 1, a4) :: tl) : Rn C k (pc, (.new ix, 3, x, y, z) :: is, lv, [], h, c, s) (.inr (x - 100), hth h, c + 1, s + 6) := rn_end (by
  subst his
  simp only [step, stepI]
  simp only [s_new]
  rw [if_neg hx, if_pos ⟨ht, trivial⟩])
theorem q_throwW {ix si ic : Nat} {a1 a2 a3 a4 : Nat × Nat × Nat} {tl : List Ent} (hx : ¬ x < 8) (ht : (m_cn k, x - 100, ix, ic, si) ∈ thrT) (his : is = (.dup, 1, a1) :: (.ldc_w si, 3, a2) :: (.invokespecial ic, 3, a3) :: (.athrow, 1, a4) :: tl) : Rn C k (pc, (.new ix, 3, x, y, z) :: is, lv, [], h, c, s) (.inr (x - 100), hth h, c + 1, s + 6) := rn_end (by
  subst his
  simp only [step, stepI]
  simp only [s_new]
  rw [if_neg hx, if_pos ⟨ht, trivial⟩])
theorem q_table {d9 lo hi : Int} {offs : Array Int} {len t : Nat} {v : Int32} (ht : (if v.toInt < lo ∨ hi < v.toInt then mk_tg pc d9 else (offs[(v.toInt - lo).toNat]?).bind (mk_tg pc)) = some t) (n : Rn C k (t, [], lv, st, h, c, s) r) : Rn C k (pc, (.tableswitch d9 lo hi offs, len, x, y, z) :: is, lv, .int v :: st, h, c, s) r := rn_next (by
  simp only [step, stepI]
  simp only [s_table, jp, nx]
  by_cases q : v.toInt < lo ∨ hi < v.toInt
  · rw [if_pos q] at ht
    rw [if_pos q, ht]
  · rw [if_neg q] at ht
    rw [if_neg q]
    cases ho : offs[(v.toInt - lo).toNat]? with
    | none => rw [ho] at ht; cases ht
    | some o =>
      rw [ho] at ht
      simp only [Option.bind_some] at ht
      simp only [ht]) n
end RR
/-- a contract: method k returns and leaves what Q says -/
def Ct (d k : Nat) (S : Env) (fz : Bool) (ar : List Value) (m : M1) (p : M2) (Q : Option Value → M1 → M2 → Prop) : Prop := ∃ v m' p', Ev d k ar (hpM S fz (m, p)) (.inl v, hpM S fz (m', p'), 0, 0) ∧ Q v m' p'
/-- a contract: method k throws E and changes nothing -/
def ths (S : Env) : Env := (S.1 + 1, S.2)
def Tw (d k : Nat) (S : Env) (fz : Bool) (ar : List Value) (m : M1) (p : M2) (E : Nat) : Prop := Ev d k ar (hpM S fz (m, p)) (.inr E, hpM (ths S) fz (m, p), 1, 6)
theorem hth_hp {S : Env} {fz : Bool} {m : M1} {p : M2} : hth (hpM S fz (m, p)) = hpM (ths S) fz (m, p) := rfl
