/-! Instructions that call nothing and end nothing: if the model goes on, so does the machine. -/
def okS (k pc : Nat) (is : List Ent) : Prop := okB (m_b k) (m_cn k) (m_kd k) (rkf (m_ret k)) pc is = true
theorem okS.nil {k pc : Nat} : okS k pc [] := rfl
theorem okS.dec {k pc len x y z : Nat} {i : ClassFile.Instr} {is : List Ent} (h : okS k pc ((i, len, x, y, z) :: is)) : decode (m_b k) pc = .ok (i, len) := by
  simp only [okS, okB, Bool.and_eq_true, decide_eq_true_eq] at h
  exact h.1.1
theorem okS.ent {k pc len x y z : Nat} {i : ClassFile.Instr} {is : List Ent} (h : okS k pc ((i, len, x, y, z) :: is)) : okE (m_cn k) (m_kd k) (rkf (m_ret k)) (i, len, x, y, z) = true := by
  simp only [okS, okB, Bool.and_eq_true, decide_eq_true_eq] at h
  exact h.1.2
theorem okS.tail {k pc len x y z : Nat} {i : ClassFile.Instr} {is : List Ent} (h : okS k pc ((i, len, x, y, z) :: is)) : okS k (pc + len) is := by
  simp only [okS, okB, Bool.and_eq_true, decide_eq_true_eq] at h
  exact h.2
/-- the machine comes from here, with what the model has here, to a state with Q -/
def MW (p : Program) (l : Launch) (e : Env) (R : Room) (s : State) (m : MethodId) (args : Array Value) (below : List Frame) (meth : Method) (c : Code) (D : va_G) (K : KK) (b sz L : Nat) (xs : Nat → Int32) (Q : State → Prop) (k : Nat) (pc : Nat) (lv : List (Option Value)) (st : List Value) (h : MH) (c0 s0 : Nat) : Prop :=
  ∀ H locs ls, RH D K b sz L xs s.heap h H locs → (h.2.1 = false → s.heap.size + c0 = sz + h.1) → LV b sz (m_L k) lv ls → W p l e R s m args below meth c H locs c0 s0 Q (F0 m pc ls (st.map (cv b sz)))
section PU
variable {p : Program} {l : Launch} {e : Env} {R : Room} {s : State} {m : MethodId} {args : Array Value} {below : List Frame} {meth : Method} {c : Code} {D : va_G} {K : KK} {b sz L : Nat} {xs : Nat → Int32} {Q : State → Prop} {k : Nat}
variable {pc : Nat} {is : List Ent} {lv : List (Option Value)} {st : List Value} {h : MH} {c0 s0 : Nat} {o : Out}
theorem sd_iload_n (hx : p.tables.exec = Jvm.exec) (hb : c.code = m_b k) {n : Fin 4} (d : decode (m_b k) pc = .ok (.iload_n n, 1)) (hs : s_iload n (pc + 1) is lv st h c0 s0 = some o) (kn : ∀ pc' is' lv' st' h' c' s', o = .inl (pc', is', lv', st', h', c', s') → ((pc' = pc + 1 ∧ is' = is) ∨ is' = []) → MW p l e R s m args below meth c D K b sz L xs Q k pc' lv' st' h' c' s') : MW p l e R s m args below meth c D K b sz L xs Q k pc lv st h c0 s0 := by
  intro H locs ls hR hZ hL
  unfold s_iload at hs
  split at hs
  · next v hv =>
    simp only [nx, Option.some.injEq] at hs
    exact lv_iload_n hx hb d rfl ((hL.2.2 _ _ hv).1) (kn _ _ _ _ _ _ _ hs.symm (Or.inl ⟨rfl, rfl⟩) _ _ _ hR hZ hL)
  · cases hs
theorem sd_iload (hx : p.tables.exec = Jvm.exec) (hb : c.code = m_b k) {n : Nat} (d : decode (m_b k) pc = .ok (.iload n, 2)) (hs : s_iload n (pc + 2) is lv st h c0 s0 = some o) (kn : ∀ pc' is' lv' st' h' c' s', o = .inl (pc', is', lv', st', h', c', s') → ((pc' = pc + 2 ∧ is' = is) ∨ is' = []) → MW p l e R s m args below meth c D K b sz L xs Q k pc' lv' st' h' c' s') : MW p l e R s m args below meth c D K b sz L xs Q k pc lv st h c0 s0 := by
  intro H locs ls hR hZ hL
  unfold s_iload at hs
  split at hs
  · next v hv =>
    simp only [nx, Option.some.injEq] at hs
    exact lv_iload hx hb d ((hL.2.2 _ _ hv).1) (kn _ _ _ _ _ _ _ hs.symm (Or.inl ⟨rfl, rfl⟩) _ _ _ hR hZ hL)
  · cases hs
theorem sd_aload_n (hx : p.tables.exec = Jvm.exec) (hb : c.code = m_b k) {n : Fin 4} (d : decode (m_b k) pc = .ok (.aload_n n, 1)) (hs : s_aload n (pc + 1) is lv st h c0 s0 = some o) (kn : ∀ pc' is' lv' st' h' c' s', o = .inl (pc', is', lv', st', h', c', s') → ((pc' = pc + 1 ∧ is' = is) ∨ is' = []) → MW p l e R s m args below meth c D K b sz L xs Q k pc' lv' st' h' c' s') : MW p l e R s m args below meth c D K b sz L xs Q k pc lv st h c0 s0 := by
  intro H locs ls hR hZ hL
  unfold s_aload at hs
  split at hs
  · next v hv =>
    simp only [nx, Option.some.injEq] at hs
    exact lv_aload_n hx hb d rfl ((hL.2.2 _ _ hv).1) (kn _ _ _ _ _ _ _ hs.symm (Or.inl ⟨rfl, rfl⟩) _ _ _ hR hZ hL)
  · cases hs
theorem sd_aload (hx : p.tables.exec = Jvm.exec) (hb : c.code = m_b k) {n : Nat} (d : decode (m_b k) pc = .ok (.aload n, 2)) (hs : s_aload n (pc + 2) is lv st h c0 s0 = some o) (kn : ∀ pc' is' lv' st' h' c' s', o = .inl (pc', is', lv', st', h', c', s') → ((pc' = pc + 2 ∧ is' = is) ∨ is' = []) → MW p l e R s m args below meth c D K b sz L xs Q k pc' lv' st' h' c' s') : MW p l e R s m args below meth c D K b sz L xs Q k pc lv st h c0 s0 := by
  intro H locs ls hR hZ hL
  unfold s_aload at hs
  split at hs
  · next v hv =>
    simp only [nx, Option.some.injEq] at hs
    exact lv_aload hx hb d ((hL.2.2 _ _ hv).1) (kn _ _ _ _ _ _ _ hs.symm (Or.inl ⟨rfl, rfl⟩) _ _ _ hR hZ hL)
  · cases hs
theorem sd_istore_n (hx : p.tables.exec = Jvm.exec) (hb : c.code = m_b k) {n : Fin 4} (d : decode (m_b k) pc = .ok (.istore_n n, 1)) (hs : s_istore n (pc + 1) is lv st h c0 s0 = some o) (kn : ∀ pc' is' lv' st' h' c' s', o = .inl (pc', is', lv', st', h', c', s') → ((pc' = pc + 1 ∧ is' = is) ∨ is' = []) → MW p l e R s m args below meth c D K b sz L xs Q k pc' lv' st' h' c' s') : MW p l e R s m args below meth c D K b sz L xs Q k pc lv st h c0 s0 := by
  intro H locs ls hR hZ hL
  unfold s_istore at hs
  split at hs
  · next v st' =>
    split at hs
    · next hn =>
      simp only [nx, Option.some.injEq] at hs
      exact lv_istore_n hx hb d rfl hL.has (by rw [← hL.1]; exact hn) rfl (fun ls' h' => kn _ _ _ _ _ _ _ hs.symm (Or.inl ⟨rfl, rfl⟩) _ _ _ hR hZ (hL.store (some (.int v)) (fun w hw => by cases hw; exact ⟨rfl, rfl⟩) h'))
    · cases hs
  · cases hs
theorem sd_istore (hx : p.tables.exec = Jvm.exec) (hb : c.code = m_b k) {n : Nat} (d : decode (m_b k) pc = .ok (.istore n, 2)) (hs : s_istore n (pc + 2) is lv st h c0 s0 = some o) (kn : ∀ pc' is' lv' st' h' c' s', o = .inl (pc', is', lv', st', h', c', s') → ((pc' = pc + 2 ∧ is' = is) ∨ is' = []) → MW p l e R s m args below meth c D K b sz L xs Q k pc' lv' st' h' c' s') : MW p l e R s m args below meth c D K b sz L xs Q k pc lv st h c0 s0 := by
  intro H locs ls hR hZ hL
  unfold s_istore at hs
  split at hs
  · next v st' =>
    split at hs
    · next hn =>
      simp only [nx, Option.some.injEq] at hs
      exact lv_istore hx hb d hL.has (by rw [← hL.1]; exact hn) rfl (fun ls' h' => kn _ _ _ _ _ _ _ hs.symm (Or.inl ⟨rfl, rfl⟩) _ _ _ hR hZ (hL.store (some (.int v)) (fun w hw => by cases hw; exact ⟨rfl, rfl⟩) h'))
    · cases hs
  · cases hs
theorem sd_astore_n (hx : p.tables.exec = Jvm.exec) (hb : c.code = m_b k) {n : Fin 4} (d : decode (m_b k) pc = .ok (.astore_n n, 1)) (hs : s_astore n (pc + 1) is lv st h c0 s0 = some o) (kn : ∀ pc' is' lv' st' h' c' s', o = .inl (pc', is', lv', st', h', c', s') → ((pc' = pc + 1 ∧ is' = is) ∨ is' = []) → MW p l e R s m args below meth c D K b sz L xs Q k pc' lv' st' h' c' s') : MW p l e R s m args below meth c D K b sz L xs Q k pc lv st h c0 s0 := by
  intro H locs ls hR hZ hL
  unfold s_astore at hs
  split at hs
  · next v st' =>
    split at hs
    · next hn =>
      simp only [nx, Option.some.injEq] at hs
      exact lv_astore_n hx hb d rfl hL.has (by rw [← hL.1]; exact hn) rfl (fun ls' h' => kn _ _ _ _ _ _ _ hs.symm (Or.inl ⟨rfl, rfl⟩) _ _ _ hR hZ (hL.store (some (.ref v)) (fun w hw => by cases hw; exact ⟨rfl, rfl⟩) h'))
    · cases hs
  · cases hs
theorem sd_astore (hx : p.tables.exec = Jvm.exec) (hb : c.code = m_b k) {n : Nat} (d : decode (m_b k) pc = .ok (.astore n, 2)) (hs : s_astore n (pc + 2) is lv st h c0 s0 = some o) (kn : ∀ pc' is' lv' st' h' c' s', o = .inl (pc', is', lv', st', h', c', s') → ((pc' = pc + 2 ∧ is' = is) ∨ is' = []) → MW p l e R s m args below meth c D K b sz L xs Q k pc' lv' st' h' c' s') : MW p l e R s m args below meth c D K b sz L xs Q k pc lv st h c0 s0 := by
  intro H locs ls hR hZ hL
  unfold s_astore at hs
  split at hs
  · next v st' =>
    split at hs
    · next hn =>
      simp only [nx, Option.some.injEq] at hs
      exact lv_astore hx hb d hL.has (by rw [← hL.1]; exact hn) rfl (fun ls' h' => kn _ _ _ _ _ _ _ hs.symm (Or.inl ⟨rfl, rfl⟩) _ _ _ hR hZ (hL.store (some (.ref v)) (fun w hw => by cases hw; exact ⟨rfl, rfl⟩) h'))
    · cases hs
  · cases hs
theorem sd_iinc (hx : p.tables.exec = Jvm.exec) (hb : c.code = m_b k) {n : Nat} {d9 : Int} (d : decode (m_b k) pc = .ok (.iinc n d9, 3)) (hs : s_iinc n d9 (pc + 3) is lv st h c0 s0 = some o) (kn : ∀ pc' is' lv' st' h' c' s', o = .inl (pc', is', lv', st', h', c', s') → ((pc' = pc + 3 ∧ is' = is) ∨ is' = []) → MW p l e R s m args below meth c D K b sz L xs Q k pc' lv' st' h' c' s') : MW p l e R s m args below meth c D K b sz L xs Q k pc lv st h c0 s0 := by
  intro H locs ls hR hZ hL
  unfold s_iinc at hs
  split at hs
  · next v hv =>
    simp only [nx, Option.some.injEq] at hs
    have hm := lvl_in (b := b) (sz := sz) lv 0 n (.int v) hv
    rw [Nat.zero_add] at hm
    obtain ⟨i9, hi9⟩ := List.getElem?_of_mem hm
    have hn : n < lv.length := (List.getElem?_eq_some_iff.mp hv).1
    exact lv_iinc hx hb d hL.has hi9 rfl (by rw [← hL.1]; exact hn) rfl (fun ls' h' => kn _ _ _ _ _ _ _ hs.symm (Or.inl ⟨rfl, rfl⟩) _ _ _ hR hZ (hL.store (some (.int (v + Int32.ofInt d9))) (fun w hw => by cases hw; exact ⟨rfl, rfl⟩) h'))
  · cases hs
theorem sd_iconst (hx : p.tables.exec = Jvm.exec) (hb : c.code = m_b k) {n : Int} (d : decode (m_b k) pc = .ok (.iconst n, 1)) (hs : nx (pc + 1) is lv (.int (Int32.ofInt n) :: st) h c0 s0 = some o) (kn : ∀ pc' is' lv' st' h' c' s', o = .inl (pc', is', lv', st', h', c', s') → ((pc' = pc + 1 ∧ is' = is) ∨ is' = []) → MW p l e R s m args below meth c D K b sz L xs Q k pc' lv' st' h' c' s') : MW p l e R s m args below meth c D K b sz L xs Q k pc lv st h c0 s0 := by
  intro H locs ls hR hZ hL
  simp only [nx, Option.some.injEq] at hs
  exact lv_iconst hx hb d rfl (kn _ _ _ _ _ _ _ hs.symm (Or.inl ⟨rfl, rfl⟩) _ _ _ hR hZ hL)
theorem sd_bipush (hx : p.tables.exec = Jvm.exec) (hb : c.code = m_b k) {n : Int} (d : decode (m_b k) pc = .ok (.bipush n, 2)) (hs : nx (pc + 2) is lv (.int (Int8.ofInt n).toInt32 :: st) h c0 s0 = some o) (kn : ∀ pc' is' lv' st' h' c' s', o = .inl (pc', is', lv', st', h', c', s') → ((pc' = pc + 2 ∧ is' = is) ∨ is' = []) → MW p l e R s m args below meth c D K b sz L xs Q k pc' lv' st' h' c' s') : MW p l e R s m args below meth c D K b sz L xs Q k pc lv st h c0 s0 := by
  intro H locs ls hR hZ hL
  simp only [nx, Option.some.injEq] at hs
  exact lv_bipush hx hb d rfl (kn _ _ _ _ _ _ _ hs.symm (Or.inl ⟨rfl, rfl⟩) _ _ _ hR hZ hL)
theorem sd_sipush (hx : p.tables.exec = Jvm.exec) (hb : c.code = m_b k) {n : Int} (d : decode (m_b k) pc = .ok (.sipush n, 3)) (hs : nx (pc + 3) is lv (.int (Int16.ofInt n).toInt32 :: st) h c0 s0 = some o) (kn : ∀ pc' is' lv' st' h' c' s', o = .inl (pc', is', lv', st', h', c', s') → ((pc' = pc + 3 ∧ is' = is) ∨ is' = []) → MW p l e R s m args below meth c D K b sz L xs Q k pc' lv' st' h' c' s') : MW p l e R s m args below meth c D K b sz L xs Q k pc lv st h c0 s0 := by
  intro H locs ls hR hZ hL
  simp only [nx, Option.some.injEq] at hs
  exact lv_sipush hx hb d rfl (kn _ _ _ _ _ _ _ hs.symm (Or.inl ⟨rfl, rfl⟩) _ _ _ hR hZ hL)
theorem sd_iadd (hx : p.tables.exec = Jvm.exec) (hb : c.code = m_b k) (d : decode (m_b k) pc = .ok (.iadd, 1)) (hs : s_bin (· + ·) (pc + 1) is lv st h c0 s0 = some o) (kn : ∀ pc' is' lv' st' h' c' s', o = .inl (pc', is', lv', st', h', c', s') → ((pc' = pc + 1 ∧ is' = is) ∨ is' = []) → MW p l e R s m args below meth c D K b sz L xs Q k pc' lv' st' h' c' s') : MW p l e R s m args below meth c D K b sz L xs Q k pc lv st h c0 s0 := by
  intro H locs ls hR hZ hL
  unfold s_bin at hs
  split at hs
  · next y x st' =>
    simp only [nx, Option.some.injEq] at hs
    exact lv_iadd hx hb d (kn _ _ _ _ _ _ _ hs.symm (Or.inl ⟨rfl, rfl⟩) _ _ _ hR hZ hL)
  · cases hs
theorem sd_isub (hx : p.tables.exec = Jvm.exec) (hb : c.code = m_b k) (d : decode (m_b k) pc = .ok (.isub, 1)) (hs : s_bin (· - ·) (pc + 1) is lv st h c0 s0 = some o) (kn : ∀ pc' is' lv' st' h' c' s', o = .inl (pc', is', lv', st', h', c', s') → ((pc' = pc + 1 ∧ is' = is) ∨ is' = []) → MW p l e R s m args below meth c D K b sz L xs Q k pc' lv' st' h' c' s') : MW p l e R s m args below meth c D K b sz L xs Q k pc lv st h c0 s0 := by
  intro H locs ls hR hZ hL
  unfold s_bin at hs
  split at hs
  · next y x st' =>
    simp only [nx, Option.some.injEq] at hs
    exact lv_isub hx hb d (kn _ _ _ _ _ _ _ hs.symm (Or.inl ⟨rfl, rfl⟩) _ _ _ hR hZ hL)
  · cases hs
theorem sd_imul (hx : p.tables.exec = Jvm.exec) (hb : c.code = m_b k) (d : decode (m_b k) pc = .ok (.imul, 1)) (hs : s_bin (· * ·) (pc + 1) is lv st h c0 s0 = some o) (kn : ∀ pc' is' lv' st' h' c' s', o = .inl (pc', is', lv', st', h', c', s') → ((pc' = pc + 1 ∧ is' = is) ∨ is' = []) → MW p l e R s m args below meth c D K b sz L xs Q k pc' lv' st' h' c' s') : MW p l e R s m args below meth c D K b sz L xs Q k pc lv st h c0 s0 := by
  intro H locs ls hR hZ hL
  unfold s_bin at hs
  split at hs
  · next y x st' =>
    simp only [nx, Option.some.injEq] at hs
    exact lv_imul hx hb d (kn _ _ _ _ _ _ _ hs.symm (Or.inl ⟨rfl, rfl⟩) _ _ _ hR hZ hL)
  · cases hs
theorem sd_iand (hx : p.tables.exec = Jvm.exec) (hb : c.code = m_b k) (d : decode (m_b k) pc = .ok (.iand, 1)) (hs : s_bin (· &&& ·) (pc + 1) is lv st h c0 s0 = some o) (kn : ∀ pc' is' lv' st' h' c' s', o = .inl (pc', is', lv', st', h', c', s') → ((pc' = pc + 1 ∧ is' = is) ∨ is' = []) → MW p l e R s m args below meth c D K b sz L xs Q k pc' lv' st' h' c' s') : MW p l e R s m args below meth c D K b sz L xs Q k pc lv st h c0 s0 := by
  intro H locs ls hR hZ hL
  unfold s_bin at hs
  split at hs
  · next y x st' =>
    simp only [nx, Option.some.injEq] at hs
    exact lv_iand hx hb d (kn _ _ _ _ _ _ _ hs.symm (Or.inl ⟨rfl, rfl⟩) _ _ _ hR hZ hL)
  · cases hs
theorem sd_ishr (hx : p.tables.exec = Jvm.exec) (hb : c.code = m_b k) (d : decode (m_b k) pc = .ok (.ishr, 1)) (hs : s_bin (fun x y => x >>> (y &&& 31)) (pc + 1) is lv st h c0 s0 = some o) (kn : ∀ pc' is' lv' st' h' c' s', o = .inl (pc', is', lv', st', h', c', s') → ((pc' = pc + 1 ∧ is' = is) ∨ is' = []) → MW p l e R s m args below meth c D K b sz L xs Q k pc' lv' st' h' c' s') : MW p l e R s m args below meth c D K b sz L xs Q k pc lv st h c0 s0 := by
  intro H locs ls hR hZ hL
  unfold s_bin at hs
  split at hs
  · next y x st' =>
    simp only [nx, Option.some.injEq] at hs
    exact lv_ishr hx hb d (kn _ _ _ _ _ _ _ hs.symm (Or.inl ⟨rfl, rfl⟩) _ _ _ hR hZ hL)
  · cases hs
theorem sd_idiv (hx : p.tables.exec = Jvm.exec) (hb : c.code = m_b k) (d : decode (m_b k) pc = .ok (.idiv, 1)) (hs : s_div (· / ·) (pc + 1) is lv st h c0 s0 = some o) (kn : ∀ pc' is' lv' st' h' c' s', o = .inl (pc', is', lv', st', h', c', s') → ((pc' = pc + 1 ∧ is' = is) ∨ is' = []) → MW p l e R s m args below meth c D K b sz L xs Q k pc' lv' st' h' c' s') : MW p l e R s m args below meth c D K b sz L xs Q k pc lv st h c0 s0 := by
  intro H locs ls hR hZ hL
  unfold s_div at hs
  split at hs
  · next y x st' =>
    split at hs
    · cases hs
    · next hy =>
      simp only [nx, Option.some.injEq] at hs
      exact lv_idiv hx hb d hy (kn _ _ _ _ _ _ _ hs.symm (Or.inl ⟨rfl, rfl⟩) _ _ _ hR hZ hL)
  · cases hs
theorem sd_irem (hx : p.tables.exec = Jvm.exec) (hb : c.code = m_b k) (d : decode (m_b k) pc = .ok (.irem, 1)) (hs : s_div (fun x y => x - x / y * y) (pc + 1) is lv st h c0 s0 = some o) (kn : ∀ pc' is' lv' st' h' c' s', o = .inl (pc', is', lv', st', h', c', s') → ((pc' = pc + 1 ∧ is' = is) ∨ is' = []) → MW p l e R s m args below meth c D K b sz L xs Q k pc' lv' st' h' c' s') : MW p l e R s m args below meth c D K b sz L xs Q k pc lv st h c0 s0 := by
  intro H locs ls hR hZ hL
  unfold s_div at hs
  split at hs
  · next y x st' =>
    split at hs
    · cases hs
    · next hy =>
      simp only [nx, Option.some.injEq] at hs
      exact lv_irem hx hb d hy (kn _ _ _ _ _ _ _ hs.symm (Or.inl ⟨rfl, rfl⟩) _ _ _ hR hZ hL)
  · cases hs
theorem sd_ineg (hx : p.tables.exec = Jvm.exec) (hb : c.code = m_b k) (d : decode (m_b k) pc = .ok (.ineg, 1)) (hs : s_un (fun x => -x) (pc + 1) is lv st h c0 s0 = some o) (kn : ∀ pc' is' lv' st' h' c' s', o = .inl (pc', is', lv', st', h', c', s') → ((pc' = pc + 1 ∧ is' = is) ∨ is' = []) → MW p l e R s m args below meth c D K b sz L xs Q k pc' lv' st' h' c' s') : MW p l e R s m args below meth c D K b sz L xs Q k pc lv st h c0 s0 := by
  intro H locs ls hR hZ hL
  unfold s_un at hs
  split at hs
  · next x st' =>
    simp only [nx, Option.some.injEq] at hs
    exact lv_ineg hx hb d (kn _ _ _ _ _ _ _ hs.symm (Or.inl ⟨rfl, rfl⟩) _ _ _ hR hZ hL)
  · cases hs
theorem sd_i2l (hx : p.tables.exec = Jvm.exec) (hb : c.code = m_b k) (d : decode (m_b k) pc = .ok (.i2l, 1)) (hs : s_i2l (pc + 1) is lv st h c0 s0 = some o) (kn : ∀ pc' is' lv' st' h' c' s', o = .inl (pc', is', lv', st', h', c', s') → ((pc' = pc + 1 ∧ is' = is) ∨ is' = []) → MW p l e R s m args below meth c D K b sz L xs Q k pc' lv' st' h' c' s') : MW p l e R s m args below meth c D K b sz L xs Q k pc lv st h c0 s0 := by
  intro H locs ls hR hZ hL
  unfold s_i2l at hs
  split at hs
  · next x st' =>
    simp only [nx, Option.some.injEq] at hs
    exact lv_i2l hx hb d rfl (kn _ _ _ _ _ _ _ hs.symm (Or.inl ⟨rfl, rfl⟩) _ _ _ hR hZ hL)
  · cases hs
theorem sd_lcmp (hx : p.tables.exec = Jvm.exec) (hb : c.code = m_b k) (d : decode (m_b k) pc = .ok (.lcmp, 1)) (hs : s_lcmp (pc + 1) is lv st h c0 s0 = some o) (kn : ∀ pc' is' lv' st' h' c' s', o = .inl (pc', is', lv', st', h', c', s') → ((pc' = pc + 1 ∧ is' = is) ∨ is' = []) → MW p l e R s m args below meth c D K b sz L xs Q k pc' lv' st' h' c' s') : MW p l e R s m args below meth c D K b sz L xs Q k pc lv st h c0 s0 := by
  intro H locs ls hR hZ hL
  unfold s_lcmp at hs
  split at hs
  · next y x st' =>
    simp only [nx, Option.some.injEq] at hs
    exact W.lcmp hx hb d (kn _ _ _ _ _ _ _ hs.symm (Or.inl ⟨rfl, rfl⟩) _ _ _ hR hZ hL)
  · cases hs
theorem sd_dup (hx : p.tables.exec = Jvm.exec) (hb : c.code = m_b k) (d : decode (m_b k) pc = .ok (.dup, 1)) (hs : s_dup (pc + 1) is lv st h c0 s0 = some o) (kn : ∀ pc' is' lv' st' h' c' s', o = .inl (pc', is', lv', st', h', c', s') → ((pc' = pc + 1 ∧ is' = is) ∨ is' = []) → MW p l e R s m args below meth c D K b sz L xs Q k pc' lv' st' h' c' s') : MW p l e R s m args below meth c D K b sz L xs Q k pc lv st h c0 s0 := by
  intro H locs ls hR hZ hL
  unfold s_dup at hs
  split at hs
  · next v st' =>
    split at hs
    · next hv =>
      simp only [nx, Option.some.injEq] at hs
      exact lv_dup hx hb d ((cv_cat b sz v).trans hv) (kn _ _ _ _ _ _ _ hs.symm (Or.inl ⟨rfl, rfl⟩) _ _ _ hR hZ hL)
    · cases hs
  · cases hs
theorem sd_dup2 (hx : p.tables.exec = Jvm.exec) (hb : c.code = m_b k) (d : decode (m_b k) pc = .ok (.dup2, 1)) (hs : s_dup2 (pc + 1) is lv st h c0 s0 = some o) (kn : ∀ pc' is' lv' st' h' c' s', o = .inl (pc', is', lv', st', h', c', s') → ((pc' = pc + 1 ∧ is' = is) ∨ is' = []) → MW p l e R s m args below meth c D K b sz L xs Q k pc' lv' st' h' c' s') : MW p l e R s m args below meth c D K b sz L xs Q k pc lv st h c0 s0 := by
  intro H locs ls hR hZ hL
  unfold s_dup2 at hs
  split at hs
  · next v w st' =>
    split at hs
    · next hv =>
      simp only [nx, Option.some.injEq] at hs
      exact lv_dup2_11 hx hb d ((cv_cat b sz v).trans hv.1) ((cv_cat b sz w).trans hv.2) (kn _ _ _ _ _ _ _ hs.symm (Or.inl ⟨rfl, rfl⟩) _ _ _ hR hZ hL)
    · cases hs
  · cases hs
theorem sd_pop (hx : p.tables.exec = Jvm.exec) (hb : c.code = m_b k) (d : decode (m_b k) pc = .ok (.pop, 1)) (hs : s_pop (pc + 1) is lv st h c0 s0 = some o) (kn : ∀ pc' is' lv' st' h' c' s', o = .inl (pc', is', lv', st', h', c', s') → ((pc' = pc + 1 ∧ is' = is) ∨ is' = []) → MW p l e R s m args below meth c D K b sz L xs Q k pc' lv' st' h' c' s') : MW p l e R s m args below meth c D K b sz L xs Q k pc lv st h c0 s0 := by
  intro H locs ls hR hZ hL
  unfold s_pop at hs
  split at hs
  · next v st' =>
    split at hs
    · next hv =>
      simp only [nx, Option.some.injEq] at hs
      exact lv_pop hx hb d ((cv_cat b sz v).trans hv) (kn _ _ _ _ _ _ _ hs.symm (Or.inl ⟨rfl, rfl⟩) _ _ _ hR hZ hL)
    · cases hs
  · cases hs
theorem mk_tg_eq {p0 t : Nat} {off : Int} (h : mk_tg p0 off = some t) : (p0 : Int) + off = (t : Int) := by
  unfold mk_tg at h
  split at h
  · cases h
    omega
  · cases h
theorem jp_some {p0 : Nat} {off : Int} {lv : List (Option Value)} {st : List Value} {h : MH} {c0 s0 : Nat} {o : Out} (hs : jp p0 off lv st h c0 s0 = some o) : ∃ t : Nat, (p0 : Int) + off = (t : Int) ∧ o = .inl (t, [], lv, st, h, c0, s0) := by
  unfold jp at hs
  split at hs
  · next t ht =>
    simp only [nx, Option.some.injEq] at hs
    exact ⟨t, mk_tg_eq ht, hs.symm⟩
  · cases hs
theorem sd_goto (hx : p.tables.exec = Jvm.exec) (hb : c.code = m_b k) {off : Int} (d : decode (m_b k) pc = .ok (.goto off, 3)) (hs : jp pc off lv st h c0 s0 = some o) (kn : ∀ pc' is' lv' st' h' c' s', o = .inl (pc', is', lv', st', h', c', s') → ((pc' = pc + 3 ∧ is' = is) ∨ is' = []) → MW p l e R s m args below meth c D K b sz L xs Q k pc' lv' st' h' c' s') : MW p l e R s m args below meth c D K b sz L xs Q k pc lv st h c0 s0 := by
  intro H locs ls hR hZ hL
  obtain ⟨t, ht, ho⟩ := jp_some hs
  exact lv_goto hx hb d ht (kn _ _ _ _ _ _ _ ho (Or.inr rfl) _ _ _ hR hZ hL)
theorem sd_icmp_eq (hx : p.tables.exec = Jvm.exec) (hb : c.code = m_b k) {off : Int} (d : decode (m_b k) pc = .ok (.if_icmp .eq off, 3)) (hs : s_icmp .eq off pc (pc + 3) is lv st h c0 s0 = some o) (kn : ∀ pc' is' lv' st' h' c' s', o = .inl (pc', is', lv', st', h', c', s') → ((pc' = pc + 3 ∧ is' = is) ∨ is' = []) → MW p l e R s m args below meth c D K b sz L xs Q k pc' lv' st' h' c' s') : MW p l e R s m args below meth c D K b sz L xs Q k pc lv st h c0 s0 := by
  intro H locs ls hR hZ hL
  unfold s_icmp at hs
  split at hs
  · next y x st' =>
    split at hs
    · next t ht =>
      have ht := mk_tg_eq ht
      split at hs
      · next hq =>
        simp only [nx, Option.some.injEq] at hs
        simp only [icm, decide_eq_true_eq, Bool.not_eq_true', decide_eq_false_iff_not] at hq
        exact lv_icmp_eq hx hb d ht (fun _ => kn _ _ _ _ _ _ _ hs.symm (Or.inr rfl) _ _ _ hR hZ hL) (fun q => absurd hq q)
      · next hq =>
        simp only [nx, Option.some.injEq] at hs
        simp only [icm, decide_eq_true_eq, Bool.not_eq_true', decide_eq_false_iff_not, Classical.not_not] at hq
        exact lv_icmp_eq hx hb d ht (fun q => absurd q hq) (fun _ => kn _ _ _ _ _ _ _ hs.symm (Or.inl ⟨rfl, rfl⟩) _ _ _ hR hZ hL)
    · cases hs
  · cases hs
theorem sd_if_eq (hx : p.tables.exec = Jvm.exec) (hb : c.code = m_b k) {off : Int} (d : decode (m_b k) pc = .ok (.ifCond .eq off, 3)) (hs : s_if .eq off pc (pc + 3) is lv st h c0 s0 = some o) (kn : ∀ pc' is' lv' st' h' c' s', o = .inl (pc', is', lv', st', h', c', s') → ((pc' = pc + 3 ∧ is' = is) ∨ is' = []) → MW p l e R s m args below meth c D K b sz L xs Q k pc' lv' st' h' c' s') : MW p l e R s m args below meth c D K b sz L xs Q k pc lv st h c0 s0 := by
  intro H locs ls hR hZ hL
  unfold s_if at hs
  split at hs
  · next x st' =>
    split at hs
    · next t ht =>
      have ht := mk_tg_eq ht
      split at hs
      · next hq =>
        simp only [nx, Option.some.injEq] at hs
        simp only [icm, decide_eq_true_eq, Bool.not_eq_true', decide_eq_false_iff_not] at hq
        exact lv_if_eq hx hb d ht (fun _ => kn _ _ _ _ _ _ _ hs.symm (Or.inr rfl) _ _ _ hR hZ hL) (fun q => absurd hq q)
      · next hq =>
        simp only [nx, Option.some.injEq] at hs
        simp only [icm, decide_eq_true_eq, Bool.not_eq_true', decide_eq_false_iff_not, Classical.not_not] at hq
        exact lv_if_eq hx hb d ht (fun q => absurd q hq) (fun _ => kn _ _ _ _ _ _ _ hs.symm (Or.inl ⟨rfl, rfl⟩) _ _ _ hR hZ hL)
    · cases hs
  · cases hs
theorem sd_icmp_ne (hx : p.tables.exec = Jvm.exec) (hb : c.code = m_b k) {off : Int} (d : decode (m_b k) pc = .ok (.if_icmp .ne off, 3)) (hs : s_icmp .ne off pc (pc + 3) is lv st h c0 s0 = some o) (kn : ∀ pc' is' lv' st' h' c' s', o = .inl (pc', is', lv', st', h', c', s') → ((pc' = pc + 3 ∧ is' = is) ∨ is' = []) → MW p l e R s m args below meth c D K b sz L xs Q k pc' lv' st' h' c' s') : MW p l e R s m args below meth c D K b sz L xs Q k pc lv st h c0 s0 := by
  intro H locs ls hR hZ hL
  unfold s_icmp at hs
  split at hs
  · next y x st' =>
    split at hs
    · next t ht =>
      have ht := mk_tg_eq ht
      split at hs
      · next hq =>
        simp only [nx, Option.some.injEq] at hs
        simp only [icm, decide_eq_true_eq, Bool.not_eq_true', decide_eq_false_iff_not] at hq
        exact lv_icmp_ne hx hb d ht (fun _ => kn _ _ _ _ _ _ _ hs.symm (Or.inr rfl) _ _ _ hR hZ hL) (fun q => absurd q hq)
      · next hq =>
        simp only [nx, Option.some.injEq] at hs
        simp only [icm, decide_eq_true_eq, Bool.not_eq_true', decide_eq_false_iff_not, Classical.not_not] at hq
        exact lv_icmp_ne hx hb d ht (fun q => absurd hq q) (fun _ => kn _ _ _ _ _ _ _ hs.symm (Or.inl ⟨rfl, rfl⟩) _ _ _ hR hZ hL)
    · cases hs
  · cases hs
theorem sd_if_ne (hx : p.tables.exec = Jvm.exec) (hb : c.code = m_b k) {off : Int} (d : decode (m_b k) pc = .ok (.ifCond .ne off, 3)) (hs : s_if .ne off pc (pc + 3) is lv st h c0 s0 = some o) (kn : ∀ pc' is' lv' st' h' c' s', o = .inl (pc', is', lv', st', h', c', s') → ((pc' = pc + 3 ∧ is' = is) ∨ is' = []) → MW p l e R s m args below meth c D K b sz L xs Q k pc' lv' st' h' c' s') : MW p l e R s m args below meth c D K b sz L xs Q k pc lv st h c0 s0 := by
  intro H locs ls hR hZ hL
  unfold s_if at hs
  split at hs
  · next x st' =>
    split at hs
    · next t ht =>
      have ht := mk_tg_eq ht
      split at hs
      · next hq =>
        simp only [nx, Option.some.injEq] at hs
        simp only [icm, decide_eq_true_eq, Bool.not_eq_true', decide_eq_false_iff_not] at hq
        exact lv_if_ne hx hb d ht (fun _ => kn _ _ _ _ _ _ _ hs.symm (Or.inr rfl) _ _ _ hR hZ hL) (fun q => absurd q hq)
      · next hq =>
        simp only [nx, Option.some.injEq] at hs
        simp only [icm, decide_eq_true_eq, Bool.not_eq_true', decide_eq_false_iff_not, Classical.not_not] at hq
        exact lv_if_ne hx hb d ht (fun q => absurd hq q) (fun _ => kn _ _ _ _ _ _ _ hs.symm (Or.inl ⟨rfl, rfl⟩) _ _ _ hR hZ hL)
    · cases hs
  · cases hs
theorem sd_icmp_lt (hx : p.tables.exec = Jvm.exec) (hb : c.code = m_b k) {off : Int} (d : decode (m_b k) pc = .ok (.if_icmp .lt off, 3)) (hs : s_icmp .lt off pc (pc + 3) is lv st h c0 s0 = some o) (kn : ∀ pc' is' lv' st' h' c' s', o = .inl (pc', is', lv', st', h', c', s') → ((pc' = pc + 3 ∧ is' = is) ∨ is' = []) → MW p l e R s m args below meth c D K b sz L xs Q k pc' lv' st' h' c' s') : MW p l e R s m args below meth c D K b sz L xs Q k pc lv st h c0 s0 := by
  intro H locs ls hR hZ hL
  unfold s_icmp at hs
  split at hs
  · next y x st' =>
    split at hs
    · next t ht =>
      have ht := mk_tg_eq ht
      split at hs
      · next hq =>
        simp only [nx, Option.some.injEq] at hs
        simp only [icm, decide_eq_true_eq, Bool.not_eq_true', decide_eq_false_iff_not] at hq
        exact lv_icmp_lt hx hb d ht (fun _ => kn _ _ _ _ _ _ _ hs.symm (Or.inr rfl) _ _ _ hR hZ hL) (fun q => absurd hq q)
      · next hq =>
        simp only [nx, Option.some.injEq] at hs
        simp only [icm, decide_eq_true_eq, Bool.not_eq_true', decide_eq_false_iff_not, Classical.not_not] at hq
        exact lv_icmp_lt hx hb d ht (fun q => absurd q hq) (fun _ => kn _ _ _ _ _ _ _ hs.symm (Or.inl ⟨rfl, rfl⟩) _ _ _ hR hZ hL)
    · cases hs
  · cases hs
theorem sd_if_lt (hx : p.tables.exec = Jvm.exec) (hb : c.code = m_b k) {off : Int} (d : decode (m_b k) pc = .ok (.ifCond .lt off, 3)) (hs : s_if .lt off pc (pc + 3) is lv st h c0 s0 = some o) (kn : ∀ pc' is' lv' st' h' c' s', o = .inl (pc', is', lv', st', h', c', s') → ((pc' = pc + 3 ∧ is' = is) ∨ is' = []) → MW p l e R s m args below meth c D K b sz L xs Q k pc' lv' st' h' c' s') : MW p l e R s m args below meth c D K b sz L xs Q k pc lv st h c0 s0 := by
  intro H locs ls hR hZ hL
  unfold s_if at hs
  split at hs
  · next x st' =>
    split at hs
    · next t ht =>
      have ht := mk_tg_eq ht
      split at hs
      · next hq =>
        simp only [nx, Option.some.injEq] at hs
        simp only [icm, decide_eq_true_eq, Bool.not_eq_true', decide_eq_false_iff_not] at hq
        exact lv_if_lt hx hb d ht (fun _ => kn _ _ _ _ _ _ _ hs.symm (Or.inr rfl) _ _ _ hR hZ hL) (fun q => absurd hq q)
      · next hq =>
        simp only [nx, Option.some.injEq] at hs
        simp only [icm, decide_eq_true_eq, Bool.not_eq_true', decide_eq_false_iff_not, Classical.not_not] at hq
        exact lv_if_lt hx hb d ht (fun q => absurd q hq) (fun _ => kn _ _ _ _ _ _ _ hs.symm (Or.inl ⟨rfl, rfl⟩) _ _ _ hR hZ hL)
    · cases hs
  · cases hs
theorem sd_icmp_ge (hx : p.tables.exec = Jvm.exec) (hb : c.code = m_b k) {off : Int} (d : decode (m_b k) pc = .ok (.if_icmp .ge off, 3)) (hs : s_icmp .ge off pc (pc + 3) is lv st h c0 s0 = some o) (kn : ∀ pc' is' lv' st' h' c' s', o = .inl (pc', is', lv', st', h', c', s') → ((pc' = pc + 3 ∧ is' = is) ∨ is' = []) → MW p l e R s m args below meth c D K b sz L xs Q k pc' lv' st' h' c' s') : MW p l e R s m args below meth c D K b sz L xs Q k pc lv st h c0 s0 := by
  intro H locs ls hR hZ hL
  unfold s_icmp at hs
  split at hs
  · next y x st' =>
    split at hs
    · next t ht =>
      have ht := mk_tg_eq ht
      split at hs
      · next hq =>
        simp only [nx, Option.some.injEq] at hs
        simp only [icm, decide_eq_true_eq, Bool.not_eq_true', decide_eq_false_iff_not] at hq
        exact lv_icmp_ge hx hb d ht (fun _ => kn _ _ _ _ _ _ _ hs.symm (Or.inr rfl) _ _ _ hR hZ hL) (fun q => absurd hq q)
      · next hq =>
        simp only [nx, Option.some.injEq] at hs
        simp only [icm, decide_eq_true_eq, Bool.not_eq_true', decide_eq_false_iff_not, Classical.not_not] at hq
        exact lv_icmp_ge hx hb d ht (fun q => absurd q hq) (fun _ => kn _ _ _ _ _ _ _ hs.symm (Or.inl ⟨rfl, rfl⟩) _ _ _ hR hZ hL)
    · cases hs
  · cases hs
theorem sd_if_ge (hx : p.tables.exec = Jvm.exec) (hb : c.code = m_b k) {off : Int} (d : decode (m_b k) pc = .ok (.ifCond .ge off, 3)) (hs : s_if .ge off pc (pc + 3) is lv st h c0 s0 = some o) (kn : ∀ pc' is' lv' st' h' c' s', o = .inl (pc', is', lv', st', h', c', s') → ((pc' = pc + 3 ∧ is' = is) ∨ is' = []) → MW p l e R s m args below meth c D K b sz L xs Q k pc' lv' st' h' c' s') : MW p l e R s m args below meth c D K b sz L xs Q k pc lv st h c0 s0 := by
  intro H locs ls hR hZ hL
  unfold s_if at hs
  split at hs
  · next x st' =>
    split at hs
    · next t ht =>
      have ht := mk_tg_eq ht
      split at hs
      · next hq =>
        simp only [nx, Option.some.injEq] at hs
        simp only [icm, decide_eq_true_eq, Bool.not_eq_true', decide_eq_false_iff_not] at hq
        exact lv_if_ge hx hb d ht (fun _ => kn _ _ _ _ _ _ _ hs.symm (Or.inr rfl) _ _ _ hR hZ hL) (fun q => absurd hq q)
      · next hq =>
        simp only [nx, Option.some.injEq] at hs
        simp only [icm, decide_eq_true_eq, Bool.not_eq_true', decide_eq_false_iff_not, Classical.not_not] at hq
        exact lv_if_ge hx hb d ht (fun q => absurd q hq) (fun _ => kn _ _ _ _ _ _ _ hs.symm (Or.inl ⟨rfl, rfl⟩) _ _ _ hR hZ hL)
    · cases hs
  · cases hs
theorem sd_icmp_gt (hx : p.tables.exec = Jvm.exec) (hb : c.code = m_b k) {off : Int} (d : decode (m_b k) pc = .ok (.if_icmp .gt off, 3)) (hs : s_icmp .gt off pc (pc + 3) is lv st h c0 s0 = some o) (kn : ∀ pc' is' lv' st' h' c' s', o = .inl (pc', is', lv', st', h', c', s') → ((pc' = pc + 3 ∧ is' = is) ∨ is' = []) → MW p l e R s m args below meth c D K b sz L xs Q k pc' lv' st' h' c' s') : MW p l e R s m args below meth c D K b sz L xs Q k pc lv st h c0 s0 := by
  intro H locs ls hR hZ hL
  unfold s_icmp at hs
  split at hs
  · next y x st' =>
    split at hs
    · next t ht =>
      have ht := mk_tg_eq ht
      split at hs
      · next hq =>
        simp only [nx, Option.some.injEq] at hs
        simp only [icm, decide_eq_true_eq, Bool.not_eq_true', decide_eq_false_iff_not] at hq
        exact lv_icmp_gt hx hb d ht (fun _ => kn _ _ _ _ _ _ _ hs.symm (Or.inr rfl) _ _ _ hR hZ hL) (fun q => absurd hq q)
      · next hq =>
        simp only [nx, Option.some.injEq] at hs
        simp only [icm, decide_eq_true_eq, Bool.not_eq_true', decide_eq_false_iff_not, Classical.not_not] at hq
        exact lv_icmp_gt hx hb d ht (fun q => absurd q hq) (fun _ => kn _ _ _ _ _ _ _ hs.symm (Or.inl ⟨rfl, rfl⟩) _ _ _ hR hZ hL)
    · cases hs
  · cases hs
theorem sd_if_gt (hx : p.tables.exec = Jvm.exec) (hb : c.code = m_b k) {off : Int} (d : decode (m_b k) pc = .ok (.ifCond .gt off, 3)) (hs : s_if .gt off pc (pc + 3) is lv st h c0 s0 = some o) (kn : ∀ pc' is' lv' st' h' c' s', o = .inl (pc', is', lv', st', h', c', s') → ((pc' = pc + 3 ∧ is' = is) ∨ is' = []) → MW p l e R s m args below meth c D K b sz L xs Q k pc' lv' st' h' c' s') : MW p l e R s m args below meth c D K b sz L xs Q k pc lv st h c0 s0 := by
  intro H locs ls hR hZ hL
  unfold s_if at hs
  split at hs
  · next x st' =>
    split at hs
    · next t ht =>
      have ht := mk_tg_eq ht
      split at hs
      · next hq =>
        simp only [nx, Option.some.injEq] at hs
        simp only [icm, decide_eq_true_eq, Bool.not_eq_true', decide_eq_false_iff_not] at hq
        exact lv_if_gt hx hb d ht (fun _ => kn _ _ _ _ _ _ _ hs.symm (Or.inr rfl) _ _ _ hR hZ hL) (fun q => absurd hq q)
      · next hq =>
        simp only [nx, Option.some.injEq] at hs
        simp only [icm, decide_eq_true_eq, Bool.not_eq_true', decide_eq_false_iff_not, Classical.not_not] at hq
        exact lv_if_gt hx hb d ht (fun q => absurd q hq) (fun _ => kn _ _ _ _ _ _ _ hs.symm (Or.inl ⟨rfl, rfl⟩) _ _ _ hR hZ hL)
    · cases hs
  · cases hs
theorem sd_icmp_le (hx : p.tables.exec = Jvm.exec) (hb : c.code = m_b k) {off : Int} (d : decode (m_b k) pc = .ok (.if_icmp .le off, 3)) (hs : s_icmp .le off pc (pc + 3) is lv st h c0 s0 = some o) (kn : ∀ pc' is' lv' st' h' c' s', o = .inl (pc', is', lv', st', h', c', s') → ((pc' = pc + 3 ∧ is' = is) ∨ is' = []) → MW p l e R s m args below meth c D K b sz L xs Q k pc' lv' st' h' c' s') : MW p l e R s m args below meth c D K b sz L xs Q k pc lv st h c0 s0 := by
  intro H locs ls hR hZ hL
  unfold s_icmp at hs
  split at hs
  · next y x st' =>
    split at hs
    · next t ht =>
      have ht := mk_tg_eq ht
      split at hs
      · next hq =>
        simp only [nx, Option.some.injEq] at hs
        simp only [icm, decide_eq_true_eq, Bool.not_eq_true', decide_eq_false_iff_not] at hq
        exact lv_icmp_le hx hb d ht (fun _ => kn _ _ _ _ _ _ _ hs.symm (Or.inr rfl) _ _ _ hR hZ hL) (fun q => absurd hq q)
      · next hq =>
        simp only [nx, Option.some.injEq] at hs
        simp only [icm, decide_eq_true_eq, Bool.not_eq_true', decide_eq_false_iff_not, Classical.not_not] at hq
        exact lv_icmp_le hx hb d ht (fun q => absurd q hq) (fun _ => kn _ _ _ _ _ _ _ hs.symm (Or.inl ⟨rfl, rfl⟩) _ _ _ hR hZ hL)
    · cases hs
  · cases hs
theorem sd_if_le (hx : p.tables.exec = Jvm.exec) (hb : c.code = m_b k) {off : Int} (d : decode (m_b k) pc = .ok (.ifCond .le off, 3)) (hs : s_if .le off pc (pc + 3) is lv st h c0 s0 = some o) (kn : ∀ pc' is' lv' st' h' c' s', o = .inl (pc', is', lv', st', h', c', s') → ((pc' = pc + 3 ∧ is' = is) ∨ is' = []) → MW p l e R s m args below meth c D K b sz L xs Q k pc' lv' st' h' c' s') : MW p l e R s m args below meth c D K b sz L xs Q k pc lv st h c0 s0 := by
  intro H locs ls hR hZ hL
  unfold s_if at hs
  split at hs
  · next x st' =>
    split at hs
    · next t ht =>
      have ht := mk_tg_eq ht
      split at hs
      · next hq =>
        simp only [nx, Option.some.injEq] at hs
        simp only [icm, decide_eq_true_eq, Bool.not_eq_true', decide_eq_false_iff_not] at hq
        exact lv_if_le hx hb d ht (fun _ => kn _ _ _ _ _ _ _ hs.symm (Or.inr rfl) _ _ _ hR hZ hL) (fun q => absurd hq q)
      · next hq =>
        simp only [nx, Option.some.injEq] at hs
        simp only [icm, decide_eq_true_eq, Bool.not_eq_true', decide_eq_false_iff_not, Classical.not_not] at hq
        exact lv_if_le hx hb d ht (fun q => absurd q hq) (fun _ => kn _ _ _ _ _ _ _ hs.symm (Or.inl ⟨rfl, rfl⟩) _ _ _ hR hZ hL)
    · cases hs
  · cases hs
theorem sd_table (hx : p.tables.exec = Jvm.exec) (hb : c.code = m_b k) {d9 lo hi : Int} {offs : Array Int} {len : Nat} (d : decode (m_b k) pc = .ok (.tableswitch d9 lo hi offs, len)) (hs : s_table d9 lo hi offs pc lv st h c0 s0 = some o) (kn : ∀ pc' is' lv' st' h' c' s', o = .inl (pc', is', lv', st', h', c', s') → ((pc' = pc + 0 ∧ is' = is) ∨ is' = []) → MW p l e R s m args below meth c D K b sz L xs Q k pc' lv' st' h' c' s') : MW p l e R s m args below meth c D K b sz L xs Q k pc lv st h c0 s0 := by
  intro H locs ls hR hZ hL
  unfold s_table at hs
  split at hs
  · next x st' =>
    split at hs
    · next hq =>
      obtain ⟨t, ht, ho⟩ := jp_some hs
      exact lv_tableOut hx hb d hq ht (kn _ _ _ _ _ _ _ ho (Or.inr rfl) _ _ _ hR hZ hL)
    · next hq =>
      split at hs
      · next o9 ho9 =>
        obtain ⟨t, ht, ho⟩ := jp_some hs
        exact lv_tableIn hx hb d (fun q => hq (Or.inl q)) (fun q => hq (Or.inr q)) ho9 ht (kn _ _ _ _ _ _ _ ho (Or.inr rfl) _ _ _ hR hZ hL)
      · cases hs
  · cases hs
end PU
