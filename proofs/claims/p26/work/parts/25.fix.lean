/-! What stays as it is through every call: links, texts, statics, the script. -/
def exW : List Cond := [.castable (exN 0) (exN 0), .castable (exN 1) (exN 1), .castable (exN 2) (exN 2), .declares (Bundle.initS "java/lang/RuntimeException"), .declares (Bundle.initS "java/lang/Exception"), .declares (Bundle.initS Bundle.tN)]
theorem exW_of : ∀ q ∈ thkT, ∀ w ∈ (vx_atS (cnm q.1) q.2.2.2 (exN q.2.1) exS).filter (fun w => !goodWord w), w ∈ exW := by decide +kernel
def nestW : List Cond := (callT.filter (fun q => q.2.2.2 == 1)).map (fun q => Cond.methodLinkNest (cnm q.1) q.2.1 (m_y q.2.2.1) "PoleShop")
theorem nestW_of {q : Nat × Nat × Nat × Nat} (h : q ∈ callT) (h1 : q.2.2.2 = 1) : Cond.methodLinkNest (cnm q.1) q.2.1 (m_y q.2.2.1) "PoleShop" ∈ nestW := List.mem_map.mpr ⟨q, List.mem_filter.mpr ⟨h, by rw [h1]; rfl⟩, rfl⟩
theorem nestW_tbl : ∀ w ∈ nestW, w ∈ lw_tbl := by decide +kernel
theorem exW_tbl : ∀ w ∈ exW, w ∈ lw_tbl := by decide +kernel
theorem exW_on : ∀ w ∈ exW, w.onTables = true := by decide +kernel
theorem nestW_on : ∀ w ∈ nestW, w.onTables = true := by decide +kernel
theorem exW_warm {s U : State} (hW : s.WarmedH U.vm) (h : ∀ w ∈ exW, va_Nw w s) : ∀ w ∈ exW, va_Nw w U := by
  intro w hw
  have hs := h w hw
  simp only [exW, List.mem_cons, List.not_mem_nil, or_false] at hw
  rcases hw with rfl | rfl | rfl | rfl | rfl | rfl
  · exact va_Nw.warmC hW hs
  · exact va_Nw.warmC hW hs
  · exact va_Nw.warmC hW hs
  · exact va_Nw.warmD hW hs
  · exact va_Nw.warmD hW hs
  · exact va_Nw.warmD hW hs
theorem nestW_warm {s U : State} (hW : s.WarmedH U.vm) (h : ∀ w ∈ nestW, va_Nw w s) : ∀ w ∈ nestW, va_Nw w U := by
  intro w hw
  have hs := h w hw
  obtain ⟨q, -, rfl⟩ := List.mem_map.mp hw
  exact va_Nw.warmM hW hs
/-- the class of the rows of ints is made -/
def ovA (U : State) : Prop := (Cond.arrayOver (.array .int)).before #[] U = true
theorem ovA_spec {U : State} (h : ovA U) : ∃ comp c k comp', U.vm.findClass (FieldType.array .int).toString = some comp ∧ (U.vm.classes.findIdx? fun (x : Class) => match x.kind with | .array component _ => component == comp | _ => false) = some c ∧ U.vm.classes[c]? = some k ∧ k.kind = .array comp' (.array .int) ∧ U.vm.findClass ("[" ++ (FieldType.array .int).toString) = some c := by
  unfold ovA Cond.before Cond.holds at h
  simp only [Cond.value, beq_iff_eq, Option.bind_eq_some_iff, Option.map_eq_some_iff] at h
  obtain ⟨comp, h1, c, h2, k, h3, h4⟩ := h
  cases hk : k.kind with
  | array comp' ty =>
    rw [hk] at h4
    simp only [Bool.and_eq_true, decide_eq_true_eq] at h4
    exact ⟨comp, c, k, comp', h1, h2, h3, by rw [hk, h4.1], h4.2⟩
  | _ => rw [hk] at h4; simp at h4
theorem ovA_moved {u U : State} (hvm : u.vm.Alike U.vm) (h : ovA u) : ovA U := by
  obtain ⟨comp, c, k, comp', h1, h2, h3, h4, h5⟩ := ovA_spec h
  obtain ⟨k', hk', he⟩ := hvm.2.2 _ _ h3
  have hi : (U.vm.classes.findIdx? fun (x : Class) => match x.kind with | .array component _ => component == comp | _ => false) = some c := by
    have e1 := (va_idx_bare u.vm comp).trans h2
    have e2 := va_idx_bare U.vm comp
    first | rw [hvm.bare_eq] at e1 | rw [← hvm.bare_eq] at e1
    exact e2.symm.trans e1
  have hkind : k'.kind = .array comp' (.array .int) := by rw [he]; exact h4
  have f1 : U.vm.findClass (FieldType.array .int).toString = some comp := by rw [hvm.findClass]; exact h1
  have f2 : U.vm.findClass ("[" ++ (FieldType.array .int).toString) = some c := by rw [hvm.findClass]; exact h5
  unfold ovA Cond.before Cond.holds
  simp only [Cond.value, beq_iff_eq, Option.bind_eq_some_iff, Option.map_eq_some_iff]
  refine ⟨comp, f1, c, hi, k', hk', ?_⟩
  rw [hkind]
  simp [f2]
theorem ovA_use {A : Array Value} {U : State} (h : ovA U) : (Cond.arrayOver (.array .int)).before A U = true := h
/-- of the machine's tables -/
def FxV (D : va_G) (K : KK) (U : State) : Prop :=
  va_K D vwCl (tysK K) U ∧ (∀ w ∈ exW, va_Nw w U) ∧ (∀ w ∈ nestW, va_Nw w U) ∧ (∀ q ∈ strT, ∃ sa, vk_R RX9 q.1 q.2 sa U) ∧ (∀ E E', E < 3 → E' < 3 → E ≠ E' → va_Nc (exN E) (exN E') U) ∧
  (∃ kA kI, U.vm.classes[K.2.2.1]? = some kA ∧ kA.kind = .array K.1 (.array .int) ∧ U.vm.classes[K.1]? = some kI ∧ U.vm.assignable K.1 K.1 = true) ∧ va_AO "PoleShop$Plant" U ∧ ovA U
/-- of the heap, below the cells that are ours -/
def FxH (b sz L : Nat) (xs : Nat → Int32) (U : State) : Prop :=
  vx_Zq Bundle.tN "UNASSIGNED_STACK" Bundle.steD (fun q => sz ≤ q) U U.heap ∧ vx_Zq Bundle.tN "SUPPRESSED_SENTINEL" Bundle.listD (fun q => sz ≤ q) U U.heap ∧ va_X b L xs U U.heap ∧ b < sz ∧ sz ≤ U.heap.size
theorem FxV.warm {D : va_G} {K : KK} {s U : State} (hW : s.WarmedH U.vm) (h : FxV D K s) : FxV D K U := by
  obtain ⟨h1, h2, h3, h4, h5, ⟨kA, kI, a1, a2, a3, a4⟩, h7, h8⟩ := h
  obtain ⟨kA', b1, b2⟩ := hW.alike.2.2 _ _ a1
  obtain ⟨kI', c1, -⟩ := hW.alike.2.2 _ _ a3
  exact ⟨va_K.moved hW.alike h1, exW_warm hW h2, nestW_warm hW h3, fun q hq => (h4 q hq).imp fun sa r => r.warm hW, fun E E' q1 q2 q3 => va_Nc.moved hW.alike (h5 E E' q1 q2 q3), ⟨kA', kI', b1, by rw [b2]; exact a2, c1, by rw [hW.alike.assignable]; exact a4⟩, va_AO.moved hW.alike h7, ovA_moved hW.alike h8⟩
theorem FxH.warm {b sz L : Nat} {xs : Nat → Int32} {s U : State} {locs : List Loc} (hW : s.WarmedH U.vm) (hS : va_S (fun q => sz ≤ q) s.heap U.heap locs) (h : FxH b sz L xs s) : FxH b sz L xs U := by
  obtain ⟨h1, h2, h3, h4, h5⟩ := h
  have hq : ∀ a : Nat, a < s.heap.size → ¬ (fun q => sz ≤ q) a → U.heap[a]? = s.heap[a]? := fun a ha hn => hS.2.1 a ha hn
  exact ⟨(h1.kept hq).moved hW.alike, (h2.kept hq).moved hW.alike, (h3.kept (hq b (Nat.lt_of_lt_of_le h4 h5) (Nat.not_le.mpr h4))).moved hW.alike, h4, Nat.le_trans h5 hS.1⟩
/-- the world of a call -/
def Wd (D : va_G) (K : KK) (b sz L : Nat) (xs : Nat → Int32) (h : MH) (U : State) : Prop :=
  va_P D vwCl (mkw K b sz h) U.heap ∧ (∀ a x, h.2.2 a = some x → a ≤ h.1) ∧ (h.2.2 0 = some (mI L xs) ∧ sz + h.1 ≤ U.heap.size) ∧ FxV D K U ∧ FxH b sz L xs U
theorem Wd.blind {D : va_G} {K : KK} {b sz L : Nat} {xs : Nat → Int32} {h : MH} {U : State} {g : JFrame} {mk : MethodId} {a : Array Value} (w : Wd D K b sz L xs h U) : Wd D K b sz L xs h (U.calling g mk a) := by
  obtain ⟨w1, w2, w3, ⟨h1, h2, h3, h4, h5, h6, h7, h8⟩, ⟨g1, g2, g3, g4, g5⟩⟩ := w
  have hA : U.vm.Alike (U.calling g mk a).vm := Vm.Alike.refl U.vm
  exact ⟨w1, w2, w3, ⟨va_K.moved (u := U) (U := U.calling g mk a) hA h1, fun w hw => va_Nw.same (exW_on w hw) (u := U) rfl (h2 w hw), fun w hw => va_Nw.same (nestW_on w hw) (u := U) rfl (h3 w hw), fun q hq => (h4 q hq).imp fun sa r => vk_R.same (u := U) rfl r, fun E E' q1 q2 q3 => va_Nc.moved (u := U) (U := U.calling g mk a) hA (h5 E E' q1 q2 q3), h6, va_AO.moved (u := U) (U := U.calling g mk a) hA h7, ovA_moved (u := U) (U := U.calling g mk a) hA h8⟩,
    ⟨g1.moved (u := U) (U := U.calling g mk a) hA, g2.moved (u := U) (U := U.calling g mk a) hA, g3.moved (u := U) (U := U.calling g mk a) hA, g4, g5⟩⟩
