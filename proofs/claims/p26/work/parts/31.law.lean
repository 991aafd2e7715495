/-! THE LAW: from its entry the model says of it what is so. -/
def R_law : String := "PoleShopLaw"
def lw_P (b : Addr) (xs : List Int32) (args : Array Value) (s : State) : Prop := args = #[.ref b] ∧ s.IntsAt b xs ∧ xs.length ≤ 260 ∧ (Jvm.Cond.and given_1 narrow_1).before args s = true
def lw_Q (_ : Array Value) (s : State) (o : Outcome) (t : State) : Prop := o = .returned (some (.int 1)) ∧ Framed s o t [] 600086 7301442
def lw_Z (below : List Frame) (a : Array Value) (s : State) : State → Prop := fun t => ∃ o, t.status = .running ∧ Ended t below o ∧ lw_Q a s o t
/-- the law's own end, with 1 on the stack, nothing written that was there before, its room as the claim has it -/
theorem lw_ret {p : Program} {l : Launch} {e : Env} {s : State} {m : MethodId} {below : List Frame} {meth : Method} {c : Code} {b : Nat} (hx : p.tables.exec = Jvm.exec) (hb : c.code = code) (hr : meth.sig.returnType = ret) (hlocks : meth.locks = false) {pc : Nat} {H : Heap} {ls : Array Slot} (hdg : decode code pc = .ok (.ireturn, 1)) : W p l e room_1 s m #[Value.ref b] below meth c H [] 600086 7301442 (lw_Z below #[Value.ref b] s) (F0 m pc ls [.int 1]) := by
  intro T hT X
  obtain ⟨fs, hret, hrun, hended, hW, hframe⟩ := X.leave (v := some (.int 1)) (hlocks := hlocks) (fun h => by rw [hr] at h; cases h)
  have hmeth' : T.vm.method? m = some meth := X.method'
  refine ⟨T.setFrames fs, ?_, .returned (some (.int 1)), hrun, hended, rfl, ⟨_, rfl⟩, hW, hframe⟩
  jvm_step X.here [X.here.top, hx, hb, hdg, hmeth', hr, ret, narrow_b1]
  (try refine ⟨rfl, ?_⟩); (try refine ⟨rfl, ?_⟩)
  first | (intro acts; rw [hret _ acts rfl rfl rfl]) | rw [hret _ _ rfl rfl rfl]
  exact Steps.refl _
/-- what holds at the law's entry -/
def lw_At (p : Program) (s : State) (m : MethodId) (meth : Method) (c : Code) (b L : Nat) (xs : Nat → Int32) : Prop :=
  p.tables.exec = Jvm.exec ∧ c.code = code ∧ meth.sig.returnType = ret ∧ c.maxLocals = 10 ∧ s.vm.findClass R_law = some m.cls ∧ (∀ w ∈ lw_tbl, w.before #[Value.ref b] s = true) ∧ va_X b L xs s s.heap ∧ b < s.heap.size ∧ meth.locks = false ∧ (Jvm.Cond.and given_1 narrow_1).before #[Value.ref b] s = true
theorem law_b : m_b 111 = code := rfl
theorem law_ret : m_ret 111 = ret := rfl
/-- the heap of the model with the script alone -/
def mh0 (L : Nat) (xs : Nat → Int32) : MH := (0, false, fun j => if j = 0 then some (mI L xs) else none)
theorem strT_exactly : ∀ q ∈ strT, Cond.exactly (.string "PoleShop" q.1) "java/lang/String" ∈ flatC (Jvm.Cond.and given_1 narrow_1) := by decide +kernel
theorem strT_ref : ∀ q ∈ strT, Cond.stringRef "PoleShop" q.1 q.2 ∈ lw_tbl := by decide +kernel
theorem nc_in : ∀ a ∈ [0, 1, 2], ∀ b ∈ [0, 1, 2], a ≠ b → Cond.not (.castable (exN a) (exN b)) ∈ flatC (Jvm.Cond.and given_1 narrow_1) := by decide +kernel
theorem isU_in : Cond.isRef (.static Bundle.tN "UNASSIGNED_STACK" Bundle.steD) ∈ flatC (Jvm.Cond.and given_1 narrow_1) := by decide +kernel
theorem isN_in : Cond.isRef (.static Bundle.tN "SUPPRESSED_SENTINEL" Bundle.listD) ∈ flatC (Jvm.Cond.and given_1 narrow_1) := by decide +kernel
theorem lyU_in : Cond.laysStatic Bundle.tN "UNASSIGNED_STACK" Bundle.steD ∈ lw_tbl := by decide +kernel
theorem lyN_in : Cond.laysStatic Bundle.tN "SUPPRESSED_SENTINEL" Bundle.listD ∈ lw_tbl := by decide +kernel
theorem tN_in : Cond.initialized Bundle.tN ∈ lw_tbl := by decide +kernel
theorem asg_self (vm : Vm) (c : ClassId) : vm.assignable c c = true := by
  show Vm.assignableAux vm (255 + 1) c c = true
  rw [Vm.assignableAux, beq_self_eq_true, Bool.true_or]
theorem law_fix {s : State} {args : Array Value} (hts : ∀ w ∈ lw_tbl, w.before args s = true) (hg : (Jvm.Cond.and given_1 narrow_1).before args s = true) : ∃ D K, FxV D K s := by
  have hgf := flat_of_before _ hg
  have htg : ∀ w ∈ lwg, w.before args s = true := fun w hw => hts w (List.mem_filter.mp hw).1
  have h1 : ∀ ci : Nat, ∃ cC : ClassId, ∃ iS : Nat → Nat, ∀ q : vw_C, vwCl[ci]? = some q → u_Kn s q.1 q.2.1 q.2.2 cC iS := by
    intro ci
    by_cases hc : ci < 8
    · obtain ⟨C, T, N, ty, g1, g2, g3, g4, g5, g6, g7, g8⟩ := cls_ok ci hc
      obtain ⟨cC, iS, h⟩ := u_known htg g4 (htg _ g6)
      exact ⟨cC, iS, fun q hq => by cases Option.some.inj (g1.symm.trans hq); exact h⟩
    · exact ⟨0, fun _ => 0, fun q hq => absurd (vwlt hq) hc⟩
  obtain ⟨dC, h2⟩ := Classical.axiomOfChoice h1
  obtain ⟨dI, h3⟩ := Classical.axiomOfChoice h2
  obtain ⟨cI, kI, coI, i1, i2, i3⟩ := Cond.arrayClass_spec (htg _ w_ci)
  obtain ⟨coA, cA, kA, a1, a2, a3, a4⟩ := Cond.arrayOver_specA (hts _ w_oa)
  obtain ⟨coP, cP, kP, p1, -, p3, p4, p5⟩ := Cond.arrayOver_spec (hts _ w_op)
  have hco : coA = cI := Option.some.inj (a1.symm.trans i1)
  subst hco
  refine ⟨(dC, dI), (coA, coA, cA, cP), ⟨fun c q hq => h3 c q hq, fun k q hq => ?_⟩, fun w hw => va_Nw.of (exW_on w hw) (hts w (exW_tbl w hw)), fun w hw => va_Nw.of (nestW_on w hw) (hts w (nestW_tbl w hw)), fun q hq => ?_, fun E E' h h' hne => ?_, ⟨kA, kI, a2, a3, i2, asg_self _ _⟩, va_AO.of (hts _ w_op), hts _ w_oa⟩
  · match k, hq with
    | 0, hq => cases hq; exact ⟨fun N z => ⟨(fun q hq => by cases hq), kI, i2, coI, i3⟩, i1⟩
    | 1, hq => cases hq; exact ⟨fun N z => ⟨(fun q hq => by cases hq), kI, i2, coI, i3⟩, i1⟩
    | 2, hq => cases hq; exact ⟨fun N z => ⟨(fun q hq => by cases hq), kA, a2, coA, a3⟩, a4⟩
    | 3, hq => cases hq; exact ⟨fun N z => ⟨(fun q hq => by cases hq), kP, p3, coP, p4⟩, kP, coP, p3, p4, p1, p5⟩
    | k + 4, hq => simp [tysK] at hq
  · obtain ⟨a, -, -, -, h9, -⟩ := Cond.exactly_spec (hgf _ (strT_exactly q hq))
    exact ⟨a, vk_R.of (A := args) (hts _ (strT_ref q hq)) h9⟩
  · have m : ∀ {E : Nat}, E < 3 → E ∈ [0, 1, 2] := fun h => by
      rcases exN_lt h with rfl | rfl | rfl <;> simp
    exact va_Nc.of (hgf _ (nc_in E (m h) E' (m h') hne))
theorem whole_of_run (hrun : ∀ (L : Nat) (xs : Nat → Int32), L ≤ 260 → ∃ h9 c9 s9, c9 ≤ 600086 ∧ s9 ≤ 7301442 ∧ Rn (Ev 11) 111 (0, [], lv0 10 [.ref 0], [], mh0 L xs, 0, 0) (.inl (some (.int 1)), h9, c9, s9))
    {p : Program} {e : Env} {s : State} {m : MethodId} {below : List Frame} {meth : Method} {c : Code} (l : Launch) (hflags : l.flags = flags0) {b L : Nat} {xs : Nat → Int32} (hL : L ≤ 260) (C0 : lw_At p s m meth c b L xs) : W p l e room_1 s m #[Value.ref b] below meth c s.heap [] 0 0 (lw_Z below #[Value.ref b] s) (entryFrame m ([Value.ref b] : List Value).toArray 10) := by
  obtain ⟨hx, hb, hr, hml, hown, hts, hX, hbl, hlocks, hgv⟩ := C0
  obtain ⟨h9, c9, s9, hc9, hs9, f, hf⟩ := hrun L xs hL
  obtain ⟨D, K, hV⟩ := law_fix hts hgv
  have hgf := flat_of_before _ hgv
  have hA : ∀ a : Nat, a < s.heap.size → ¬ (fun q => s.heap.size ≤ q) a := fun a ha => Nat.not_le.mpr ha
  have hF : FxH b s.heap.size L xs s := ⟨vx_Zqof (hts _ lyU_in) (hts _ tN_in) (hgf _ isU_in) hA, vx_Zqof (hts _ lyN_in) (hts _ tN_in) (hgf _ isN_in) hA, hX, hbl, Nat.le_refl _⟩
  have hl : l.stackTraces = false := by
    unfold Launch.stackTraces
    rw [hflags]
    decide +kernel
  have hC : Cx l p s m #[Value.ref b] meth c D K b s.heap.size L xs 111 := ⟨hx, hb.trans law_b.symm, hml, fun w hw => hts w (List.mem_filter.mp hw).1, hown, hV, hF, hlocks, hl, fun h => absurd rfl h, fun h => absurd h (by decide)⟩
  have hM := run_sound (R := room_1) (e := e) (below := below) (Q := lw_Z below #[Value.ref b] s) (r := (.inl (some (.int 1)), h9, c9, s9)) (d := 11) hC (by decide) bl_law (fun x ar h q hx hE => sound hl D K b s.heap.size L xs 11 x ar h q hx hE) (by decide) (by decide) ⟨hc9, hs9⟩ (fun E hE => by cases hE)
    (fun v hv pc H locs ls hR hok => by
      cases hv
      refine va_forget (fun q hq => hR.2.1.2.2 q hq) ?_
      refine W.widen hc9 hs9 ?_
      exact lw_ret hx hb hr hlocks (by rw [← law_b]; exact hok.1)) f 0 [] (lv0 10 [.ref 0]) [] (mh0 L xs) 0 0 hf okS.nil
  have hLV := LV.entry (b := b) (sz := s.heap.size) (n := 10) (ar := [.ref 0]) (fun v hv => by cases List.mem_singleton.mp hv; rfl) (by decide)
  rw [lg_entry_eq]
  refine hM s.heap [] _ ⟨fun k q h => ?_, va_S.rf, fun a x hx => ?_, rfl, Nat.le_refl _⟩ (fun _ => rfl) hLV
  · simp [mkw, mh0] at h
  · by_cases e0 : a = 0
    · rw [e0]
      exact Nat.zero_le _
    · simp [mh0, e0] at hx
