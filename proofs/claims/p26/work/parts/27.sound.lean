/-! THE MODEL IS SOUND: what a method does in the model it does in the machine. -/
def rok (k : Nat) (v : Option Value) (pc : Nat) : Prop := match v with
  | none => decode (m_b k) pc = .ok (.return_, 1) ∧ rkf (m_ret k) = 0
  | some (.int x) => decode (m_b k) pc = .ok (.ireturn, 1) ∧ (rkf (m_ret k) = 1 ∨ (rkf (m_ret k) = 2 ∧ (x = 0 ∨ x = 1)))
  | some (.ref _) => decode (m_b k) pc = .ok (.areturn, 1) ∧ rkf (m_ret k) = 3
  | _ => False
theorem exN_lt {E : Nat} (h : E < 3) : E = 0 ∨ E = 1 ∨ E = 2 := by omega
theorem hh_cn : ∀ k, k < 112 → m_hh k ≠ [] → m_cn k = 11 := by
  have h : ∀ k ∈ List.range 112, m_hh k ≠ [] → m_cn k = 11 := by decide +kernel
  exact fun k hk => h k (List.mem_range.mpr hk)
theorem thr_cn : ∀ q ∈ thrT, q.1 = 9 ∧ q.2.1 < 3 := by decide +kernel
section Ends
variable {p : Program} {l : Launch} {e : Env} {R : Room} {s : State} {m : MethodId} {args : Array Value} {below : List Frame} {meth : Method} {c : Code} {H : Heap} {locs : List Loc} {cells slots : Nat} {Q : State → Prop}
variable {mc ms : Nat} {free : Addr → Prop} {A0 A1 : Nat → Prop} {H0 : Heap} {a : Array Value} {ls : Array Slot} {st0 rest : List Value}
variable {Qc : Array Value → State → Outcome → State → Prop} {XC : String → State → State → Prop}
/-- 'throw new E("text")': new; dup; ldc; invokespecial; athrow -/
theorem vx_thrS1 {cc : ByteArray} {pc : Nat} (hexec : p.tables.exec = Jvm.exec) (hb : c.code = cc) (hl : l.stackTraces = false) {own cls text : String} {names : List String} {ik is ic mc ms sa : Nat} {A : Nat → Prop}
    (hown : s.vm.findClass own = some m.cls) (hcls : Bundle.fit cls = true) (hnames : ∀ n ∈ names, Bundle.fit n = true)
    (hk : (Cond.classLink own ik cls).before args s = true) (hini : (Cond.initialized cls).before args s = true) (hstr : vk_R own is text sa s) (hat : ∀ w ∈ vx_atS own ic cls names, w.before args s = true)
    (hgood : ∀ w ∈ Cond.classLink own ik cls :: Cond.initialized cls :: vx_atS own ic cls names, vx_ot w = true)
    (hU : vx_Zq Bundle.tN "UNASSIGNED_STACK" Bundle.steD A s s.heap) (hN : vx_Zq Bundle.tN "SUPPRESSED_SENTINEL" Bundle.listD A s s.heap) (hS : va_S A s.heap H locs) (hsize : ls.size = c.maxLocals)
    (d0 : decode cc pc = .ok (.new ik, 3)) (d3 : decode cc (pc + 3) = .ok (.dup, 1)) (d4 : decode cc (pc + 4) = .ok (.ldc is, 2)) (d6 : decode cc (pc + 6) = .ok (.invokespecial ic, 3)) (d9 : decode cc (pc + 9) = .ok (.athrow, 1))
    (hout : ∀ x ∈ c.exceptionTable.toList, covers x (pc + 9) = false)
    (hRframes : names.length + 3 < R.frames) (hRlocals : (rest.map fun v => v.category).sum + (13 * (names.length + 1) + 43) ≤ R.locals) (hRcells : cells + 1 ≤ R.cells) (hRslots : slots + 6 ≤ R.slots) (hlocks : meth.locks = false)
    (hx : ∀ t : State, s.vm.Alike t.vm → H.size + 1 ≤ t.heap.size → (∀ q : Nat, q < H.size → t.heap[q]? = H[q]?) → XC cls s t)
    (hf : ∀ z ∈ locs, free z.base) (hc : cells + 1 ≤ mc) (hs : slots + 6 ≤ ms) :
    W p l e R s m args below meth c H locs cells slots (vx_MQ below Qc XC args s mc ms free) (F0 m pc ls rest) := by
  intro T hT X
  have htr : e.platform.stackTraces = false := (show e.platform.stackTraces = l.stackTraces by rw [X.admits.platform]).trans hl
  have Y := vx_rebase X (R' := { frames := R.frames, locals := R.locals, cells := 1, slots := 6 }) (Nat.le_refl _) (Nat.le_refl _) hRcells hRslots
  obtain ⟨s', hA⟩ : ∃ z, z = (T.setVm s.vm).setFrames (.invoking m args :: below) := ⟨_, rfl⟩
  rw [← hA] at Y
  have hvm : s'.vm = s.vm := by rw [hA]; rfl
  have hhp : s'.heap = H := by rw [hA]; exact hT
  have hW0 : s.WarmedH s'.vm := by rw [hvm]; exact State.WarmedH.refl s
  have hat' : ∀ w ∈ vx_atS own ic cls names, w.before args s' = true := fun w hw => vx_ot_at hW0 hvm.symm (hgood w (List.mem_cons_of_mem _ (List.mem_cons_of_mem _ hw))) (hat w hw)
  have hk' : (Cond.classLink own ik cls).before args s' = true := vx_ot_at hW0 hvm.symm (hgood _ List.mem_cons_self) hk
  have hini' : (Cond.initialized cls).before args s' = true := vx_ot_at hW0 hvm.symm (hgood _ (List.mem_cons_of_mem _ List.mem_cons_self)) hini
  have hU' : vx_Zq Bundle.tN "UNASSIGNED_STACK" Bundle.steD A s' s'.heap := by rw [hhp]; exact vx_Zq.moved hW0.alike (hU.kept hS.2.1)
  have hN' : vx_Zq Bundle.tN "SUPPRESSED_SENTINEL" Bundle.listD A s' s'.heap := by rw [hhp]; exact vx_Zq.moved hW0.alike (hN.kept hS.2.1)
  have h : ∀ w ∈ Bundle.ownAtoms own ic cls names, w.before args s' = true := vx_own hat' (vx_isRefq hU'.1) (vx_isRefq hN'.1) hU'.2.word hN'.2.word
  have hown' : s'.vm.findClass own = some m.cls := by rw [hvm]; exact hown
  have hins : (Cond.instantiable cls 6).before args s' = true := h _ (by simp [Bundle.ownAtoms])
  obtain ⟨vm₁, cX, kX, hfX, hkX, -, -, X₁, st1⟩ := Y.newCold hexec (own := own) (C := cls) (index := ik) (n := 6) hown' hk' hins hini'
    (g := F0 m pc ls rest) rfl (by rw [hb]; exact d0) (Nat.le_refl _) (Nat.le_refl _)
  generalize hT1 : (T.setVm vm₁).pushCell { cls := cX, slots := kX.instanceTypes.map defaultValue, vm := .none } = T1 at X₁ st1
  have hcat : (Value.ref T.heap.size).category = 1 := rfl
  have hcellA : T1.heap[T.heap.size]? = some (freshCell cX kX) := by rw [← hT1]; exact State.heap_pushCell_size _ _
  have d3' : decode c.code (pc + 3) = .ok (.dup, 1) := by rw [hb]; exact d3
  have d4' : decode c.code (pc + 4) = .ok (.ldc is, 2) := by rw [hb]; exact d4
  have hstr' : vk_R own is text sa s' := vk_R.warm hW0 hstr
  obtain ⟨U, hsteps, hrun, hend, hW, hsame, ce, hce, hO⟩ := X₁.ctorThrowS hexec htr (own := own) (cls := cls) (names := names) (ic := ic) hown' hcls hnames h (fun x hx => nomatch hx) hfX hkX hcellA (by rw [hhp, hT]; exact Nat.le_refl _) (msg := .ref sa) rfl
    (g := { method := m, pc := pc + 6, locals := ls, stack := .ref sa :: .ref T.heap.size :: .ref T.heap.size :: rest, locked := none }) rfl hsize rfl rfl (rest := rest) rfl
    (by rw [hb]; exact d6) (by rw [hb]; exact d9) hout hRframes (by simp only [List.map_cons, List.sum_cons, hcat]; omega) hlocks
  obtain ⟨f1, f2⟩ := vx_frame hsame
  rw [hhp] at f1 f2
  have hWs : s.WarmedH U.vm := State.WarmedH.trans hW0 hW
  have hcl : s.vm.findClass cls = some ce.cls := by
    have h9 := hO.cls
    rw [hvm] at h9
    exact h9
  have hall : s.sameButNew ({ U with vm := s.vm } : State) locs mc ms := by
    subst hA
    obtain ⟨e1, e2⟩ := hsame
    rw [State.setFrames_setFrames] at e1
    have h2 : (T.setVm s.vm).sameButNew ({ U with vm := s.vm } : State) [] (0 + 1) (0 + 6) := ⟨e1, e2⟩
    have h3 := X.same.trans h2
    rw [List.append_nil] at h3
    exact h3.mono hc hs
  refine ⟨U, ?_, .threw T.heap.size, hrun, hend, Or.inr ⟨T.heap.size, rfl, cls, ce, locs, hx U hWs.alike (by have h9 := (Array.getElem?_eq_some_iff.mp hce).1; rw [hT] at h9; exact h9) (fun q hq => f2 q hq (fun z hz => nomatch hz)), hce, hO.vm, hcl, hWs, hall, hf⟩⟩
  refine st1 _ ?_
  show Steps p.tables e below (T1.setTop { method := m, pc := pc + 3, locals := ls, stack := .ref T.heap.size :: rest, locked := none }) _
  jvm_step X₁.here [X₁.here.top, hexec, d3', Value.category]
  exact X₁.ldcString hexec (own := own) (text := text) (index := is) (a := sa) hown' hstr'.1 hstr'.2
    (g := { method := m, pc := pc + 4, locals := ls, stack := .ref T.heap.size :: .ref T.heap.size :: rest, locked := none }) rfl d4' _ hsteps
/-- 'throw new E("text")', the text by a wide index -/
theorem vx_thrW1 {cc : ByteArray} {pc : Nat} (hexec : p.tables.exec = Jvm.exec) (hb : c.code = cc) (hl : l.stackTraces = false) {own cls text : String} {names : List String} {ik is ic mc ms sa : Nat} {A : Nat → Prop}
    (hown : s.vm.findClass own = some m.cls) (hcls : Bundle.fit cls = true) (hnames : ∀ n ∈ names, Bundle.fit n = true)
    (hk : (Cond.classLink own ik cls).before args s = true) (hini : (Cond.initialized cls).before args s = true) (hstr : vk_R own is text sa s) (hat : ∀ w ∈ vx_atS own ic cls names, w.before args s = true)
    (hgood : ∀ w ∈ Cond.classLink own ik cls :: Cond.initialized cls :: vx_atS own ic cls names, vx_ot w = true)
    (hU : vx_Zq Bundle.tN "UNASSIGNED_STACK" Bundle.steD A s s.heap) (hN : vx_Zq Bundle.tN "SUPPRESSED_SENTINEL" Bundle.listD A s s.heap) (hS : va_S A s.heap H locs) (hsize : ls.size = c.maxLocals)
    (d0 : decode cc pc = .ok (.new ik, 3)) (d3 : decode cc (pc + 3) = .ok (.dup, 1)) (d4 : decode cc (pc + 4) = .ok (.ldc_w is, 3)) (d7 : decode cc (pc + 7) = .ok (.invokespecial ic, 3)) (d10 : decode cc (pc + 10) = .ok (.athrow, 1))
    (hout : ∀ x ∈ c.exceptionTable.toList, covers x (pc + 10) = false)
    (hRframes : names.length + 3 < R.frames) (hRlocals : (rest.map fun v => v.category).sum + (13 * (names.length + 1) + 43) ≤ R.locals) (hRcells : cells + 1 ≤ R.cells) (hRslots : slots + 6 ≤ R.slots) (hlocks : meth.locks = false)
    (hx : ∀ t : State, s.vm.Alike t.vm → H.size + 1 ≤ t.heap.size → (∀ q : Nat, q < H.size → t.heap[q]? = H[q]?) → XC cls s t)
    (hf : ∀ z ∈ locs, free z.base) (hc : cells + 1 ≤ mc) (hs : slots + 6 ≤ ms) :
    W p l e R s m args below meth c H locs cells slots (vx_MQ below Qc XC args s mc ms free) (F0 m pc ls rest) := by
  intro T hT X
  have htr : e.platform.stackTraces = false := (show e.platform.stackTraces = l.stackTraces by rw [X.admits.platform]).trans hl
  have Y := vx_rebase X (R' := { frames := R.frames, locals := R.locals, cells := 1, slots := 6 }) (Nat.le_refl _) (Nat.le_refl _) hRcells hRslots
  obtain ⟨s', hA⟩ : ∃ z, z = (T.setVm s.vm).setFrames (.invoking m args :: below) := ⟨_, rfl⟩
  rw [← hA] at Y
  have hvm : s'.vm = s.vm := by rw [hA]; rfl
  have hhp : s'.heap = H := by rw [hA]; exact hT
  have hW0 : s.WarmedH s'.vm := by rw [hvm]; exact State.WarmedH.refl s
  have hat' : ∀ w ∈ vx_atS own ic cls names, w.before args s' = true := fun w hw => vx_ot_at hW0 hvm.symm (hgood w (List.mem_cons_of_mem _ (List.mem_cons_of_mem _ hw))) (hat w hw)
  have hk' : (Cond.classLink own ik cls).before args s' = true := vx_ot_at hW0 hvm.symm (hgood _ List.mem_cons_self) hk
  have hini' : (Cond.initialized cls).before args s' = true := vx_ot_at hW0 hvm.symm (hgood _ (List.mem_cons_of_mem _ List.mem_cons_self)) hini
  have hU' : vx_Zq Bundle.tN "UNASSIGNED_STACK" Bundle.steD A s' s'.heap := by rw [hhp]; exact vx_Zq.moved hW0.alike (hU.kept hS.2.1)
  have hN' : vx_Zq Bundle.tN "SUPPRESSED_SENTINEL" Bundle.listD A s' s'.heap := by rw [hhp]; exact vx_Zq.moved hW0.alike (hN.kept hS.2.1)
  have h : ∀ w ∈ Bundle.ownAtoms own ic cls names, w.before args s' = true := vx_own hat' (vx_isRefq hU'.1) (vx_isRefq hN'.1) hU'.2.word hN'.2.word
  have hown' : s'.vm.findClass own = some m.cls := by rw [hvm]; exact hown
  have hins : (Cond.instantiable cls 6).before args s' = true := h _ (by simp [Bundle.ownAtoms])
  obtain ⟨vm₁, cX, kX, hfX, hkX, -, -, X₁, st1⟩ := Y.newCold hexec (own := own) (C := cls) (index := ik) (n := 6) hown' hk' hins hini'
    (g := F0 m pc ls rest) rfl (by rw [hb]; exact d0) (Nat.le_refl _) (Nat.le_refl _)
  generalize hT1 : (T.setVm vm₁).pushCell { cls := cX, slots := kX.instanceTypes.map defaultValue, vm := .none } = T1 at X₁ st1
  have hcat : (Value.ref T.heap.size).category = 1 := rfl
  have hcellA : T1.heap[T.heap.size]? = some (freshCell cX kX) := by rw [← hT1]; exact State.heap_pushCell_size _ _
  have d3' : decode c.code (pc + 3) = .ok (.dup, 1) := by rw [hb]; exact d3
  have d4' : decode c.code (pc + 4) = .ok (.ldc_w is, 3) := by rw [hb]; exact d4
  have hstr' : vk_R own is text sa s' := vk_R.warm hW0 hstr
  obtain ⟨U, hsteps, hrun, hend, hW, hsame, ce, hce, hO⟩ := X₁.ctorThrowS hexec htr (own := own) (cls := cls) (names := names) (ic := ic) hown' hcls hnames h (fun x hx => nomatch hx) hfX hkX hcellA (by rw [hhp, hT]; exact Nat.le_refl _) (msg := .ref sa) rfl
    (g := { method := m, pc := pc + 7, locals := ls, stack := .ref sa :: .ref T.heap.size :: .ref T.heap.size :: rest, locked := none }) rfl hsize rfl rfl (rest := rest) rfl
    (by rw [hb]; exact d7) (by rw [hb]; exact d10) hout hRframes (by simp only [List.map_cons, List.sum_cons, hcat]; omega) hlocks
  obtain ⟨f1, f2⟩ := vx_frame hsame
  rw [hhp] at f1 f2
  have hWs : s.WarmedH U.vm := State.WarmedH.trans hW0 hW
  have hcl : s.vm.findClass cls = some ce.cls := by
    have h9 := hO.cls
    rw [hvm] at h9
    exact h9
  have hall : s.sameButNew ({ U with vm := s.vm } : State) locs mc ms := by
    subst hA
    obtain ⟨e1, e2⟩ := hsame
    rw [State.setFrames_setFrames] at e1
    have h2 : (T.setVm s.vm).sameButNew ({ U with vm := s.vm } : State) [] (0 + 1) (0 + 6) := ⟨e1, e2⟩
    have h3 := X.same.trans h2
    rw [List.append_nil] at h3
    exact h3.mono hc hs
  refine ⟨U, ?_, .threw T.heap.size, hrun, hend, Or.inr ⟨T.heap.size, rfl, cls, ce, locs, hx U hWs.alike (by have h9 := (Array.getElem?_eq_some_iff.mp hce).1; rw [hT] at h9; exact h9) (fun q hq => f2 q hq (fun z hz => nomatch hz)), hce, hO.vm, hcl, hWs, hall, hf⟩⟩
  refine st1 _ ?_
  show Steps p.tables e below (T1.setTop { method := m, pc := pc + 3, locals := ls, stack := .ref T.heap.size :: rest, locked := none }) _
  jvm_step X₁.here [X₁.here.top, hexec, d3', Value.category]
  exact X₁.ldcStringW hexec (own := own) (text := text) (index := is) (a := sa) hown' hstr'.1 hstr'.2
    (g := { method := m, pc := pc + 4, locals := ls, stack := .ref T.heap.size :: .ref T.heap.size :: rest, locked := none }) rfl d4' _ hsteps
end Ends
section SO
variable {p : Program} {l : Launch} {e : Env} {R : Room} {s : State} {m : MethodId} {args : Array Value} {below : List Frame} {meth : Method} {c : Code} {D : va_G} {K : KK} {b sz L : Nat} {xs : Nat → Int32} {Q : State → Prop} {k : Nat}
variable {pc : Nat} {is : List Ent} {lv : List (Option Value)} {st : List Value} {h : MH} {c0 s0 : Nat} {o : Out}
/-- what a throw needs, of the exception's row in the tables -/
theorem thr_facts {E ik ic si : Nat} (hts : ∀ w ∈ lwg, w.before args s = true) (hV : FxV D K s) (hT : (m_cn k, E, ik, ic, si) ∈ thrT) : m_cn k = 9 ∧ E < 3 ∧ cnm (m_cn k) = RX9 ∧ (Cond.classLink (cnm (m_cn k)) ik (exN E)).before args s = true ∧ (Cond.initialized (exN E)).before args s = true ∧ Bundle.fit (exN E) = true ∧ (∀ w ∈ vx_atS (cnm (m_cn k)) ic (exN E) exS, w.before args s = true) ∧ (∀ w ∈ Cond.classLink (cnm (m_cn k)) ik (exN E) :: Cond.initialized (exN E) :: vx_atS (cnm (m_cn k)) ic (exN E) exS, vx_ot w = true) ∧ ∃ tx sa, vk_R (cnm (m_cn k)) si tx sa s := by
  obtain ⟨t1, ⟨tx, t2⟩, t3⟩ := thrT_ok _ hT
  have t1 : (m_cn k, E, ik, ic) ∈ thkT := t1
  have t2 : (si, tx) ∈ strT := t2
  have t3 : cnm (m_cn k) = RX9 := t3
  obtain ⟨t4, t5⟩ := thr_cn _ hT
  have t4 : m_cn k = 9 := t4
  have t5 : E < 3 := t5
  obtain ⟨q1, q2, q3, q4, q5⟩ := thkT_ok _ t1
  have q4 : ∀ w ∈ (vx_atS (cnm (m_cn k)) ic (exN E) exS).filter goodWord, w ∈ lwg := q4
  have q6 : ∀ w ∈ (vx_atS (cnm (m_cn k)) ic (exN E) exS).filter (fun w => !goodWord w), w ∈ exW := exW_of (m_cn k, E, ik, ic) t1
  have hat : ∀ w ∈ vx_atS (cnm (m_cn k)) ic (exN E) exS, w.before args s = true := by
    generalize vx_atS (cnm (m_cn k)) ic (exN E) exS = LL at q4 q6 ⊢
    exact vx_hat (L := LL) (B := exW) (fun w hw => hts w (q4 w hw)) q6 (fun w hw => va_Nw.use (exW_on w hw) (hV.2.1 w hw))
  obtain ⟨sa, hsa⟩ := hV.2.2.2.1 _ t2
  have hsa : vk_R RX9 si tx sa s := hsa
  rw [← t3] at hsa
  exact ⟨t4, t5, t3, hts _ q1, hts _ q2, q3, hat, q5, tx, sa, hsa⟩
theorem Wh.of {H : Heap} {locs : List Loc} {t : State} (hR : RH D K b sz L xs s.heap h H locs) (h1 : H.size ≤ t.heap.size) (h2 : ∀ q : Nat, q < H.size → t.heap[q]? = H[q]?) : Wh D K b sz L xs h t ∧ va_F (fun q => sz ≤ q) s t :=
  ⟨⟨hR.1.kept (fun k x hx => h2 x.1 ((hR.1 k x hx).lt)), hR.2.2.1, hR.2.2.2.1, Nat.le_trans hR.2.2.2.2 h1⟩, ⟨Nat.le_trans hR.2.1.1 h1, fun q q1 q2 => (h2 q (Nat.lt_of_lt_of_le q1 hR.2.1.1)).trans (hR.2.1.2.1 q q1 q2)⟩⟩
theorem Wh.th {H : Heap} {locs : List Loc} {t : State} (hR : RH D K b sz L xs s.heap h H locs) (h1 : H.size + 1 ≤ t.heap.size) (h2 : ∀ q : Nat, q < H.size → t.heap[q]? = H[q]?) : Wh D K b sz L xs (hth h) t ∧ va_F (fun q => sz ≤ q) s t := by
  obtain ⟨w, f⟩ := Wh.of hR (Nat.le_of_succ_le h1) h2
  have hn : h.2.2 (h.1 + 1) = none := by
    cases q : h.2.2 (h.1 + 1) with
    | none => rfl
    | some x => exact absurd (hR.2.2.1 _ _ q) (Nat.not_succ_le_self _)
  refine ⟨⟨by rw [mkw_th hn]; exact w.1, fun a x hx => Nat.le_succ_of_le (hR.2.2.1 a x hx), hR.2.2.2.1, ?_⟩, f⟩
  show sz + (h.1 + 1) ≤ t.heap.size
  have := hR.2.2.2.2
  omega
theorem sd_thr {ix x E : Nat} {r : Res} (hx : p.tables.exec = Jvm.exec) (hb : c.code = m_b k) (hml : c.maxLocals = m_L k) (hts : ∀ w ∈ lwg, w.before args s = true) (hown : s.vm.findClass (cnm (m_cn k)) = some m.cls) (hV : FxV D K s) (hF : FxH b sz L xs s) (hlocks : meth.locks = false) (hl : l.stackTraces = false) (htab : m_hh k = [] → ∀ x ∈ c.exceptionTable.toList, False) (hk : k < 112)
    (hRf : 6 ≤ R.frames) (hRl : 82 ≤ R.locals) (hRc : r.2.2.1 ≤ R.cells ∧ r.2.2.2 ≤ R.slots) (hx9 : ¬ x < 8) (ok : okS k pc ((.new ix, 3, x, E, c0) :: is)) {c1 s1 : Nat} (hs : s_new (m_cn k) ix x (pc + 3) is lv st h c1 s1 = some (.inr (.inl r))) (hQ : Q = vx_MQ below (QcM D K b sz L xs r) (XcM D K b sz L xs r) args s r.2.2.1 r.2.2.2 (fun q => sz ≤ q)) : MW p l e R s m args below meth c D K b sz L xs Q k pc lv st h c1 s1 := by
  intro H locs ls hR hZ hL
  subst hQ
  unfold s_new at hs
  rw [if_neg hx9] at hs
  have hhh : m_cn k = 9 → m_hh k = [] := fun h9 => by
    by_cases q : m_hh k = []
    · exact q
    · exact absurd ((hh_cn k hk q).symm.trans h9) (by decide)
  split at hs
  · next a1 si a2 ic a3 a4 tl =>
    split at hs
    · next hc =>
      obtain ⟨hT, hst⟩ := hc
      simp only [Option.some.injEq, Sum.inr.injEq, Sum.inl.injEq] at hs
      subst hs
      subst hst
      obtain ⟨f1, f2, f3, f4, f5, f6, f7, f8, tx, sa, f9⟩ := thr_facts hts hV hT
      have d3 := ok.tail.dec
      have d4 := ok.tail.tail.dec
      have d6 := ok.tail.tail.tail.dec
      have d9 := ok.tail.tail.tail.tail.dec
      exact vx_thrS1 (rest := []) hx hb hl hown f6 (by decide +kernel) f4 f5 f9 f7 f8 hF.1 hF.2.1 hR.2.1 (by rw [hml]; exact hL.2.1.1) ok.dec d3 d4 d6 d9 (fun x hx => (htab (hhh f1) x hx).elim) (by exact hRf) (by exact hRl) hRc.1 hRc.2 hlocks
        (fun t _ q1 q2 => ⟨⟨_, rfl, f2, rfl, (Wh.th hR q1 q2).1⟩, (Wh.th hR q1 q2).2⟩) hR.2.1.2.2 (Nat.le_refl _) (Nat.le_refl _)
    · cases hs
  · next a1 si a2 ic a3 a4 tl =>
    split at hs
    · next hc =>
      obtain ⟨hT, hst⟩ := hc
      simp only [Option.some.injEq, Sum.inr.injEq, Sum.inl.injEq] at hs
      subst hs
      subst hst
      obtain ⟨f1, f2, f3, f4, f5, f6, f7, f8, tx, sa, f9⟩ := thr_facts hts hV hT
      have d3 := ok.tail.dec
      have d4 := ok.tail.tail.dec
      have d6 := ok.tail.tail.tail.dec
      have d9 := ok.tail.tail.tail.tail.dec
      exact vx_thrW1 (rest := []) hx hb hl hown f6 (by decide +kernel) f4 f5 f9 f7 f8 hF.1 hF.2.1 hR.2.1 (by rw [hml]; exact hL.2.1.1) ok.dec d3 d4 d6 d9 (fun x hx => (htab (hhh f1) x hx).elim) (by exact hRf) (by exact hRl) hRc.1 hRc.2 hlocks
        (fun t _ q1 q2 => ⟨⟨_, rfl, f2, rfl, (Wh.th hR q1 q2).1⟩, (Wh.th hR q1 q2).2⟩) hR.2.1.2.2 (Nat.le_refl _) (Nat.le_refl _)
    · cases hs
  · cases hs
end SO
