section
-- ===== PART A: goes FIRST, ahead of the names: the tables' words, and 'selects' of the private methods out of them =====
/-- a private method of a class that the tables say can be made, by its rows of tables_1 -/
def lw_okq (q : MethodName × Nat) : Prop := (q.1.cls ≠ "java/lang/invoke/MethodHandle" ∧ q.1.cls ≠ "java/lang/invoke/VarHandle") ∧ Cond.instantiable q.1.cls q.2 ∈ tables_1 ∧ Cond.privateMethod q.1 ∈ tables_1 ∧ Cond.instanceMethod q.1 ∈ tables_1
theorem lw_p0 : lw_okq (⟨"java/lang/Throwable", "fillInStackTrace", "(I)Ljava/lang/Throwable;"⟩, 6) := ⟨⟨by decide +kernel, by decide +kernel⟩, List.mem_of_getElem? (i := 292) (by decide +kernel), List.mem_of_getElem? (i := 290) (by decide +kernel), List.mem_of_getElem? (i := 291) (by decide +kernel)⟩
theorem lw_p1 : lw_okq (⟨"PoleShop", "newPlant", "(I)LPoleShop$Plant;"⟩, 11) := ⟨⟨by decide +kernel, by decide +kernel⟩, List.mem_of_getElem? (i := 18) (by decide +kernel), List.mem_of_getElem? (i := 322) (by decide +kernel), List.mem_of_getElem? (i := 323) (by decide +kernel)⟩
theorem lw_p2 : lw_okq (⟨"PoleShop", "plantOf", "(I)LPoleShop$Plant;"⟩, 11) := ⟨⟨by decide +kernel, by decide +kernel⟩, List.mem_of_getElem? (i := 18) (by decide +kernel), List.mem_of_getElem? (i := 346) (by decide +kernel), List.mem_of_getElem? (i := 347) (by decide +kernel)⟩
theorem lw_p3 : lw_okq (⟨"PoleShop$Plant", "putPart", "(ILPoleShop$Plant;II)V"⟩, 5) := ⟨⟨by decide +kernel, by decide +kernel⟩, List.mem_of_getElem? (i := 48) (by decide +kernel), List.mem_of_getElem? (i := 398) (by decide +kernel), List.mem_of_getElem? (i := 399) (by decide +kernel)⟩
theorem lw_p4 : lw_okq (⟨"PoleShop", "findGains", "(LPoleShop$Plant;)V"⟩, 11) := ⟨⟨by decide +kernel, by decide +kernel⟩, List.mem_of_getElem? (i := 18) (by decide +kernel), List.mem_of_getElem? (i := 453) (by decide +kernel), List.mem_of_getElem? (i := 454) (by decide +kernel)⟩
theorem lw_p5 : lw_okq (⟨"PoleShop", "requirePoles", "(I)V"⟩, 11) := ⟨⟨by decide +kernel, by decide +kernel⟩, List.mem_of_getElem? (i := 18) (by decide +kernel), List.mem_of_getElem? (i := 457) (by decide +kernel), List.mem_of_getElem? (i := 458) (by decide +kernel)⟩
theorem lw_p6 : lw_okq (⟨"PoleShop$Equations", "firstWith", "(III)I"⟩, 1) := ⟨⟨by decide +kernel, by decide +kernel⟩, List.mem_of_getElem? (i := 96) (by decide +kernel), List.mem_of_getElem? (i := 490) (by decide +kernel), List.mem_of_getElem? (i := 491) (by decide +kernel)⟩
theorem lw_p7 : lw_okq (⟨"PoleShop$Equations", "swap", "(II)V"⟩, 1) := ⟨⟨by decide +kernel, by decide +kernel⟩, List.mem_of_getElem? (i := 96) (by decide +kernel), List.mem_of_getElem? (i := 494) (by decide +kernel), List.mem_of_getElem? (i := 495) (by decide +kernel)⟩
theorem lw_p8 : lw_okq (⟨"PoleShop$Equations", "divide", "(III)V"⟩, 1) := ⟨⟨by decide +kernel, by decide +kernel⟩, List.mem_of_getElem? (i := 96) (by decide +kernel), List.mem_of_getElem? (i := 498) (by decide +kernel), List.mem_of_getElem? (i := 499) (by decide +kernel)⟩
theorem lw_p9 : lw_okq (⟨"PoleShop$Equations", "takeAway", "(III)V"⟩, 1) := ⟨⟨by decide +kernel, by decide +kernel⟩, List.mem_of_getElem? (i := 96) (by decide +kernel), List.mem_of_getElem? (i := 504) (by decide +kernel), List.mem_of_getElem? (i := 505) (by decide +kernel)⟩
theorem lw_p10 : lw_okq (⟨"PoleShop", "findWatch", "(LPoleShop$Plant;)V"⟩, 11) := ⟨⟨by decide +kernel, by decide +kernel⟩, List.mem_of_getElem? (i := 18) (by decide +kernel), List.mem_of_getElem? (i := 528) (by decide +kernel), List.mem_of_getElem? (i := 529) (by decide +kernel)⟩
theorem lw_p11 : lw_okq (⟨"PoleShop$Placing", "findAsked", "(ILPoleShop$Typed;)V"⟩, 4) := ⟨⟨by decide +kernel, by decide +kernel⟩, List.mem_of_getElem? (i := 90) (by decide +kernel), List.mem_of_getElem? (i := 584) (by decide +kernel), List.mem_of_getElem? (i := 585) (by decide +kernel)⟩
theorem lw_p12 : lw_okq (⟨"PoleShop", "goBack", "(LPoleShop$Plant;III)V"⟩, 11) := ⟨⟨by decide +kernel, by decide +kernel⟩, List.mem_of_getElem? (i := 18) (by decide +kernel), List.mem_of_getElem? (i := 598) (by decide +kernel), List.mem_of_getElem? (i := 599) (by decide +kernel)⟩
theorem lw_p13 : lw_okq (⟨"PoleShop$StepsBack", "beginAtEnd", "(LPoleShop$Plant;I)V"⟩, 7) := ⟨⟨by decide +kernel, by decide +kernel⟩, List.mem_of_getElem? (i := 173) (by decide +kernel), List.mem_of_getElem? (i := 610) (by decide +kernel), List.mem_of_getElem? (i := 611) (by decide +kernel)⟩
theorem lw_p14 : lw_okq (⟨"PoleShop$StepsBack", "stepBack", "(LPoleShop$Plant;II[I)V"⟩, 7) := ⟨⟨by decide +kernel, by decide +kernel⟩, List.mem_of_getElem? (i := 173) (by decide +kernel), List.mem_of_getElem? (i := 618) (by decide +kernel), List.mem_of_getElem? (i := 619) (by decide +kernel)⟩
theorem lw_p15 : lw_okq (⟨"PoleShop$StepsBack", "turnedEntry", "(I[[III)I"⟩, 7) := ⟨⟨by decide +kernel, by decide +kernel⟩, List.mem_of_getElem? (i := 173) (by decide +kernel), List.mem_of_getElem? (i := 625) (by decide +kernel), List.mem_of_getElem? (i := 626) (by decide +kernel)⟩
def lw_privs_1 : List (MethodName × Nat) := [(⟨"java/lang/Throwable", "fillInStackTrace", "(I)Ljava/lang/Throwable;"⟩, 6), (⟨"PoleShop", "newPlant", "(I)LPoleShop$Plant;"⟩, 11), (⟨"PoleShop", "plantOf", "(I)LPoleShop$Plant;"⟩, 11), (⟨"PoleShop$Plant", "putPart", "(ILPoleShop$Plant;II)V"⟩, 5), (⟨"PoleShop", "findGains", "(LPoleShop$Plant;)V"⟩, 11), (⟨"PoleShop", "requirePoles", "(I)V"⟩, 11), (⟨"PoleShop$Equations", "firstWith", "(III)I"⟩, 1), (⟨"PoleShop$Equations", "swap", "(II)V"⟩, 1), (⟨"PoleShop$Equations", "divide", "(III)V"⟩, 1), (⟨"PoleShop$Equations", "takeAway", "(III)V"⟩, 1), (⟨"PoleShop", "findWatch", "(LPoleShop$Plant;)V"⟩, 11), (⟨"PoleShop$Placing", "findAsked", "(ILPoleShop$Typed;)V"⟩, 4), (⟨"PoleShop", "goBack", "(LPoleShop$Plant;III)V"⟩, 11), (⟨"PoleShop$StepsBack", "beginAtEnd", "(LPoleShop$Plant;I)V"⟩, 7), (⟨"PoleShop$StepsBack", "stepBack", "(LPoleShop$Plant;II[I)V"⟩, 7), (⟨"PoleShop$StepsBack", "turnedEntry", "(I[[III)I"⟩, 7)]
theorem lw_r1 : ∀ q ∈ lw_privs_1, lw_okq q := List.forall_mem_cons.mpr ⟨lw_p0, List.forall_mem_cons.mpr ⟨lw_p1, List.forall_mem_cons.mpr ⟨lw_p2, List.forall_mem_cons.mpr ⟨lw_p3, List.forall_mem_cons.mpr ⟨lw_p4, List.forall_mem_cons.mpr ⟨lw_p5, List.forall_mem_cons.mpr ⟨lw_p6, List.forall_mem_cons.mpr ⟨lw_p7, List.forall_mem_cons.mpr ⟨lw_p8, List.forall_mem_cons.mpr ⟨lw_p9, List.forall_mem_cons.mpr ⟨lw_p10, List.forall_mem_cons.mpr ⟨lw_p11, List.forall_mem_cons.mpr ⟨lw_p12, List.forall_mem_cons.mpr ⟨lw_p13, List.forall_mem_cons.mpr ⟨lw_p14, List.forall_mem_cons.mpr ⟨lw_p15, fun _ h => absurd h List.not_mem_nil⟩⟩⟩⟩⟩⟩⟩⟩⟩⟩⟩⟩⟩⟩⟩⟩
theorem lw_p16 : lw_okq (⟨"PoleShop$StepsBack", "costHere", "(LPoleShop$Plant;I)I"⟩, 7) := ⟨⟨by decide +kernel, by decide +kernel⟩, List.mem_of_getElem? (i := 173) (by decide +kernel), List.mem_of_getElem? (i := 644) (by decide +kernel), List.mem_of_getElem? (i := 645) (by decide +kernel)⟩
theorem lw_p17 : lw_okq (⟨"PoleShop$Polynomials", "takeRest", "(II)V"⟩, 7) := ⟨⟨by decide +kernel, by decide +kernel⟩, List.mem_of_getElem? (i := 120) (by decide +kernel), List.mem_of_getElem? (i := 740) (by decide +kernel), List.mem_of_getElem? (i := 741) (by decide +kernel)⟩
def lw_privs_2 : List (MethodName × Nat) := [(⟨"PoleShop$StepsBack", "costHere", "(LPoleShop$Plant;I)I"⟩, 7), (⟨"PoleShop$Polynomials", "takeRest", "(II)V"⟩, 7)]
theorem lw_r2 : ∀ q ∈ lw_privs_2, lw_okq q := List.forall_mem_cons.mpr ⟨lw_p16, List.forall_mem_cons.mpr ⟨lw_p17, fun _ h => absurd h List.not_mem_nil⟩⟩
def lw_privs : List (MethodName × Nat) := lw_privs_1 ++ (lw_privs_2)
def lw_tbl : List Cond := k2_sels lw_privs ++ tables_1
theorem lw_privs_ok : ∀ q ∈ lw_privs, lw_okq q := by
  show ∀ q ∈ lw_privs_1 ++ (lw_privs_2), lw_okq q
  exact List.forall_mem_append.mpr ⟨lw_r1, lw_r2⟩

/-! ===== BEGIN words of one list among another's, by their places ===== -/
theorem goodIn_r {big : List Cond} (ws : List Cond) (ps : List Nat) (hp : ws = ps.filterMap (fun i => big[i]?)) (h : ws.all goodWord = true) : GoodIn big ws := by
  intro w hw
  have h1 := List.all_eq_true.mp h w hw
  rw [hp] at hw
  obtain ⟨i, -, hi⟩ := List.mem_filterMap.mp hw
  have hm : w ∈ big := by first | exact List.mem_of_getElem? hi | exact List.getElem?_mem hi
  exact ⟨hm, good_of_word h1⟩
theorem goodIn_app {big a b : List Cond} (ha : GoodIn big a) (hb : GoodIn big b) : GoodIn big (a ++ b) := fun w h => (List.mem_append.mp h).elim (ha w) (hb w)
theorem goodIn_ca {big a b : List Cond} {c : Cond} (ha : GoodIn big (c :: a)) (hb : GoodIn big b) : GoodIn big (c :: (a ++ b)) := fun w h => (List.mem_cons.mp h).elim (fun e => ha w (List.mem_cons.mpr (Or.inl e))) (fun h => (List.mem_append.mp h).elim (fun h => ha w (List.mem_cons.mpr (Or.inr h))) (hb w))
theorem goodIn_sub {big ws : List Cond} (hm : ∀ w ∈ ws, w ∈ big) (h : ws.all goodWord = true) : GoodIn big ws := fun w hw => ⟨hm w hw, good_of_word (List.all_eq_true.mp h w hw)⟩
/-! ===== END ===== -/

/-! ===== BEGIN new T[n][m]: the outer array a place, the inner ones among the pooled ===== -/
/-- f, but v at every address of l -/
def vr_up {α : Type} (f : Nat → α) (l : List Nat) (v : α) : Nat → α := fun a => if a ∈ l then v else f a
theorem vr_up_in {α : Type} {f : Nat → α} {l : List Nat} {v : α} {a : Nat} (h : a ∈ l) : vr_up f l v a = v := if_pos h
theorem vr_up_ne {α : Type} {f : Nat → α} {l : List Nat} {v : α} {a : Nat} (h : a ∉ l) : vr_up f l v a = f a := if_neg h
theorem vr_rows {L l : List Nat} {f : Nat → va_E} {e : va_E} (h : ∀ a, a ∈ l → a ∉ L) : va_pl L f ++ l.map (fun a => (a, e)) = va_pl (L ++ l) (vr_up f l e) := by
  unfold va_pl
  rw [List.map_append]
  congr 1
  · apply List.map_congr_left
    intro a ha
    rw [vr_up_ne (fun q => h a q ha)]
  · apply List.map_congr_left
    intro a ha
    rw [vr_up_in ha]
theorem vr_lay {X rows : va_W} {x : Nat × va_E} {pl : va_W} {D : va_G} {cl : List vw_C} {H : Heap} (hP : va_P D cl (((X ++ pl) ++ [x]) ++ rows) H) : va_P D cl ((X ++ [x]) ++ (pl ++ rows)) H := by
  rw [List.append_assoc (X ++ pl)] at hP
  have h := va_P.swap hP
  rw [← List.append_assoc X] at h
  have h2 := va_P.swap h
  rw [List.append_assoc (X ++ [x])] at h2
  exact h2
theorem vr_layD {X rows : va_W} {x : Nat × va_E} {pl : va_W} {A : Nat → Prop} (hD : va_D A (((X ++ pl) ++ [x]) ++ rows)) : va_D A ((X ++ [x]) ++ (pl ++ rows)) := by
  rw [List.append_assoc (X ++ pl)] at hD
  have h := va_D.swap hD
  rw [← List.append_assoc X] at h
  have h2 := va_D.swap h
  rw [List.append_assoc (X ++ [x])] at h2
  exact h2
theorem vr_outer (c : ClassId) (N h0 : Nat) : ∀ i : Nat, Jvm.Free.Multi.outerC c N h0 i = arrV c N (fun j => va_rf (if j < i then some (h0 + 1 + j) else none))
  | 0 => by
    show ({ cls := c, slots := Array.replicate N .null, vm := .none } : Cell) = _
    rw [arrV_new]
    refine congrArg (arrV c N) (funext fun j => ?_)
    simp [va_rf]
  | i + 1 => by
    show (Jvm.Free.Multi.outerC c N h0 i).setSlot i (.ref (h0 + 1 + i)) = _
    rw [vr_outer c N h0 i, arrV_store]
    refine congrArg (arrV c N) (funext fun j => ?_)
    by_cases e : j = i
    · subst e
      simp [updV, va_rf]
    · by_cases h : j < i
      · simp [updV, e, h, Nat.lt_succ_of_lt h]
      · simp [updV, e, h, show ¬ j < i + 1 by omega]
section VGM
variable {p : Program} {l : Launch} {e : Env} {R : Room} {s : State} {m : MethodId} {args : Array Value} {below : List Frame} {meth : Method} {c : Code} {H : Heap} {locs : List Loc} {cells slots : Nat} {Q : State → Prop}
variable {cc : ByteArray} {pc : Nat} {ls : Array Slot} {rest : List Value} {D : va_G} {cl : List vw_C} {A : Nat → Prop} {a : Nat} {tys : List (ClassId × FieldType)} {ws : va_W} {H0 : Heap}
end VGM
/-! ===== END ===== -/

/-! ===== BEGIN exceptions that leave a method, and their catching by the caller (launches without stack traces) ===== -/
section VXA
/-! The laws vx_back, vx_callV, vx_callS, vx_callSW, vx_throw0, vx_throwS follow proofs of the library, with one case more: JvmDerived/Free/Laws.lean (Back.of_free), Shelf42/LK1.lean (callV, callS), Shelf/KitTraced.lean (throwNew0V, throwNewS). -/
/-- where a method has thrown q: the class by its name, the cell, what was written, the world -/
def vx_T (XC : String → State → State → Prop) (st : State) (q : Addr) (t : State) (mc ms : Nat) (free : Addr → Prop) : Prop :=
  ∃ (E : String) (ce : Cell) (L : List Loc), XC E st t ∧ t.heap[q]? = some ce ∧ ce.vm = .none ∧ st.vm.findClass E = some ce.cls ∧ st.WarmedH t.vm ∧ st.sameButNew ({ t with vm := st.vm } : State) L mc ms ∧ ∀ z ∈ L, free z.base
def vx_Q (Qc : Array Value → State → Outcome → State → Prop) (XC : String → State → State → Prop) (mc ms : Nat) (free : Addr → Prop) : Array Value → State → Outcome → State → Prop := fun a st o t =>
  (Qc a st o t ∧ ∃ L, FrameEnd st o t L mc ms ∧ ∀ q ∈ L, free q.base) ∨ ∃ q, o = .threw q ∧ vx_T XC st q t mc ms free
/-- a callee that returns or throws -/
def vx_Met (l : Launch) (y : MethodName) (ws : List Cond) (rm : Room) (Pc : Array Value → State → Prop) (Qc : Array Value → State → Outcome → State → Prop) (XC : String → State → State → Prop) (mc ms : Nat) (free : Addr → Prop) : Prop :=
  MetFree l y (headSpec ws rm) Pc (fun _ _ _ _ _ => True) (vx_Q Qc XC mc ms free)
def vx_Post (XC : String → State → State → Prop) (mc ms : Nat) (free : Addr → Prop) : Pt → Array Value → Addr → Pt → Prop := fun A a q B =>
  ∃ (g : JFrame) (mk : MethodId) (t : State) (L : List Loc) (E : String) (ce : Cell), B.U.heap = t.heap ∧ B.U.vm = t.vm ∧ XC E (A.U.calling g mk a) t ∧ t.heap[q]? = some ce ∧ ce.vm = .none ∧ A.U.vm.findClass E = some ce.cls ∧ B.locs = A.locs ++ L ∧ (∀ z ∈ L, free z.base) ∧ B.cells = A.cells + mc ∧ B.slots = A.slots + ms
def vx_Back (l : Launch) (R : Room) (p : Program) (e : Env) (below : List Frame) (s : State) (sargs : Array Value) (y : MethodName) (len W9 : Nat)
    (Pre : Pt → Array Value → Prop) (Post : Pt → Array Value → Option Value → Pt → Prop) (PostX : Pt → Array Value → Addr → Pt → Prop) : Prop :=
  ∀ (m : MethodId) (meth : Method) (c : Code) (A : Pt) (g : JFrame) (ig : Instr) (mk : MethodId) (a : Array Value),
    Stand p l e R s m sargs below meth c A.U A.locs A.cells A.slots → g.method = m → g.locals.size = c.maxLocals → decode c.code g.pc = .ok (ig, len) →
    2 * g.monitorRoom + (g.stack.map fun v => v.category).sum ≤ W9 → A.U.methodNamed? y = some mk → Pre A a →
    (∃ (v : Option Value) (B : Pt), Stand p l e R s m sargs below meth c B.U B.locs B.cells B.slots ∧ Post A a v B ∧
      Steps p.tables e below (doInvoke e (A.U.setTop g) [] mk a).1 (B.U.setTop { g with pc := g.pc + len, stack := v.toList ++ g.stack })) ∨
    (∃ (q : Addr) (B : Pt), Stand p l e R s m sargs below meth c B.U B.locs B.cells B.slots ∧ PostX A a q B ∧
      Steps p.tables e below (doInvoke e (A.U.setTop g) [] mk a).1 ((B.U.setTop g).pushFrame (.throwing q)))
section Payer
variable {l : Launch} {R : Room} {p : Program} {e : Env} {below : List Frame} {s : State} {sargs : Array Value} {y : MethodName} {len W9 : Nat}
theorem vx_back {ws : List Cond} {rm : Room} {Pc : Array Value → State → Prop} {Qc : Array Value → State → Outcome → State → Prop} {XC : String → State → State → Prop} {mc ms : Nat} {free : Addr → Prop} {bytes : ByteArray} {maxL : Nat} {ret : Option FieldType}
    (hM : vx_Met l y ws rm Pc Qc XC mc ms free) (hblind : FrameBlind Pc) (hrc : rm.cells = mc) (hrs : rm.slots = ms)
    (hframes : rm.frames + 1 ≤ R.frames) (hlocals : W9 + (maxL + 11) + rm.locals ≤ R.locals)
    (hws : ∀ w ∈ ws, ∀ a' U, s.WarmedH U.vm → w.before a' U = true) (hcode : Cond.code y bytes maxL ret ∈ ws) (hinit : ∀ a' U, s.WarmedH U.vm → (Cond.initialized y.cls).before a' U = true) :
    vx_Back l R p e below s sargs y len W9 (PreOf R mc ms Pc) (PostOf Qc mc ms free) (vx_Post XC mc ms free) := by
  intro m meth c A g ig mk a X hg hsize hdg hW hn hp
  have h1 : (headSpec ws rm).pre.before a A.U = true := atoms_intro fun w hw => hws w hw _ _ X.warmed
  have h2 : (Cond.code y bytes maxL ret).before a A.U = true := hws _ hcode _ _ X.warmed
  have h3 : (Cond.initialized y.cls).before a A.U = true := hinit _ _ X.warmed
  have h4 : A.cells + (headSpec ws rm).room.cells ≤ R.cells := by rw [show (headSpec ws rm).room.cells = mc from hrc]; exact hp.1
  have h5 : A.slots + (headSpec ws rm).room.slots ≤ R.slots := by rw [show (headSpec ws rm).room.slots = ms from hrs]; exact hp.2.1
  have hPc : Pc a (A.U.calling g mk a) := hblind _ _ _ _ hp.2.2
  obtain ⟨U, Ls, c0, s0⟩ := A
  dsimp only [Pt.U, Pt.locs, Pt.cells, Pt.slots] at h1 h2 h3 h4 h5 X hn hPc ⊢
  obtain ⟨methY, cY, hmY, hcY, -, hlY, -, -, -, -⟩ := Cond.code_spec hn h2
  obtain ⟨kY, hkY, -⟩ := className_of_methodNamed hn
  have hinitY : kY.init = .initialized := Cond.initialized_spec (findClass_of_methodNamed hn) hkY h3
  have h : At U g.method c below := by rw [hg]; exact X.here
  have hlocals9 : W9 + (maxL + 11) + (headSpec ws rm).room.locals ≤ R.locals := hlocals
  have happ : (headSpec ws rm).appliesLoose y e.platform (U.calling g mk a) = true :=
    Spec.appliesLoose_calling (g := g) h hdg hn hkY hinitY
      (X.room_calling (g := g) (R' := (headSpec ws rm).room) hsize hmY hcY hframes (by rw [hlY]; omega) h4 h5) h1
  obtain ⟨mid, hmid⟩ := h.above
  have hfr : (U.setTop g).frames = (.java g :: mid) ++ below := by rw [State.frames_setTop' g h.top, hmid]; rfl
  obtain ⟨o, s₂, hsteps, -, hend, hq⟩ := Steps.callFree hM p X.admits X.cas X.clock (acts := []) hfr happ hPc trivial
  have hq' : vx_Q Qc XC mc ms free a (U.calling g mk a) o s₂ := hq
  rw [State.frames_setTop' g h.top] at hend
  obtain ⟨g₀, hg0⟩ := Option.isSome_iff_exists.mp h.top
  obtain ⟨r, hr⟩ := State.topJava?_eq_some.mp hg0
  have hr' : (({ U with heap := s₂.heap, slotsUsed := s₂.slotsUsed } : State).setVm s₂.vm).frames = .java g₀ :: r := hr
  rcases hq' with ⟨hqc, L, hfe, hL⟩ | ⟨q, rfl, E, ce, L, hx, hce, hcv, hcl, hW₂, hsm, hL⟩
  · obtain ⟨⟨v, rfl⟩, hW₂, e2, q2, q3, q4, q5, q6⟩ := id hfe
    have e3 : s₂ = ({ (U.calling g mk a).setFrames s₂.frames with heap := s₂.heap, slotsUsed := s₂.slotsUsed } : State).setVm s₂.vm := by
      have : s₂ = ({ s₂ with vm := (U.calling g mk a).vm } : State).setVm s₂.vm := rfl
      rw [e2] at this
      exact this
    obtain ⟨c₂, i₂, len₂, hc₂, hd₂, hf₂⟩ := hend
    have hW' : U.WarmedH s₂.vm := hW₂
    have hcc : c₂ = c := by
      have h1 : s₂.code? g.method = U.code? g.method := by
        rw [State.code?_eq, State.code?_eq, hW'.alike.method?]
      exact Option.some.inj (hc₂.symm.trans (h1.trans h.code))
    subst hcc
    have hlen : len₂ = len := by rw [hdg] at hd₂; cases hd₂; rfl
    subst hlen
    have hs₂ : s₂ = (({ U with heap := s₂.heap, slotsUsed := s₂.slotsUsed } : State).setVm s₂.vm).setTop { g with pc := g.pc + len₂, stack := v.toList ++ g.stack } := by
      refine e3.trans ?_
      rw [hf₂, State.calling_eq h.top, State.setFrames_setFrames, State.setTop_of_frames _ hr', hr]
      rfl
    have hsame : U.sameButNew ({ U with heap := s₂.heap, slotsUsed := s₂.slotsUsed } : State) L mc ms := by
      refine ⟨?_, q2, q3, q4, q5, q6⟩
      obtain ⟨t, ht, -⟩ := State.frames_cons hr
      show ({ U with heap := s₂.heap, slotsUsed := s₂.slotsUsed } : State) = { U.setFrames U.frames with heap := s₂.heap, slotsUsed := s₂.slotsUsed }
      rw [State.setFrames_self ht]
    subst hg
    refine Or.inl ⟨v, ⟨(({ U with heap := s₂.heap, slotsUsed := s₂.slotsUsed } : State).setVm s₂.vm), Ls ++ L, c0 + mc, s0 + ms⟩,
      ⟨X.admits, X.cas, X.clock, X.frames, X.room, X.hears, X.method, X.code, (X.here.setHeapUsed s₂.heap s₂.slotsUsed).setVm hW'.alike, X.tail, State.WarmedH.trans X.warmed hW', X.limits, X.bytes, X.same.trans (hsame.setVm s.vm)⟩,
      ⟨g, mk, s₂, L, rfl, rfl, hqc, rfl, hL, rfl, rfl⟩, ?_⟩
    show Steps p.tables e below _ ((({ U with heap := s₂.heap, slotsUsed := s₂.slotsUsed } : State).setVm s₂.vm).setTop { g with pc := g.pc + len₂, stack := v.toList ++ g.stack })
    rw [← hs₂]
    exact hsteps
  · obtain ⟨e2, q2, q3, q4, q5, q6⟩ := id hsm
    have e3 : s₂ = ({ (U.calling g mk a).setFrames s₂.frames with heap := s₂.heap, slotsUsed := s₂.slotsUsed } : State).setVm s₂.vm := by
      have : s₂ = ({ s₂ with vm := (U.calling g mk a).vm } : State).setVm s₂.vm := rfl
      rw [e2] at this
      exact this
    have hf₂ : s₂.frames = .throwing q :: .java g :: U.frames.tail := hend
    have hW' : U.WarmedH s₂.vm := hW₂
    have hs₂ : s₂ = ((({ U with heap := s₂.heap, slotsUsed := s₂.slotsUsed } : State).setVm s₂.vm).setTop g).pushFrame (.throwing q) := by
      refine e3.trans ?_
      rw [hf₂, State.calling_eq h.top, State.setFrames_setFrames, State.pushFrame, State.frames_setTop _ hr', State.setTop_of_frames _ hr', State.setFrames_setFrames, hr]
      rfl
    have hsame : U.sameButNew ({ U with heap := s₂.heap, slotsUsed := s₂.slotsUsed } : State) L mc ms := by
      refine ⟨?_, q2, q3, q4, q5, q6⟩
      obtain ⟨t, ht, -⟩ := State.frames_cons hr
      show ({ U with heap := s₂.heap, slotsUsed := s₂.slotsUsed } : State) = { U.setFrames U.frames with heap := s₂.heap, slotsUsed := s₂.slotsUsed }
      rw [State.setFrames_self ht]
    subst hg
    refine Or.inr ⟨q, ⟨(({ U with heap := s₂.heap, slotsUsed := s₂.slotsUsed } : State).setVm s₂.vm), Ls ++ L, c0 + mc, s0 + ms⟩,
      ⟨X.admits, X.cas, X.clock, X.frames, X.room, X.hears, X.method, X.code, (X.here.setHeapUsed s₂.heap s₂.slotsUsed).setVm hW'.alike, X.tail, State.WarmedH.trans X.warmed hW', X.limits, X.bytes, X.same.trans (hsame.setVm s.vm)⟩,
      ⟨g, mk, s₂, L, E, ce, rfl, rfl, hx, hce, hcv, hcl, rfl, hL, rfl, rfl⟩, ?_⟩
    show Steps p.tables e below _ (((({ U with heap := s₂.heap, slotsUsed := s₂.slotsUsed } : State).setVm s₂.vm).setTop g).pushFrame (.throwing q))
    rw [← hs₂]
    exact hsteps
end Payer
section Calls
variable {p : Program} {l : Launch} {e : Env} {R : Room} {s : State} {m : MethodId} {args : Array Value} {below : List Frame} {meth : Method} {c : Code} {T : State} {locs : List Loc} {cells slots : Nat}
theorem vx_callV (X : Stand p l e R s m args below meth c T locs cells slots) (hexec : p.tables.exec = Jvm.exec) {own C : String} {index : Nat} {y : MethodName} {bytes : ByteArray} {maxL : Nat} {ret : Option FieldType}
    (hown : s.vm.findClass own = some m.cls) (hlink : (Cond.methodLink own index y).before args s = true) (hinst : (Cond.instanceMethod y).before args s = true) (hsel : (Cond.selects C y y).before args s = true)
    (hcode : (Cond.code y bytes maxL ret).before args s = true) (hy : y.cls ≠ "java/lang/invoke/MethodHandle" ∧ y.cls ≠ "java/lang/invoke/VarHandle")
    {W9 : Nat} {Pre : Pt → Array Value → Prop} {Post : Pt → Array Value → Option Value → Pt → Prop} {PostX : Pt → Array Value → Addr → Pt → Prop} (hK : vx_Back l R p e below s args y 3 W9 Pre Post PostX)
    {b : Addr} {cellB : Cell} (hcell : T.heap[b]? = some cellB) (hobj : cellB.vm.isStatics = false) (hcls : s.vm.findClass C = some cellB.cls)
    {g : JFrame} (hg : g.method = m) (hsize : g.locals.size = c.maxLocals) {argsL rest : List Value} (hlen : ∀ sig, parseMethodDescriptor y.desc = some sig → argsL.length = sig.parameters.length)
    (hstack : g.stack = argsL.reverse ++ .ref b :: rest) (hW : 2 * g.monitorRoom + (rest.map fun v => v.category).sum ≤ W9) (hdg : decode c.code g.pc = .ok (.invokevirtual index, 3))
    (hpre : ∀ vm₁, s.WarmedH vm₁ → Pre ⟨T.setVm vm₁, locs, cells, slots⟩ (Value.ref b :: argsL).toArray) :
    (∃ (v : Option Value) (vm₁ : Vm) (B : Pt), s.WarmedH vm₁ ∧ Stand p l e R s m args below meth c B.U B.locs B.cells B.slots ∧ Post ⟨T.setVm vm₁, locs, cells, slots⟩ (Value.ref b :: argsL).toArray v B ∧
      ∀ target, Steps p.tables e below (B.U.setTop { g with pc := g.pc + 3, stack := v.toList ++ rest }) target → Steps p.tables e below (T.setTop g) target) ∨
    (∃ (q : Addr) (vm₁ : Vm) (B : Pt), s.WarmedH vm₁ ∧ Stand p l e R s m args below meth c B.U B.locs B.cells B.slots ∧ PostX ⟨T.setVm vm₁, locs, cells, slots⟩ (Value.ref b :: argsL).toArray q B ∧
      Steps p.tables e below (T.setTop g) ((B.U.setTop { g with stack := rest }).pushFrame (.throwing q))) := by
  obtain ⟨mk, methM, hnamed, hmethM, hstM, habM⟩ := Cond.instanceMethod_spec hinst
  obtain ⟨methM', cM, hmethM', -, -, -, -, -, -, hsigM⟩ := Cond.code_spec hnamed hcode
  cases hmethM.symm.trans hmethM'
  obtain ⟨c2, r2, m2, q1, q2, q3, q4, kP, hkP, hkPi⟩ := Cond.selects_spec hsel
  cases hcls.symm.trans q1
  cases (State.methodFound?_of_named hnamed hy).symm.trans q2
  cases hnamed.symm.trans q3
  have hselP : selectMethod e.platform s.vm cellB.cls mk = .method mk := by rw [Launch.admits_selectMethod X.admits]; exact q4
  obtain ⟨vm₁, X₁, hstep₁⟩ := X.invokevirtual hexec hown hlink hnamed hmethM hstM hkP hkPi hy (a := b) (cell := cellB) hcell
    (fun z h => by rw [h] at hobj; cases hobj) hselP hmethM habM hkP hkPi (g := g) hg (argsL := argsL) (rest := rest) (hlen _ hsigM) hstack hdg
  rcases hK m meth c ⟨T.setVm vm₁, locs, cells, slots⟩ { g with stack := rest } (.invokevirtual index) mk (Value.ref b :: argsL).toArray X₁ hg hsize hdg hW (X₁.named hnamed) (hpre vm₁ X₁.warmed) with ⟨v, B, X', hpost, hsteps⟩ | ⟨q, B, X', hpost, hsteps⟩
  · exact Or.inl ⟨v, vm₁, B, X₁.warmed, X', hpost, fun target h => hstep₁ _ fun acts => by rw [doInvoke_state]; exact hsteps.trans h⟩
  · exact Or.inr ⟨q, vm₁, B, X₁.warmed, X', hpost, hstep₁ _ fun acts => by rw [doInvoke_state]; exact hsteps⟩
theorem vx_callS (X : Stand p l e R s m args below meth c T locs cells slots) (hexec : p.tables.exec = Jvm.exec) {own : String} {index : Nat} {y : MethodName} {bytes : ByteArray} {maxL : Nat} {ret : Option FieldType}
    (hown : s.vm.findClass own = some m.cls) (hlink : (Cond.methodLink own index y).before args s = true) (hstat : (Cond.static y).before args s = true) (hinit : (Cond.initialized y.cls).before args s = true)
    (hcode : (Cond.code y bytes maxL ret).before args s = true) (hy : y.cls ≠ "java/lang/invoke/MethodHandle" ∧ y.cls ≠ "java/lang/invoke/VarHandle")
    {W9 : Nat} {Pre : Pt → Array Value → Prop} {Post : Pt → Array Value → Option Value → Pt → Prop} {PostX : Pt → Array Value → Addr → Pt → Prop} (hK : vx_Back l R p e below s args y 3 W9 Pre Post PostX)
    {g : JFrame} (hg : g.method = m) (hsize : g.locals.size = c.maxLocals) {argsL rest : List Value} (hlen : ∀ sig, parseMethodDescriptor y.desc = some sig → argsL.length = sig.parameters.length)
    (hstack : g.stack = argsL.reverse ++ rest) (hW : 2 * g.monitorRoom + (rest.map fun v => v.category).sum ≤ W9) (hdg : decode c.code g.pc = .ok (.invokestatic index, 3))
    (hpre : ∀ vm₁, s.WarmedH vm₁ → Pre ⟨T.setVm vm₁, locs, cells, slots⟩ argsL.toArray) :
    (∃ (v : Option Value) (vm₁ : Vm) (B : Pt), s.WarmedH vm₁ ∧ Stand p l e R s m args below meth c B.U B.locs B.cells B.slots ∧ Post ⟨T.setVm vm₁, locs, cells, slots⟩ argsL.toArray v B ∧
      ∀ target, Steps p.tables e below (B.U.setTop { g with pc := g.pc + 3, stack := v.toList ++ rest }) target → Steps p.tables e below (T.setTop g) target) ∨
    (∃ (q : Addr) (vm₁ : Vm) (B : Pt), s.WarmedH vm₁ ∧ Stand p l e R s m args below meth c B.U B.locs B.cells B.slots ∧ PostX ⟨T.setVm vm₁, locs, cells, slots⟩ argsL.toArray q B ∧
      Steps p.tables e below (T.setTop g) ((B.U.setTop { g with stack := rest }).pushFrame (.throwing q))) := by
  obtain ⟨mk, hnamed⟩ := Cond.code_named hcode
  obtain ⟨methM, cM, hmethM, -, -, -, -, -, -, hsigM⟩ := Cond.code_spec hnamed hcode
  have hstatic : methM.isStatic = true := Cond.static_spec hnamed hmethM hstat
  obtain ⟨kP, hkP, -⟩ := className_of_methodNamed hnamed
  have hinitP : kP.init = .initialized := Cond.initialized_spec (findClass_of_methodNamed hnamed) hkP hinit
  obtain ⟨vm₁, X₁, hstep₁⟩ := X.invokestatic hexec hown hlink hnamed hmethM hstatic hkP hinitP hy (g := g) hg (argsL := argsL) (rest := rest) (hlen _ hsigM) hstack hdg
  rcases hK m meth c ⟨T.setVm vm₁, locs, cells, slots⟩ { g with stack := rest } (.invokestatic index) mk argsL.toArray X₁ hg hsize hdg hW (X₁.named hnamed) (hpre vm₁ X₁.warmed) with ⟨v, B, X', hpost, hsteps⟩ | ⟨q, B, X', hpost, hsteps⟩
  · exact Or.inl ⟨v, vm₁, B, X₁.warmed, X', hpost, fun target h => hstep₁ _ fun acts => by rw [doInvoke_state]; exact hsteps.trans h⟩
  · exact Or.inr ⟨q, vm₁, B, X₁.warmed, X', hpost, hstep₁ _ fun acts => by rw [doInvoke_state]; exact hsteps⟩
end Calls
theorem vx_cls {s : State} {T : State} {vm₁ : Vm} {E : String} {k : ClassId} (hW : s.WarmedH vm₁) (h : (T.setVm vm₁).vm.findClass E = some k) : s.vm.findClass E = some k := by
  have h1 : vm₁.findClass E = some k := h
  rw [hW.alike.findClass] at h1
  exact h1
/-- the method's frame g, with q thrown over it -/
def vx_W (p : Program) (l : Launch) (e : Env) (R : Room) (s : State) (m : MethodId) (args : Array Value) (below : List Frame) (meth : Method) (c : Code) (H : Heap) (locs : List Loc) (cells slots : Nat) (Q : State → Prop) (g : JFrame) (q : Addr) : Prop :=
  ∀ T : State, T.heap = H → Stand p l e R s m args below meth c T locs cells slots → ∃ t, Steps p.tables e below ((T.setTop g).pushFrame (.throwing q)) t ∧ Q t
def vx_Run (p : Program) (l : Launch) (e : Env) (R : Room) (s : State) (m : MethodId) (args : Array Value) (below : List Frame) (meth : Method) (c : Code) (H : Heap) (locs : List Loc) (cells slots mc ms : Nat) (g : JFrame) (rest : List Value) (Qa : State → Outcome → State → Prop) (XC : String → State → State → Prop) (free : Addr → Prop) : Prop :=
  ∀ T : State, T.heap = H → Stand p l e R s m args below meth c T locs cells slots →
    (∃ (v : Option Value) (st₀ t T' : State) (L : List Loc), st₀.heap = H ∧ Stand p l e R s m args below meth c T' (locs ++ L) (cells + mc) (slots + ms) ∧ (∀ q ∈ L, free q.base) ∧ T'.heap = t.heap ∧ T'.vm = t.vm ∧ Qa st₀ (.returned v) t ∧
      Goes p e below T g T' { g with pc := g.pc + 3, stack := v.toList ++ rest }) ∨
    (∃ (q : Addr) (st₀ t T' : State) (L : List Loc) (E : String) (ce : Cell), st₀.heap = H ∧ Stand p l e R s m args below meth c T' (locs ++ L) (cells + mc) (slots + ms) ∧ (∀ z ∈ L, free z.base) ∧ T'.heap = t.heap ∧ T'.vm = t.vm ∧ XC E st₀ t ∧ t.heap[q]? = some ce ∧ ce.vm = .none ∧ s.vm.findClass E = some ce.cls ∧
      Steps p.tables e below (T.setTop g) ((T'.setTop { g with stack := rest }).pushFrame (.throwing q)))
def vx_X {S : Type} (px : S → Prop) (B : String → S → State → Prop) (A : Nat → Prop) : String → State → State → Prop := fun E st t => ∃ u : S, px u ∧ B E u t ∧ va_F A st t
section Runs
variable {p : Program} {l : Launch} {e : Env} {R : Room} {s : State} {m : MethodId} {args : Array Value} {below : List Frame} {meth : Method} {c : Code} {H : Heap} {locs : List Loc} {cells slots : Nat}
variable {y : MethodName} {bytes cc : ByteArray} {maxL nL mc ms n index : Nat} {ret : Option FieldType} {ws : List Cond} {rm : Room} {Pc : Array Value → State → Prop} {Qc : Array Value → State → Outcome → State → Prop} {XC : String → State → State → Prop} {free : Addr → Prop} {Ts : List Cond} {own C : String} {b : Addr} {As rest : List Value} {g : JFrame}
theorem vx_callBack (cb : CallB R s args own index y bytes maxL ret ws rm mc ms n) (hM : vx_Met l y ws rm Pc Qc XC mc ms free) (hbl : FrameBlind Pc) : vx_Back l R p e below s args y 3 8 (PreOf R mc ms Pc) (PostOf Qc mc ms free) (vx_Post XC mc ms free) := by
  obtain ⟨hrc, hrs, hfr, hlo, hws, hcw, -, hini, -⟩ := cb
  exact vx_back (bytes := bytes) (maxL := maxL) (ret := ret) hM hbl hrc hrs hfr hlo hws hcw (fun a' U hW => word_at hW (Or.inl (by first | rfl | simp [Cond.onTables, Cond.keeps, Cond.steady])) hini)
theorem vx_runV (S : CallFix p m c cc nL s args Ts own) (hM : vx_Met l y ws rm Pc Qc XC mc ms free) (cw : CallW R s args own C index y bytes maxL ret ws rm mc ms n) (hp : PreV s H C b Pc As)
    (hg : g.method = m) (hn : As.length = n) (hsize : g.locals.size = nL) (hstack : g.stack = As.reverse ++ .ref b :: rest) (hW : 2 * g.monitorRoom + (rest.map fun v => v.category).sum ≤ 8) (hdg : decode cc g.pc = .ok (.invokevirtual index, 3)) (hf : cells + mc ≤ R.cells ∧ slots + ms ≤ R.slots) :
    vx_Run p l e R s m args below meth c H locs cells slots mc ms g rest (Qc (Value.ref b :: As).toArray) XC free := by
  have hK : vx_Back l R p e below s args y 3 8 (PreOf R mc ms Pc) (PostOf Qc mc ms free) (vx_Post XC mc ms free) := vx_callBack cw.1 hM hp.1
  obtain ⟨⟨-, -, -, -, -, -, hcode, -, hy, hlen, hl⟩, hin, hse⟩ := cw
  obtain ⟨hx, hb, hml, ho, -⟩ := S
  obtain ⟨-, ⟨cellB, hcB, hoB, hclB⟩, hPc⟩ := hp
  intro T hT X
  rcases vx_callV X hx (C := C) (bytes := bytes) (maxL := maxL) (ret := ret) ho hl hin hse hcode hy hK (by rw [hT]; exact hcB) hoB hclB hg (hsize.trans hml.symm) (argsL := As) (rest := rest) (fun sig h => hn.trans (hlen sig h)) hstack hW (by rw [hb]; exact hdg)
    (fun vm₁ hW₁ => ⟨hf.1, hf.2, hPc (T.setVm vm₁) hT hW₁⟩) with ⟨v, vm₁, ⟨U', l2, c2, s2⟩, hW₁, X', ⟨g', mk, t, L, e1, e2, hq, h1, hL, h2, h3⟩, st⟩ | ⟨q, vm₁, ⟨U', l2, c2, s2⟩, hW₁, X', ⟨g', mk, t, L, E, ce, e1, e2, hq, hce, hcv, hcl, h1, hL, h2, h3⟩, st⟩
  · dsimp only [Pt.U, Pt.locs, Pt.cells, Pt.slots] at X' e1 e2 h1 h2 h3 st
    subst h1; subst h2; subst h3
    exact Or.inl ⟨v, (T.setVm vm₁).calling g' mk (Value.ref b :: As).toArray, t, U', L, hT, X', hL, e1, e2, hq, st⟩
  · dsimp only [Pt.U, Pt.locs, Pt.cells, Pt.slots] at X' e1 e2 h1 h2 h3 st hcl
    subst h1; subst h2; subst h3
    exact Or.inr ⟨q, (T.setVm vm₁).calling g' mk (Value.ref b :: As).toArray, t, U', L, E, ce, hT, X', hL, e1, e2, hq, hce, hcv, vx_cls hW₁ hcl, st⟩
theorem vx_runS (S : CallFix p m c cc nL s args Ts own) (hM : vx_Met l y ws rm Pc Qc XC mc ms free) (cw : CallB R s args own index y bytes maxL ret ws rm mc ms n ∧ (Cond.static y).before args s = true) (hp : PreS s H Pc As)
    (hg : g.method = m) (hn : As.length = n) (hsize : g.locals.size = nL) (hstack : g.stack = As.reverse ++ rest) (hW : 2 * g.monitorRoom + (rest.map fun v => v.category).sum ≤ 8) (hdg : decode cc g.pc = .ok (.invokestatic index, 3)) (hf : cells + mc ≤ R.cells ∧ slots + ms ≤ R.slots) :
    vx_Run p l e R s m args below meth c H locs cells slots mc ms g rest (Qc As.toArray) XC free := by
  have hK : vx_Back l R p e below s args y 3 8 (PreOf R mc ms Pc) (PostOf Qc mc ms free) (vx_Post XC mc ms free) := vx_callBack cw.1 hM hp.1
  obtain ⟨⟨-, -, -, -, -, -, hcode, hini, hy, hlen, hl⟩, hstt⟩ := cw
  obtain ⟨hx, hb, hml, ho, -⟩ := S
  intro T hT X
  rcases vx_callS X hx (bytes := bytes) (maxL := maxL) (ret := ret) ho hl hstt hini hcode hy hK hg (hsize.trans hml.symm) (argsL := As) (rest := rest) (fun sig h => hn.trans (hlen sig h)) hstack hW (by rw [hb]; exact hdg)
    (fun vm₁ hW₁ => ⟨hf.1, hf.2, hp.2 (T.setVm vm₁) hT hW₁⟩) with ⟨v, vm₁, ⟨U', l2, c2, s2⟩, hW₁, X', ⟨g', mk, t, L, e1, e2, hq, h1, hL, h2, h3⟩, st⟩ | ⟨q, vm₁, ⟨U', l2, c2, s2⟩, hW₁, X', ⟨g', mk, t, L, E, ce, e1, e2, hq, hce, hcv, hcl, h1, hL, h2, h3⟩, st⟩
  · dsimp only [Pt.U, Pt.locs, Pt.cells, Pt.slots] at X' e1 e2 h1 h2 h3 st
    subst h1; subst h2; subst h3
    exact Or.inl ⟨v, (T.setVm vm₁).calling g' mk As.toArray, t, U', L, hT, X', hL, e1, e2, hq, st⟩
  · dsimp only [Pt.U, Pt.locs, Pt.cells, Pt.slots] at X' e1 e2 h1 h2 h3 st hcl
    subst h1; subst h2; subst h3
    exact Or.inr ⟨q, (T.setVm vm₁).calling g' mk As.toArray, t, U', L, E, ce, hT, X', hL, e1, e2, hq, hce, hcv, vx_cls hW₁ hcl, st⟩
end Runs
section Rows
variable {p : Program} {l : Launch} {e : Env} {R : Room} {s : State} {m : MethodId} {args : Array Value} {below : List Frame} {meth : Method} {c : Code} {H : Heap} {locs : List Loc} {cells slots : Nat} {Q : State → Prop}
variable {mc ms : Nat} {free : Addr → Prop} {A0 A1 : Nat → Prop} {H0 : Heap} {a : Array Value} {pc : Nat} {ls : Array Slot} {st0 rest : List Value}
theorem vx_keep {st₀ t T' : State} {L : List Loc} (h0 : st₀.heap = H) (e1 : T'.heap = t.heap) (hS : va_S A0 H0 H locs) (hA : ∀ q, q < H.size → A1 q → A0 q) (hf : ∀ q, free q → A0 q) (hL : ∀ q ∈ L, free q.base) (hF : va_F A1 st₀ t) :
    H.size ≤ T'.heap.size ∧ (∀ q : Nat, q < H.size → ¬ A1 q → T'.heap[q]? = H[q]?) ∧ va_S A0 H0 T'.heap (locs ++ L) := by
  obtain ⟨hz, hk⟩ := hF
  rw [h0] at hz hk
  exact ⟨by rw [e1]; exact hz, fun q h1 h2 => by rw [e1]; exact hk q h1 h2,
    ⟨Nat.le_trans hS.1 (by rw [e1]; exact hz), fun q h1 h2 => by rw [e1, hk q (Nat.lt_of_lt_of_le h1 hS.1) (fun z => h2 (hA q (Nat.lt_of_lt_of_le h1 hS.1) z))]; exact hS.2.1 q h1 h2, fun q hq => by
      rcases List.mem_append.mp hq with h | h
      · exact hS.2.2 q h
      · exact hf _ (hL q h)⟩⟩
theorem vx_calli {S SX : Type} {post : Int32 → S → Prop} {px : SX → Prop} {B : S → State → Prop} {BX : String → SX → State → Prop} {AX : Nat → Prop} (hr : vx_Run p l e R s m args below meth c H locs cells slots mc ms (F0 m pc ls st0) rest (va_Qi post B A1 a) (vx_X px BX AX) free) (hS : va_S A0 H0 H locs) (hA : ∀ q, q < H.size → A1 q → A0 q) (hf : ∀ q, free q → A0 q) (hAX : ∀ q, q < H.size → AX q → A0 q)
    (kx : ∀ (E : String) (ce : Cell) (q9 : Addr) (u : SX) (t : State) (H1 : Heap) (locs1 : List Loc), t.heap = H1 → s.vm.Alike t.vm → px u → BX E u t → H.size ≤ H1.size → (∀ q : Nat, q < H.size → ¬ AX q → H1[q]? = H[q]?) → va_S A0 H0 H1 locs1 → H1[q9]? = some ce → ce.vm = .none → s.vm.findClass E = some ce.cls → vx_W p l e R s m args below meth c H1 locs1 (cells + mc) (slots + ms) Q (F0 m pc ls rest) q9)
    (kk : ∀ (r : Int32) (u : S) (t : State) (H1 : Heap) (locs1 : List Loc), t.heap = H1 → s.vm.Alike t.vm → post r u → B u t → H.size ≤ H1.size → (∀ q : Nat, q < H.size → ¬ A1 q → H1[q]? = H[q]?) → va_S A0 H0 H1 locs1 → W p l e R s m args below meth c H1 locs1 (cells + mc) (slots + ms) Q (F0 m (pc + 3) ls (.int r :: rest))) : W p l e R s m args below meth c H locs cells slots Q (F0 m pc ls st0) := by
  intro T hT X
  rcases hr T hT X with ⟨v, st₀, t, T', L, h0, X', hL, e1, e2, ⟨⟨r, u, hv, hp, hb⟩, hF⟩, st⟩ | ⟨q, st₀, t, T', L, E, ce, h0, X', hL, e1, e2, ⟨u, hp, hb, hF⟩, hce, hcv, hcl, st⟩
  · cases hv
    obtain ⟨k1, k2, k3⟩ := vx_keep h0 e1 hS hA hf hL hF
    obtain ⟨t2, a1, b1⟩ := kk r u t T'.heap (locs ++ L) e1.symm (by rw [← e2]; exact X'.warmed.alike) hp hb k1 k2 k3 T' rfl X'
    exact ⟨t2, st t2 a1, b1⟩
  · obtain ⟨k1, k2, k3⟩ := vx_keep h0 e1 hS hAX hf hL hF
    obtain ⟨t2, a1, b1⟩ := kx E ce q u t T'.heap (locs ++ L) e1.symm (by rw [← e2]; exact X'.warmed.alike) hp hb k1 k2 k3 (by rw [e1]; exact hce) hcv hcl T' rfl X'
    exact ⟨t2, st.trans a1, b1⟩
theorem vx_calll {S SX : Type} {post : Int64 → S → Prop} {px : SX → Prop} {B : S → State → Prop} {BX : String → SX → State → Prop} {AX : Nat → Prop} (hr : vx_Run p l e R s m args below meth c H locs cells slots mc ms (F0 m pc ls st0) rest (va_Ql post B A1 a) (vx_X px BX AX) free) (hS : va_S A0 H0 H locs) (hA : ∀ q, q < H.size → A1 q → A0 q) (hf : ∀ q, free q → A0 q) (hAX : ∀ q, q < H.size → AX q → A0 q)
    (kx : ∀ (E : String) (ce : Cell) (q9 : Addr) (u : SX) (t : State) (H1 : Heap) (locs1 : List Loc), t.heap = H1 → s.vm.Alike t.vm → px u → BX E u t → H.size ≤ H1.size → (∀ q : Nat, q < H.size → ¬ AX q → H1[q]? = H[q]?) → va_S A0 H0 H1 locs1 → H1[q9]? = some ce → ce.vm = .none → s.vm.findClass E = some ce.cls → vx_W p l e R s m args below meth c H1 locs1 (cells + mc) (slots + ms) Q (F0 m pc ls rest) q9)
    (kk : ∀ (r : Int64) (u : S) (t : State) (H1 : Heap) (locs1 : List Loc), t.heap = H1 → s.vm.Alike t.vm → post r u → B u t → H.size ≤ H1.size → (∀ q : Nat, q < H.size → ¬ A1 q → H1[q]? = H[q]?) → va_S A0 H0 H1 locs1 → W p l e R s m args below meth c H1 locs1 (cells + mc) (slots + ms) Q (F0 m (pc + 3) ls (.long r :: rest))) : W p l e R s m args below meth c H locs cells slots Q (F0 m pc ls st0) := by
  intro T hT X
  rcases hr T hT X with ⟨v, st₀, t, T', L, h0, X', hL, e1, e2, ⟨⟨r, u, hv, hp, hb⟩, hF⟩, st⟩ | ⟨q, st₀, t, T', L, E, ce, h0, X', hL, e1, e2, ⟨u, hp, hb, hF⟩, hce, hcv, hcl, st⟩
  · cases hv
    obtain ⟨k1, k2, k3⟩ := vx_keep h0 e1 hS hA hf hL hF
    obtain ⟨t2, a1, b1⟩ := kk r u t T'.heap (locs ++ L) e1.symm (by rw [← e2]; exact X'.warmed.alike) hp hb k1 k2 k3 T' rfl X'
    exact ⟨t2, st t2 a1, b1⟩
  · obtain ⟨k1, k2, k3⟩ := vx_keep h0 e1 hS hAX hf hL hF
    obtain ⟨t2, a1, b1⟩ := kx E ce q u t T'.heap (locs ++ L) e1.symm (by rw [← e2]; exact X'.warmed.alike) hp hb k1 k2 k3 (by rw [e1]; exact hce) hcv hcl T' rfl X'
    exact ⟨t2, st.trans a1, b1⟩
theorem vx_callf {S SX : Type} {post : UInt32 → S → Prop} {px : SX → Prop} {B : S → State → Prop} {BX : String → SX → State → Prop} {AX : Nat → Prop} (hr : vx_Run p l e R s m args below meth c H locs cells slots mc ms (F0 m pc ls st0) rest (va_Qf post B A1 a) (vx_X px BX AX) free) (hS : va_S A0 H0 H locs) (hA : ∀ q, q < H.size → A1 q → A0 q) (hf : ∀ q, free q → A0 q) (hAX : ∀ q, q < H.size → AX q → A0 q)
    (kx : ∀ (E : String) (ce : Cell) (q9 : Addr) (u : SX) (t : State) (H1 : Heap) (locs1 : List Loc), t.heap = H1 → s.vm.Alike t.vm → px u → BX E u t → H.size ≤ H1.size → (∀ q : Nat, q < H.size → ¬ AX q → H1[q]? = H[q]?) → va_S A0 H0 H1 locs1 → H1[q9]? = some ce → ce.vm = .none → s.vm.findClass E = some ce.cls → vx_W p l e R s m args below meth c H1 locs1 (cells + mc) (slots + ms) Q (F0 m pc ls rest) q9)
    (kk : ∀ (r : UInt32) (u : S) (t : State) (H1 : Heap) (locs1 : List Loc), t.heap = H1 → s.vm.Alike t.vm → post r u → B u t → H.size ≤ H1.size → (∀ q : Nat, q < H.size → ¬ A1 q → H1[q]? = H[q]?) → va_S A0 H0 H1 locs1 → W p l e R s m args below meth c H1 locs1 (cells + mc) (slots + ms) Q (F0 m (pc + 3) ls (.float r :: rest))) : W p l e R s m args below meth c H locs cells slots Q (F0 m pc ls st0) := by
  intro T hT X
  rcases hr T hT X with ⟨v, st₀, t, T', L, h0, X', hL, e1, e2, ⟨⟨r, u, hv, hp, hb⟩, hF⟩, st⟩ | ⟨q, st₀, t, T', L, E, ce, h0, X', hL, e1, e2, ⟨u, hp, hb, hF⟩, hce, hcv, hcl, st⟩
  · cases hv
    obtain ⟨k1, k2, k3⟩ := vx_keep h0 e1 hS hA hf hL hF
    obtain ⟨t2, a1, b1⟩ := kk r u t T'.heap (locs ++ L) e1.symm (by rw [← e2]; exact X'.warmed.alike) hp hb k1 k2 k3 T' rfl X'
    exact ⟨t2, st t2 a1, b1⟩
  · obtain ⟨k1, k2, k3⟩ := vx_keep h0 e1 hS hAX hf hL hF
    obtain ⟨t2, a1, b1⟩ := kx E ce q u t T'.heap (locs ++ L) e1.symm (by rw [← e2]; exact X'.warmed.alike) hp hb k1 k2 k3 (by rw [e1]; exact hce) hcv hcl T' rfl X'
    exact ⟨t2, st.trans a1, b1⟩
theorem vx_calld {S SX : Type} {post : UInt64 → S → Prop} {px : SX → Prop} {B : S → State → Prop} {BX : String → SX → State → Prop} {AX : Nat → Prop} (hr : vx_Run p l e R s m args below meth c H locs cells slots mc ms (F0 m pc ls st0) rest (va_Qd post B A1 a) (vx_X px BX AX) free) (hS : va_S A0 H0 H locs) (hA : ∀ q, q < H.size → A1 q → A0 q) (hf : ∀ q, free q → A0 q) (hAX : ∀ q, q < H.size → AX q → A0 q)
    (kx : ∀ (E : String) (ce : Cell) (q9 : Addr) (u : SX) (t : State) (H1 : Heap) (locs1 : List Loc), t.heap = H1 → s.vm.Alike t.vm → px u → BX E u t → H.size ≤ H1.size → (∀ q : Nat, q < H.size → ¬ AX q → H1[q]? = H[q]?) → va_S A0 H0 H1 locs1 → H1[q9]? = some ce → ce.vm = .none → s.vm.findClass E = some ce.cls → vx_W p l e R s m args below meth c H1 locs1 (cells + mc) (slots + ms) Q (F0 m pc ls rest) q9)
    (kk : ∀ (r : UInt64) (u : S) (t : State) (H1 : Heap) (locs1 : List Loc), t.heap = H1 → s.vm.Alike t.vm → post r u → B u t → H.size ≤ H1.size → (∀ q : Nat, q < H.size → ¬ A1 q → H1[q]? = H[q]?) → va_S A0 H0 H1 locs1 → W p l e R s m args below meth c H1 locs1 (cells + mc) (slots + ms) Q (F0 m (pc + 3) ls (.double r :: rest))) : W p l e R s m args below meth c H locs cells slots Q (F0 m pc ls st0) := by
  intro T hT X
  rcases hr T hT X with ⟨v, st₀, t, T', L, h0, X', hL, e1, e2, ⟨⟨r, u, hv, hp, hb⟩, hF⟩, st⟩ | ⟨q, st₀, t, T', L, E, ce, h0, X', hL, e1, e2, ⟨u, hp, hb, hF⟩, hce, hcv, hcl, st⟩
  · cases hv
    obtain ⟨k1, k2, k3⟩ := vx_keep h0 e1 hS hA hf hL hF
    obtain ⟨t2, a1, b1⟩ := kk r u t T'.heap (locs ++ L) e1.symm (by rw [← e2]; exact X'.warmed.alike) hp hb k1 k2 k3 T' rfl X'
    exact ⟨t2, st t2 a1, b1⟩
  · obtain ⟨k1, k2, k3⟩ := vx_keep h0 e1 hS hAX hf hL hF
    obtain ⟨t2, a1, b1⟩ := kx E ce q u t T'.heap (locs ++ L) e1.symm (by rw [← e2]; exact X'.warmed.alike) hp hb k1 k2 k3 (by rw [e1]; exact hce) hcv hcl T' rfl X'
    exact ⟨t2, st.trans a1, b1⟩
theorem vx_callv {S SX : Type} {post : S → Prop} {px : SX → Prop} {B : S → State → Prop} {BX : String → SX → State → Prop} {AX : Nat → Prop} (hr : vx_Run p l e R s m args below meth c H locs cells slots mc ms (F0 m pc ls st0) rest (va_Qv post B A1 a) (vx_X px BX AX) free) (hS : va_S A0 H0 H locs) (hA : ∀ q, q < H.size → A1 q → A0 q) (hf : ∀ q, free q → A0 q) (hAX : ∀ q, q < H.size → AX q → A0 q)
    (kx : ∀ (E : String) (ce : Cell) (q9 : Addr) (u : SX) (t : State) (H1 : Heap) (locs1 : List Loc), t.heap = H1 → s.vm.Alike t.vm → px u → BX E u t → H.size ≤ H1.size → (∀ q : Nat, q < H.size → ¬ AX q → H1[q]? = H[q]?) → va_S A0 H0 H1 locs1 → H1[q9]? = some ce → ce.vm = .none → s.vm.findClass E = some ce.cls → vx_W p l e R s m args below meth c H1 locs1 (cells + mc) (slots + ms) Q (F0 m pc ls rest) q9)
    (kk : ∀ (u : S) (t : State) (H1 : Heap) (locs1 : List Loc), t.heap = H1 → s.vm.Alike t.vm → post u → B u t → H.size ≤ H1.size → (∀ q : Nat, q < H.size → ¬ A1 q → H1[q]? = H[q]?) → va_S A0 H0 H1 locs1 → W p l e R s m args below meth c H1 locs1 (cells + mc) (slots + ms) Q (F0 m (pc + 3) ls (rest))) : W p l e R s m args below meth c H locs cells slots Q (F0 m pc ls st0) := by
  intro T hT X
  rcases hr T hT X with ⟨v, st₀, t, T', L, h0, X', hL, e1, e2, ⟨⟨u, hv, hp, hb⟩, hF⟩, st⟩ | ⟨q, st₀, t, T', L, E, ce, h0, X', hL, e1, e2, ⟨u, hp, hb, hF⟩, hce, hcv, hcl, st⟩
  · cases hv
    obtain ⟨k1, k2, k3⟩ := vx_keep h0 e1 hS hA hf hL hF
    obtain ⟨t2, a1, b1⟩ := kk u t T'.heap (locs ++ L) e1.symm (by rw [← e2]; exact X'.warmed.alike) hp hb k1 k2 k3 T' rfl X'
    exact ⟨t2, st t2 a1, b1⟩
  · obtain ⟨k1, k2, k3⟩ := vx_keep h0 e1 hS hAX hf hL hF
    obtain ⟨t2, a1, b1⟩ := kx E ce q u t T'.heap (locs ++ L) e1.symm (by rw [← e2]; exact X'.warmed.alike) hp hb k1 k2 k3 (by rw [e1]; exact hce) hcv hcl T' rfl X'
    exact ⟨t2, st.trans a1, b1⟩
/-- caught by the row x of this method's table; the rows ahead don't take it -/
theorem vx_catch {own name : String} {E : String} {ce : Cell} {q : Addr} (hown : s.vm.findClass own = some m.cls) (pre : List ExceptionTableEntry) (x : ExceptionTableEntry) (suf : List ExceptionTableEntry) (hsplit : c.exceptionTable.toList = pre ++ x :: suf)
    (hpass : ∀ z ∈ pre, covers z pc = false ∨ (z.catchType ≠ 0 ∧ ∃ nm : String, (Cond.classLink own z.catchType nm).before args s = true ∧ va_Nc E nm s)) (hx : covers x pc = true) (h0 : x.catchType ≠ 0)
    (hlink : (Cond.classLink own x.catchType name).before args s = true) (hcast : (Cond.castable E name).before args s = true) (hcell : H[q]? = some ce) (hv : ce.vm = .none) (hcl : s.vm.findClass E = some ce.cls)
    (kk : W p l e R s m args below meth c H locs cells slots Q (F0 m x.handlerPc ls [.ref q])) : vx_W p l e R s m args below meth c H locs cells slots Q (F0 m pc ls rest) q := by
  intro T hT X
  have hpl : e.platform.magicAccessors = ({} : Platform).magicAccessors := by rw [X.admits.platform]
  obtain ⟨c3, c4, hc3, hc4, hasg⟩ := Cond.castable_spec hcast
  cases Option.some.inj (hc3.symm.trans hcl)
  obtain ⟨c5, hc5, hcl5⟩ := Cond.classLink_spec hown hlink e.platform hpl
  cases Option.some.inj (hc4.symm.trans hc5)
  obtain ⟨vm', X', st⟩ := X.thenCaughtThrough q (g := F0 m pc ls rest) rfl (Steps.refl _) (by rw [hT]; exact hcell) (by rw [hv]; rfl) (by obtain ⟨k9, h9, -⟩ := Vm.findClass_spec hcl; exact ⟨k9, h9⟩) pre x suf hsplit
    (fun z hz => by
      rcases hpass z hz with h | ⟨hz0, nm, hl1, hn1⟩
      · exact Or.inl h
      · obtain ⟨c6, hc6, hcl6⟩ := Cond.classLink_spec hown hl1 e.platform hpl
        obtain ⟨a8, b8, h1, h2, h3⟩ := hn1
        cases Option.some.inj (h1.symm.trans hcl)
        cases Option.some.inj (h2.symm.trans hc6)
        exact Or.inr ⟨hz0, _, hcl6, h3⟩) hx (Or.inr ⟨h0, c4, hcl5, hasg⟩)
  obtain ⟨t, a1, b1⟩ := kk (T.setVm vm') hT X'
  exact ⟨t, st.trans a1, b1⟩
end Rows
section Ends
variable {p : Program} {l : Launch} {e : Env} {R : Room} {s : State} {m : MethodId} {args : Array Value} {below : List Frame} {meth : Method} {c : Code} {H : Heap} {locs : List Loc} {cells slots : Nat} {Q : State → Prop}
variable {mc ms : Nat} {free : Addr → Prop} {A0 A1 : Nat → Prop} {H0 : Heap} {a : Array Value} {ls : Array Slot} {st0 rest : List Value}
variable {Qc : Array Value → State → Outcome → State → Prop} {XC : String → State → State → Prop}
/-- what a body that may throw owes at its end -/
def vx_MQ (below : List Frame) (Qc : Array Value → State → Outcome → State → Prop) (XC : String → State → State → Prop) (a : Array Value) (s : State) (mc ms : Nat) (free : Addr → Prop) : State → Prop := fun t =>
  ∃ o, t.status = .running ∧ Ended t below o ∧ vx_Q Qc XC mc ms free a s o t
theorem vx_ret {g : JFrame} {mc ms : Nat} (k : W p l e R s m args below meth c H locs cells slots (MQ below Qc args s mc ms free) g) : W p l e R s m args below meth c H locs cells slots (vx_MQ below Qc XC args s mc ms free) g := by
  intro T hT X
  obtain ⟨t, a1, o, b1, b2, b3, b4⟩ := k T hT X
  exact ⟨t, a1, o, b1, b2, Or.inl ⟨b3, b4⟩⟩
/-- not caught here: it goes on to the caller -/
theorem vx_widen {g : JFrame} {q : Addr} {k n : Nat} (h1 : cells ≤ k) (h2 : slots ≤ n) (kk : vx_W p l e R s m args below meth c H locs k n Q g q) : vx_W p l e R s m args below meth c H locs cells slots Q g q := fun T hT X => kk T hT (stand_widen X h1 h2)
theorem vx_out {pc : Nat} {E : String} {ce : Cell} {q : Addr} {mc ms : Nat} (hout : ∀ x ∈ c.exceptionTable.toList, covers x pc = false) (hlocks : meth.locks = false) (hcell : H[q]? = some ce) (hv : ce.vm = .none) (hcl : s.vm.findClass E = some ce.cls)
    (hx : ∀ t : State, t.heap = H → s.vm.Alike t.vm → XC E s t) (hf : ∀ z ∈ locs, free z.base) (hc : cells ≤ mc) (hs : slots ≤ ms) :
    vx_W p l e R s m args below meth c H locs cells slots (vx_MQ below Qc XC args s mc ms free) (F0 m pc ls rest) q := by
  intro T hT X
  obtain ⟨st1, hrun, hend, hW, hsm⟩ := X.leaveThrown q (g := F0 m pc ls rest) rfl rfl rfl hout hlocks
  have hcell9 : (T.setFrames (.throwing q :: below)).heap[q]? = some ce := by
    show T.heap[q]? = some ce
    rw [hT]; exact hcell
  exact ⟨_, st1, .threw q, hrun, hend, Or.inr ⟨q, rfl, E, ce, locs, hx _ hT hW.alike, hcell9, hv, hcl, hW, hsm.mono hc hs, hf⟩⟩
theorem vx_frame {U : State} {k n : Nat} (h : s.sameButNew ({ U with vm := s.vm } : State) locs k n) : s.heap.size ≤ U.heap.size ∧ ∀ q : Nat, q < s.heap.size → (∀ z ∈ locs, z.base ≠ q) → U.heap[q]? = s.heap[q]? := by
  obtain ⟨-, h2, -, -, -, h6⟩ := h
  refine ⟨h2, fun q hq hz => ?_⟩
  obtain ⟨c9, e1, e2, e3, e4⟩ := h6 q _ (Array.getElem?_eq_getElem hq)
  have hs : c9.slots = (s.heap[q]).slots := Array.ext_getElem? fun i => e4 i fun hm => hz _ hm rfl
  have h9 : c9 = s.heap[q] := by
    rw [hs] at e2
    exact e2
  have e5 : U.heap[q]? = some c9 := e1
  rw [e5, h9, Array.getElem?_eq_getElem hq]
/-- the words of a throw but the four that speak of the heap -/
def vx_no (w : Cond) : Bool := decide (w ≠ .isRef (.static Bundle.tN "UNASSIGNED_STACK" Bundle.steD)) && decide (w ≠ .isRef (.static Bundle.tN "SUPPRESSED_SENTINEL" Bundle.listD)) && decide (w ≠ .laysStatic Bundle.tN "UNASSIGNED_STACK" Bundle.steD) && decide (w ≠ .laysStatic Bundle.tN "SUPPRESSED_SENTINEL" Bundle.listD)
def vx_at0 (own : String) (ic : Nat) (X : String) (names : List String) : List Cond := (Bundle.ownAtoms0 own ic X names).filter vx_no
def vx_atS (own : String) (ic : Nat) (X : String) (names : List String) : List Cond := (Bundle.ownAtoms own ic X names).filter vx_no
/-- a word that the tables alone decide, or a good one -/
def vx_ot (w : Cond) : Bool := w.onTables || goodWord w
theorem vx_ot_at {args a' : Array Value} {s U : State} {w : Cond} (hW : s.WarmedH U.vm) (hvm : s.vm = U.vm) (hg : vx_ot w = true) (h : w.before args s = true) : w.before a' U = true := by
  simp only [vx_ot, Bool.or_eq_true] at hg
  rcases hg with hg | hg
  · exact va_tabs hg hvm h
  · exact word_at hW (good_of_word hg) h
/-- a list's words: the good ones out of the method's own list, the others by premises of their own -/
theorem vx_hat {args : Array Value} {s : State} {L B : List Cond} (h1 : ∀ w ∈ L.filter goodWord, w.before args s = true) (h2 : ∀ w ∈ L.filter (fun w => !goodWord w), w ∈ B) (h3 : ∀ w ∈ B, w.before args s = true) : ∀ w ∈ L, w.before args s = true := by
  intro w hw
  by_cases g : goodWord w = true
  · exact h1 w (List.mem_filter.mpr ⟨hw, g⟩)
  · refine h3 w (h2 w (List.mem_filter.mpr ⟨hw, ?_⟩))
    show (!goodWord w) = true
    cases hgw : goodWord w
    · rfl
    · exact absurd hgw g
theorem vx_c {args : Array Value} {s : State} {w : Cond} {B : List Cond} (h : w.before args s = true) (t : ∀ w ∈ B, w.before args s = true) : ∀ w' ∈ w :: B, w'.before args s = true := fun w' h' => (List.mem_cons.mp h').elim (fun e => by rw [e]; exact h) (t w')
theorem vx_n {args : Array Value} {s : State} : ∀ w ∈ ([] : List Cond), w.before args s = true := fun _ h => nomatch h
theorem vx_own {args : Array Value} {s : State} {L : List Cond} (h1 : ∀ w ∈ L.filter vx_no, w.before args s = true)
    (hU : (Cond.isRef (.static Bundle.tN "UNASSIGNED_STACK" Bundle.steD)).before args s = true) (hN : (Cond.isRef (.static Bundle.tN "SUPPRESSED_SENTINEL" Bundle.listD)).before args s = true)
    (lU : (Cond.laysStatic Bundle.tN "UNASSIGNED_STACK" Bundle.steD).before args s = true) (lN : (Cond.laysStatic Bundle.tN "SUPPRESSED_SENTINEL" Bundle.listD).before args s = true) : ∀ w ∈ L, w.before args s = true := by
  intro w hw
  by_cases e1 : w = .isRef (.static Bundle.tN "UNASSIGNED_STACK" Bundle.steD)
  · rw [e1]; exact hU
  · by_cases e2 : w = .isRef (.static Bundle.tN "SUPPRESSED_SENTINEL" Bundle.listD)
    · rw [e2]; exact hN
    · by_cases e3 : w = .laysStatic Bundle.tN "UNASSIGNED_STACK" Bundle.steD
      · rw [e3]; exact lU
      · by_cases e4 : w = .laysStatic Bundle.tN "SUPPRESSED_SENTINEL" Bundle.listD
        · rw [e4]; exact lN
        · exact h1 w (List.mem_filter.mpr ⟨hw, by unfold vx_no; rw [decide_eq_true e1, decide_eq_true e2, decide_eq_true e3, decide_eq_true e4]; rfl⟩)
/-- where a static field lies, its class's statics cell in H -/
def vx_L (C n d : String) (A : Nat → Prop) (U : State) (H : Heap) : Prop := ∃ (c : ClassId) (k : Class) (i : Nat) (f : Field) (a : Nat) (cell : Cell), U.vm.findClass C = some c ∧ U.fieldFound? C n d = some (c, k, i, f) ∧ f.isStatic = true ∧ k.statics = some a ∧ H[a]? = some cell ∧ cell.vm.isStatics = true ∧ cell.cls = c ∧ f.slot < cell.slots.size ∧ k.staticTypes[f.slot]? = some f.type ∧ ¬ A a
theorem vx_L.moved {C n d : String} {A : Nat → Prop} {u U : State} {H : Heap} (hvm : u.vm.Alike U.vm) (h : vx_L C n d A u H) : vx_L C n d A U H := by
  obtain ⟨c, k, i, f, a, cell, h1, h2, h3, h4, h5, h6, h7, h8, h9, h10⟩ := h
  obtain ⟨k', hi', he⟩ := State.fieldFound?_setVm hvm h2
  exact ⟨c, k', i, f, a, cell, by rw [hvm.findClass]; exact h1, hi', h3, by rw [he]; exact h4, h5, h6, h7, h8, by rw [he]; exact h9, h10⟩
theorem vx_L.kept {C n d : String} {A : Nat → Prop} {U : State} {H H1 : Heap} (h : vx_L C n d A U H) (hq : ∀ a : Nat, a < H.size → ¬ A a → H1[a]? = H[a]?) : vx_L C n d A U H1 := by
  obtain ⟨c, k, i, f, a, cell, h1, h2, h3, h4, h5, h6, h7, h8, h9, h10⟩ := h
  exact ⟨c, k, i, f, a, cell, h1, h2, h3, h4, by rw [hq a (Array.getElem?_eq_some_iff.mp h5).1 h10]; exact h5, h6, h7, h8, h9, h10⟩
theorem vx_L.narrow {C n d : String} {A B : Nat → Prop} {U : State} {H : Heap} (h : vx_L C n d A U H) (hAB : ∀ q, B q → A q) : vx_L C n d B U H := by
  obtain ⟨c, k, i, f, a, cell, h1, h2, h3, h4, h5, h6, h7, h8, h9, h10⟩ := h
  exact ⟨c, k, i, f, a, cell, h1, h2, h3, h4, h5, h6, h7, h8, h9, fun z => h10 (hAB _ z)⟩
theorem vx_L.word {C n d : String} {A : Nat → Prop} {s : State} {args : Array Value} (h : vx_L C n d A s s.heap) : (Cond.laysStatic C n d).before args s = true := by
  obtain ⟨c, k, i, f, a, cell, h1, h2, h3, h4, h5, h6, h7, h8, h9, -⟩ := h
  show (Cond.laysStatic C n d).holds args s none s [] = true
  exact Cond.laysStatic_of h1 h2 h3 h4 h5 h6 h7 h8 h9
/-- .. and what it holds: null or some reference -/
def vx_Zq (C n d : String) (A : Nat → Prop) (U : State) (H : Heap) : Prop := va_Zq C n d A U H ∧ vx_L C n d A U H
theorem vx_Zq.moved {C n d : String} {A : Nat → Prop} {u U : State} {H : Heap} (hvm : u.vm.Alike U.vm) (h : vx_Zq C n d A u H) : vx_Zq C n d A U H := ⟨va_Zq.moved hvm h.1, vx_L.moved hvm h.2⟩
theorem vx_Zq.kept {C n d : String} {A : Nat → Prop} {U : State} {H H1 : Heap} (h : vx_Zq C n d A U H) (hq : ∀ a : Nat, a < H.size → ¬ A a → H1[a]? = H[a]?) : vx_Zq C n d A U H1 := ⟨va_Zq.kept h.1 hq, vx_L.kept h.2 hq⟩
theorem vx_Zq.narrow {C n d : String} {A B : Nat → Prop} {U : State} {H : Heap} (h : vx_Zq C n d A U H) (hAB : ∀ q, B q → A q) : vx_Zq C n d B U H := ⟨va_Zq.narrow h.1 hAB, vx_L.narrow h.2 hAB⟩
theorem vx_Zqof {args : Array Value} {s : State} {C n d : String} {A : Nat → Prop} (hl : (Cond.laysStatic C n d).before args s = true) (hini : (Cond.initialized C).before args s = true) (h : (Cond.isRef (.static C n d)).before args s = true) (hA : ∀ a : Nat, a < s.heap.size → ¬ A a) : vx_Zq C n d A s s.heap := by
  refine ⟨va_Zqof hl hini h hA, ?_⟩
  obtain ⟨c, k, i, f, a, cell, h1, h2, h3, h4, h5, h6, h7, h8, h9⟩ := Cond.laysStatic_spec hl
  exact ⟨c, k, i, f, a, cell, h1, h2, h3, h4, h5, h6, h7, h8, h9, hA a (Array.getElem?_eq_some_iff.mp h5).1⟩
theorem vx_isRef {C n d : String} {v : Value} {A : Nat → Prop} {s : State} {args : Array Value} (h : va_Z C n d v A s s.heap) (hv : v.isRef = true) : (Cond.isRef (.static C n d)).before args s = true := by
  obtain ⟨cf, kf, fi, f, a, cell, h1, h2, h3, h4, h5, h6, h7, -⟩ := h
  have he : (Term.static C n d).eval args s none [] s = some v := by
    simp [Term.eval, State.fieldNamed?, h1, h2, h4, h5, h6, h7]
  simp only [Cond.before, Cond.holds, Cond.value, he]
  cases v <;> simp_all [Value.isRef]
theorem vx_isRefq {C n d : String} {A : Nat → Prop} {s : State} {args : Array Value} (h : va_Zq C n d A s s.heap) : (Cond.isRef (.static C n d)).before args s = true := by
  rcases h with h | ⟨t, h⟩
  · exact vx_isRef h rfl
  · exact vx_isRef h rfl
/-- the same frame, seen from here: as if the method were called anew in this heap -/
theorem vx_rebase {T : State} (X : Stand p l e R s m args below meth c T locs cells slots) {R' : Room} (hf : R'.frames ≤ R.frames) (hl : R'.locals ≤ R.locals) (hc : cells + R'.cells ≤ R.cells) (hs : slots + R'.slots ≤ R.slots) :
    Stand p l e R' ((T.setVm s.vm).setFrames (.invoking m args :: below)) m args below meth c T [] 0 0 := by
  have htop : (T.setVm s.vm).topJava?.isSome := X.here.top
  have hF : ((T.setVm s.vm).setFrames (.invoking m args :: below)).frames = .invoking m args :: below := State.frames_setFrames _ (State.cur_lt_of_top htop)
  obtain ⟨g₀, hg0⟩ := Option.isSome_iff_exists.mp htop
  obtain ⟨r, hr⟩ := State.topJava?_eq_some.mp hg0
  have hl9 : e.platform.stackLimits (T.setVm s.vm).me = e.platform.stackLimits s.me := X.limits
  have hb9 : (T.setVm s.vm).me.stackBytes = s.me.stackBytes := X.bytes
  refine ⟨X.admits, X.cas, X.clock, hF, ?_, X.hears, X.method, X.code, X.here, X.tail, X.warmed, ?_, ?_, ?_⟩
  · have h := X.room
    have hU : ((T.setVm s.vm).setFrames (.invoking m args :: below)).localsInUse = s.localsInUse := by
      rw [State.localsInUse_invoking hF (meth := meth) (c := c) X.method X.code, State.localsInUse_invoking X.frames X.method X.code]
    simp only [State.hasRoom, Bool.and_eq_true, decide_eq_true_eq] at h ⊢
    obtain ⟨⟨⟨⟨h1, h2, h3, h4, h5, h6⟩, h7⟩, h8⟩, h9⟩ := h
    rw [X.frames, List.length_cons] at h2 h3
    have q1 := X.heapSize
    have q2 := X.used
    simp only [hF, hU, List.length_cons, State.stackLimits_setFrames, State.stackBytes_setFrames, hl9, hb9]
    refine ⟨⟨⟨⟨by omega, by omega, by omega, by omega, by omega, h6⟩, ?_⟩, ?_⟩, X.book⟩
    · show T.heap.size + R'.cells ≤ e.platform.maxCells
      omega
    · show T.slotsUsed + R'.slots ≤ e.platform.maxSlots
      omega
  · rw [State.stackLimits_setFrames]; rfl
  · rw [State.stackBytes_setFrames]; rfl
  · refine ⟨?_, Nat.le_refl _, Nat.le_refl _, ?_, ?_, fun a c9 h9 => ⟨c9, h9, rfl, rfl, fun _ _ => rfl⟩⟩
    · obtain ⟨t, ht, -⟩ := State.frames_cons hr
      show T.setVm s.vm = { ((T.setVm s.vm).setFrames (.invoking m args :: below)).setFrames (T.setVm s.vm).frames with heap := T.heap, slotsUsed := T.slotsUsed }
      rw [State.setFrames_setFrames, State.setFrames_self ht]
      rfl
    · show T.slotsUsed = T.slotsUsed + ((T.heap.toList.drop T.heap.size).map (·.slots.size)).sum
      rw [List.drop_eq_nil_of_le (Nat.le_of_eq Array.length_toList)]
      rfl
    · show ((T.heap.toList.drop T.heap.size).map (·.slots.size)).sum ≤ 0
      rw [List.drop_eq_nil_of_le (Nat.le_of_eq Array.length_toList)]
      exact Nat.le_refl _
/-- 'throw new E()': new; dup; invokespecial; athrow -/
theorem vx_throw0 {cc : ByteArray} {pc : Nat} (hexec : p.tables.exec = Jvm.exec) (hb : c.code = cc) (hl : l.stackTraces = false) {own cls : String} {names : List String} {ik ic mc ms : Nat} {A : Nat → Prop}
    (hown : s.vm.findClass own = some m.cls) (hcls : Bundle.fit cls = true) (hnames : ∀ n ∈ names, Bundle.fit n = true)
    (hk : (Cond.classLink own ik cls).before args s = true) (hini : (Cond.initialized cls).before args s = true) (hat : ∀ w ∈ vx_at0 own ic cls names, w.before args s = true)
    (hgood : ∀ w ∈ Cond.classLink own ik cls :: Cond.initialized cls :: vx_at0 own ic cls names, vx_ot w = true)
    (hU : vx_Zq Bundle.tN "UNASSIGNED_STACK" Bundle.steD A s s.heap) (hN : vx_Zq Bundle.tN "SUPPRESSED_SENTINEL" Bundle.listD A s s.heap) (hS : va_S A s.heap H locs) (hsize : ls.size = c.maxLocals)
    (d0 : decode cc pc = .ok (.new ik, 3)) (d3 : decode cc (pc + 3) = .ok (.dup, 1)) (d4 : decode cc (pc + 4) = .ok (.invokespecial ic, 3)) (d7 : decode cc (pc + 7) = .ok (.athrow, 1))
    (hout : ∀ x ∈ c.exceptionTable.toList, covers x (pc + 7) = false)
    (hRframes : names.length + 3 < R.frames) (hRlocals : (rest.map fun v => v.category).sum + (13 * (names.length + 1) + 42) ≤ R.locals) (hRcells : cells + 1 ≤ R.cells) (hRslots : slots + 6 ≤ R.slots) (hlocks : meth.locks = false)
    (hx : ∀ t : State, s.vm.Alike t.vm → H.size ≤ t.heap.size → (∀ q : Nat, q < H.size → t.heap[q]? = H[q]?) → XC cls s t)
    (hf : ∀ z ∈ locs, free z.base) (hc : cells + 1 ≤ mc) (hs : slots + 6 ≤ ms) :
    W p l e R s m args below meth c H locs cells slots (vx_MQ below Qc XC args s mc ms free) (F0 m pc ls rest) := by
  intro T hT X
  have htr : e.platform.stackTraces = false := (show e.platform.stackTraces = l.stackTraces by rw [X.admits.platform]).trans hl
  have Y := vx_rebase X (R' := { frames := R.frames, locals := R.locals, cells := 1, slots := 6 }) (Nat.le_refl _) (Nat.le_refl _) hRcells hRslots
  obtain ⟨s', hA⟩ : ∃ z, z = (T.setVm s.vm).setFrames (.invoking m args :: below) := ⟨_, rfl⟩
  rw [← hA] at Y
  have hvm : s'.vm = s.vm := by rw [hA]; rfl
  have hhp : s'.heap = H := by rw [hA]; exact hT
  have hW0 : s.WarmedH s'.vm := by rw [hvm]; exact State.WarmedH.refl s
  have hat' : ∀ w ∈ vx_at0 own ic cls names, w.before args s' = true := fun w hw => vx_ot_at hW0 hvm.symm (hgood w (List.mem_cons_of_mem _ (List.mem_cons_of_mem _ hw))) (hat w hw)
  have hk' : (Cond.classLink own ik cls).before args s' = true := vx_ot_at hW0 hvm.symm (hgood _ List.mem_cons_self) hk
  have hini' : (Cond.initialized cls).before args s' = true := vx_ot_at hW0 hvm.symm (hgood _ (List.mem_cons_of_mem _ List.mem_cons_self)) hini
  have hU' : vx_Zq Bundle.tN "UNASSIGNED_STACK" Bundle.steD A s' s'.heap := by rw [hhp]; exact vx_Zq.moved hW0.alike (hU.kept hS.2.1)
  have hN' : vx_Zq Bundle.tN "SUPPRESSED_SENTINEL" Bundle.listD A s' s'.heap := by rw [hhp]; exact vx_Zq.moved hW0.alike (hN.kept hS.2.1)
  have h : ∀ w ∈ Bundle.ownAtoms0 own ic cls names, w.before args s' = true := vx_own hat' (vx_isRefq hU'.1) (vx_isRefq hN'.1) hU'.2.word hN'.2.word
  have hown' : s'.vm.findClass own = some m.cls := by rw [hvm]; exact hown
  have hins : (Cond.instantiable cls 6).before args s' = true := h _ (by simp [Bundle.ownAtoms0])
  obtain ⟨vm₁, cX, kX, hfX, hkX, -, -, X₁, st1⟩ := Y.newCold hexec (own := own) (C := cls) (index := ik) (n := 6) hown' hk' hins hini'
    (g := F0 m pc ls rest) rfl (by rw [hb]; exact d0) (Nat.le_refl _) (Nat.le_refl _)
  generalize hT1 : (T.setVm vm₁).pushCell { cls := cX, slots := kX.instanceTypes.map defaultValue, vm := .none } = T1 at X₁ st1
  have hcat : (Value.ref T.heap.size).category = 1 := rfl
  have hcellA : T1.heap[T.heap.size]? = some (freshCell cX kX) := by rw [← hT1]; exact State.heap_pushCell_size _ _
  have d3' : decode c.code (pc + 3) = .ok (.dup, 1) := by rw [hb]; exact d3
  obtain ⟨U, hsteps, hrun, hend, hW, hsame, ce, hce, hO⟩ := X₁.ctorThrow0 hexec htr (own := own) (cls := cls) (names := names) (ic := ic) hown' hcls hnames h (fun x hx => nomatch hx) hfX hkX hcellA (by rw [hhp, hT]; exact Nat.le_refl _)
    (g := { method := m, pc := pc + 4, locals := ls, stack := .ref T.heap.size :: .ref T.heap.size :: rest, locked := none }) rfl hsize rfl rfl (rest := rest) rfl
    (by rw [hb]; exact d4) (by rw [hb]; exact d7) hout hRframes (by simp only [List.map_cons, List.sum_cons, hcat]; omega) hlocks
  obtain ⟨f1, f2⟩ := vx_frame hsame
  rw [hhp] at f1 f2
  have hWs : s.WarmedH U.vm := State.WarmedH.trans hW0 hW
  have hcl : s.vm.findClass cls = some ce.cls := by
    have h9 := hO.cls
    rw [hvm] at h9
    exact h9
  have hall : s.sameButNew ({ U with vm := s.vm } : State) locs mc ms := by
    subst hA
    obtain ⟨e1, e2⟩ := hsame
    rw [State.setFrames_setFrames] at e1
    have h2 : (T.setVm s.vm).sameButNew ({ U with vm := s.vm } : State) [] (0 + 1) (0 + 6) := ⟨e1, e2⟩
    have h3 := X.same.trans h2
    rw [List.append_nil] at h3
    exact h3.mono hc hs
  refine ⟨U, ?_, .threw T.heap.size, hrun, hend, Or.inr ⟨T.heap.size, rfl, cls, ce, locs, hx U hWs.alike f1 (fun q hq => f2 q hq (fun z hz => nomatch hz)), hce, hO.vm, hcl, hWs, hall, hf⟩⟩
  refine st1 _ ?_
  show Steps p.tables e below (T1.setTop { method := m, pc := pc + 3, locals := ls, stack := .ref T.heap.size :: rest, locked := none }) _
  jvm_step X₁.here [X₁.here.top, hexec, d3', Value.category]
  exact hsteps
/-- 'throw new E("text")': new; dup; ldc; invokespecial; athrow -/
theorem vx_throwS {cc : ByteArray} {pc : Nat} (hexec : p.tables.exec = Jvm.exec) (hb : c.code = cc) (hl : l.stackTraces = false) {own cls text : String} {names : List String} {ik is ic mc ms sa : Nat} {A : Nat → Prop}
    (hown : s.vm.findClass own = some m.cls) (hcls : Bundle.fit cls = true) (hnames : ∀ n ∈ names, Bundle.fit n = true)
    (hk : (Cond.classLink own ik cls).before args s = true) (hini : (Cond.initialized cls).before args s = true) (hstr : vk_R own is text sa s) (hat : ∀ w ∈ vx_atS own ic cls names, w.before args s = true)
    (hgood : ∀ w ∈ Cond.classLink own ik cls :: Cond.initialized cls :: vx_atS own ic cls names, vx_ot w = true)
    (hU : vx_Zq Bundle.tN "UNASSIGNED_STACK" Bundle.steD A s s.heap) (hN : vx_Zq Bundle.tN "SUPPRESSED_SENTINEL" Bundle.listD A s s.heap) (hS : va_S A s.heap H locs) (hsize : ls.size = c.maxLocals)
    (d0 : decode cc pc = .ok (.new ik, 3)) (d3 : decode cc (pc + 3) = .ok (.dup, 1)) (d4 : decode cc (pc + 4) = .ok (.ldc is, 2)) (d6 : decode cc (pc + 6) = .ok (.invokespecial ic, 3)) (d9 : decode cc (pc + 9) = .ok (.athrow, 1))
    (hout : ∀ x ∈ c.exceptionTable.toList, covers x (pc + 9) = false)
    (hRframes : names.length + 3 < R.frames) (hRlocals : (rest.map fun v => v.category).sum + (13 * (names.length + 1) + 43) ≤ R.locals) (hRcells : cells + 1 ≤ R.cells) (hRslots : slots + 6 ≤ R.slots) (hlocks : meth.locks = false)
    (hx : ∀ t : State, s.vm.Alike t.vm → H.size ≤ t.heap.size → (∀ q : Nat, q < H.size → t.heap[q]? = H[q]?) → XC cls s t)
    (hf : ∀ z ∈ locs, free z.base) (hc : cells + 1 ≤ mc) (hs : slots + 6 ≤ ms) :
    W p l e R s m args below meth c H locs cells slots (vx_MQ below Qc XC args s mc ms free) (F0 m pc ls rest) := by
  intro T hT X
  have htr : e.platform.stackTraces = false := (show e.platform.stackTraces = l.stackTraces by rw [X.admits.platform]).trans hl
  have Y := vx_rebase X (R' := { frames := R.frames, locals := R.locals, cells := 1, slots := 6 }) (Nat.le_refl _) (Nat.le_refl _) hRcells hRslots
  obtain ⟨s', hA⟩ : ∃ z, z = (T.setVm s.vm).setFrames (.invoking m args :: below) := ⟨_, rfl⟩
  rw [← hA] at Y
  have hvm : s'.vm = s.vm := by rw [hA]; rfl
  have hhp : s'.heap = H := by rw [hA]; exact hT
  have hW0 : s.WarmedH s'.vm := by rw [hvm]; exact State.WarmedH.refl s
  have hat' : ∀ w ∈ vx_atS own ic cls names, w.before args s' = true := fun w hw => vx_ot_at hW0 hvm.symm (hgood w (List.mem_cons_of_mem _ (List.mem_cons_of_mem _ hw))) (hat w hw)
  have hk' : (Cond.classLink own ik cls).before args s' = true := vx_ot_at hW0 hvm.symm (hgood _ List.mem_cons_self) hk
  have hini' : (Cond.initialized cls).before args s' = true := vx_ot_at hW0 hvm.symm (hgood _ (List.mem_cons_of_mem _ List.mem_cons_self)) hini
  have hU' : vx_Zq Bundle.tN "UNASSIGNED_STACK" Bundle.steD A s' s'.heap := by rw [hhp]; exact vx_Zq.moved hW0.alike (hU.kept hS.2.1)
  have hN' : vx_Zq Bundle.tN "SUPPRESSED_SENTINEL" Bundle.listD A s' s'.heap := by rw [hhp]; exact vx_Zq.moved hW0.alike (hN.kept hS.2.1)
  have h : ∀ w ∈ Bundle.ownAtoms own ic cls names, w.before args s' = true := vx_own hat' (vx_isRefq hU'.1) (vx_isRefq hN'.1) hU'.2.word hN'.2.word
  have hown' : s'.vm.findClass own = some m.cls := by rw [hvm]; exact hown
  have hins : (Cond.instantiable cls 6).before args s' = true := h _ (by simp [Bundle.ownAtoms])
  obtain ⟨vm₁, cX, kX, hfX, hkX, -, -, X₁, st1⟩ := Y.newCold hexec (own := own) (C := cls) (index := ik) (n := 6) hown' hk' hins hini'
    (g := F0 m pc ls rest) rfl (by rw [hb]; exact d0) (Nat.le_refl _) (Nat.le_refl _)
  generalize hT1 : (T.setVm vm₁).pushCell { cls := cX, slots := kX.instanceTypes.map defaultValue, vm := .none } = T1 at X₁ st1
  have hcat : (Value.ref T.heap.size).category = 1 := rfl
  have hcellA : T1.heap[T.heap.size]? = some (freshCell cX kX) := by rw [← hT1]; exact State.heap_pushCell_size _ _
  have d3' : decode c.code (pc + 3) = .ok (.dup, 1) := by rw [hb]; exact d3
  have d4' : decode c.code (pc + 4) = .ok (.ldc is, 2) := by rw [hb]; exact d4
  have hstr' : vk_R own is text sa s' := vk_R.warm hW0 hstr
  obtain ⟨U, hsteps, hrun, hend, hW, hsame, ce, hce, hO⟩ := X₁.ctorThrowS hexec htr (own := own) (cls := cls) (names := names) (ic := ic) hown' hcls hnames h (fun x hx => nomatch hx) hfX hkX hcellA (by rw [hhp, hT]; exact Nat.le_refl _) (msg := .ref sa) rfl
    (g := { method := m, pc := pc + 6, locals := ls, stack := .ref sa :: .ref T.heap.size :: .ref T.heap.size :: rest, locked := none }) rfl hsize rfl rfl (rest := rest) rfl
    (by rw [hb]; exact d6) (by rw [hb]; exact d9) hout hRframes (by simp only [List.map_cons, List.sum_cons, hcat]; omega) hlocks
  obtain ⟨f1, f2⟩ := vx_frame hsame
  rw [hhp] at f1 f2
  have hWs : s.WarmedH U.vm := State.WarmedH.trans hW0 hW
  have hcl : s.vm.findClass cls = some ce.cls := by
    have h9 := hO.cls
    rw [hvm] at h9
    exact h9
  have hall : s.sameButNew ({ U with vm := s.vm } : State) locs mc ms := by
    subst hA
    obtain ⟨e1, e2⟩ := hsame
    rw [State.setFrames_setFrames] at e1
    have h2 : (T.setVm s.vm).sameButNew ({ U with vm := s.vm } : State) [] (0 + 1) (0 + 6) := ⟨e1, e2⟩
    have h3 := X.same.trans h2
    rw [List.append_nil] at h3
    exact h3.mono hc hs
  refine ⟨U, ?_, .threw T.heap.size, hrun, hend, Or.inr ⟨T.heap.size, rfl, cls, ce, locs, hx U hWs.alike f1 (fun q hq => f2 q hq (fun z hz => nomatch hz)), hce, hO.vm, hcl, hWs, hall, hf⟩⟩
  refine st1 _ ?_
  show Steps p.tables e below (T1.setTop { method := m, pc := pc + 3, locals := ls, stack := .ref T.heap.size :: rest, locked := none }) _
  jvm_step X₁.here [X₁.here.top, hexec, d3', Value.category]
  exact X₁.ldcString hexec (own := own) (text := text) (index := is) (a := sa) hown' hstr'.1 hstr'.2
    (g := { method := m, pc := pc + 4, locals := ls, stack := .ref T.heap.size :: .ref T.heap.size :: rest, locked := none }) rfl d4' _ hsteps
/-- 'throw new E("text")', the text by a wide index -/
theorem vx_throwSW {cc : ByteArray} {pc : Nat} (hexec : p.tables.exec = Jvm.exec) (hb : c.code = cc) (hl : l.stackTraces = false) {own cls text : String} {names : List String} {ik is ic mc ms sa : Nat} {A : Nat → Prop}
    (hown : s.vm.findClass own = some m.cls) (hcls : Bundle.fit cls = true) (hnames : ∀ n ∈ names, Bundle.fit n = true)
    (hk : (Cond.classLink own ik cls).before args s = true) (hini : (Cond.initialized cls).before args s = true) (hstr : vk_R own is text sa s) (hat : ∀ w ∈ vx_atS own ic cls names, w.before args s = true)
    (hgood : ∀ w ∈ Cond.classLink own ik cls :: Cond.initialized cls :: vx_atS own ic cls names, vx_ot w = true)
    (hU : vx_Zq Bundle.tN "UNASSIGNED_STACK" Bundle.steD A s s.heap) (hN : vx_Zq Bundle.tN "SUPPRESSED_SENTINEL" Bundle.listD A s s.heap) (hS : va_S A s.heap H locs) (hsize : ls.size = c.maxLocals)
    (d0 : decode cc pc = .ok (.new ik, 3)) (d3 : decode cc (pc + 3) = .ok (.dup, 1)) (d4 : decode cc (pc + 4) = .ok (.ldc_w is, 3)) (d7 : decode cc (pc + 7) = .ok (.invokespecial ic, 3)) (d10 : decode cc (pc + 10) = .ok (.athrow, 1))
    (hout : ∀ x ∈ c.exceptionTable.toList, covers x (pc + 10) = false)
    (hRframes : names.length + 3 < R.frames) (hRlocals : (rest.map fun v => v.category).sum + (13 * (names.length + 1) + 43) ≤ R.locals) (hRcells : cells + 1 ≤ R.cells) (hRslots : slots + 6 ≤ R.slots) (hlocks : meth.locks = false)
    (hx : ∀ t : State, s.vm.Alike t.vm → H.size ≤ t.heap.size → (∀ q : Nat, q < H.size → t.heap[q]? = H[q]?) → XC cls s t)
    (hf : ∀ z ∈ locs, free z.base) (hc : cells + 1 ≤ mc) (hs : slots + 6 ≤ ms) :
    W p l e R s m args below meth c H locs cells slots (vx_MQ below Qc XC args s mc ms free) (F0 m pc ls rest) := by
  intro T hT X
  have htr : e.platform.stackTraces = false := (show e.platform.stackTraces = l.stackTraces by rw [X.admits.platform]).trans hl
  have Y := vx_rebase X (R' := { frames := R.frames, locals := R.locals, cells := 1, slots := 6 }) (Nat.le_refl _) (Nat.le_refl _) hRcells hRslots
  obtain ⟨s', hA⟩ : ∃ z, z = (T.setVm s.vm).setFrames (.invoking m args :: below) := ⟨_, rfl⟩
  rw [← hA] at Y
  have hvm : s'.vm = s.vm := by rw [hA]; rfl
  have hhp : s'.heap = H := by rw [hA]; exact hT
  have hW0 : s.WarmedH s'.vm := by rw [hvm]; exact State.WarmedH.refl s
  have hat' : ∀ w ∈ vx_atS own ic cls names, w.before args s' = true := fun w hw => vx_ot_at hW0 hvm.symm (hgood w (List.mem_cons_of_mem _ (List.mem_cons_of_mem _ hw))) (hat w hw)
  have hk' : (Cond.classLink own ik cls).before args s' = true := vx_ot_at hW0 hvm.symm (hgood _ List.mem_cons_self) hk
  have hini' : (Cond.initialized cls).before args s' = true := vx_ot_at hW0 hvm.symm (hgood _ (List.mem_cons_of_mem _ List.mem_cons_self)) hini
  have hU' : vx_Zq Bundle.tN "UNASSIGNED_STACK" Bundle.steD A s' s'.heap := by rw [hhp]; exact vx_Zq.moved hW0.alike (hU.kept hS.2.1)
  have hN' : vx_Zq Bundle.tN "SUPPRESSED_SENTINEL" Bundle.listD A s' s'.heap := by rw [hhp]; exact vx_Zq.moved hW0.alike (hN.kept hS.2.1)
  have h : ∀ w ∈ Bundle.ownAtoms own ic cls names, w.before args s' = true := vx_own hat' (vx_isRefq hU'.1) (vx_isRefq hN'.1) hU'.2.word hN'.2.word
  have hown' : s'.vm.findClass own = some m.cls := by rw [hvm]; exact hown
  have hins : (Cond.instantiable cls 6).before args s' = true := h _ (by simp [Bundle.ownAtoms])
  obtain ⟨vm₁, cX, kX, hfX, hkX, -, -, X₁, st1⟩ := Y.newCold hexec (own := own) (C := cls) (index := ik) (n := 6) hown' hk' hins hini'
    (g := F0 m pc ls rest) rfl (by rw [hb]; exact d0) (Nat.le_refl _) (Nat.le_refl _)
  generalize hT1 : (T.setVm vm₁).pushCell { cls := cX, slots := kX.instanceTypes.map defaultValue, vm := .none } = T1 at X₁ st1
  have hcat : (Value.ref T.heap.size).category = 1 := rfl
  have hcellA : T1.heap[T.heap.size]? = some (freshCell cX kX) := by rw [← hT1]; exact State.heap_pushCell_size _ _
  have d3' : decode c.code (pc + 3) = .ok (.dup, 1) := by rw [hb]; exact d3
  have d4' : decode c.code (pc + 4) = .ok (.ldc_w is, 3) := by rw [hb]; exact d4
  have hstr' : vk_R own is text sa s' := vk_R.warm hW0 hstr
  obtain ⟨U, hsteps, hrun, hend, hW, hsame, ce, hce, hO⟩ := X₁.ctorThrowS hexec htr (own := own) (cls := cls) (names := names) (ic := ic) hown' hcls hnames h (fun x hx => nomatch hx) hfX hkX hcellA (by rw [hhp, hT]; exact Nat.le_refl _) (msg := .ref sa) rfl
    (g := { method := m, pc := pc + 7, locals := ls, stack := .ref sa :: .ref T.heap.size :: .ref T.heap.size :: rest, locked := none }) rfl hsize rfl rfl (rest := rest) rfl
    (by rw [hb]; exact d7) (by rw [hb]; exact d10) hout hRframes (by simp only [List.map_cons, List.sum_cons, hcat]; omega) hlocks
  obtain ⟨f1, f2⟩ := vx_frame hsame
  rw [hhp] at f1 f2
  have hWs : s.WarmedH U.vm := State.WarmedH.trans hW0 hW
  have hcl : s.vm.findClass cls = some ce.cls := by
    have h9 := hO.cls
    rw [hvm] at h9
    exact h9
  have hall : s.sameButNew ({ U with vm := s.vm } : State) locs mc ms := by
    subst hA
    obtain ⟨e1, e2⟩ := hsame
    rw [State.setFrames_setFrames] at e1
    have h2 : (T.setVm s.vm).sameButNew ({ U with vm := s.vm } : State) [] (0 + 1) (0 + 6) := ⟨e1, e2⟩
    have h3 := X.same.trans h2
    rw [List.append_nil] at h3
    exact h3.mono hc hs
  refine ⟨U, ?_, .threw T.heap.size, hrun, hend, Or.inr ⟨T.heap.size, rfl, cls, ce, locs, hx U hWs.alike f1 (fun q hq => f2 q hq (fun z hz => nomatch hz)), hce, hO.vm, hcl, hWs, hall, hf⟩⟩
  refine st1 _ ?_
  show Steps p.tables e below (T1.setTop { method := m, pc := pc + 3, locals := ls, stack := .ref T.heap.size :: rest, locked := none }) _
  jvm_step X₁.here [X₁.here.top, hexec, d3', Value.category]
  exact X₁.ldcStringW hexec (own := own) (text := text) (index := is) (a := sa) hown' hstr'.1 hstr'.2
    (g := { method := m, pc := pc + 4, locals := ls, stack := .ref T.heap.size :: .ref T.heap.size :: rest, locked := none }) rfl d4' _ hsteps
end Ends
section Bodies
variable {l : Launch}
theorem vx_ofW {y : MethodName} {ws ws' : List Cond} {rm : Room} {Pc : Array Value → State → Prop} {Qc : Array Value → State → Outcome → State → Prop} {XC : String → State → State → Prop} {mc ms : Nat} {free : Addr → Prop} {cc : ByteArray} {maxL : Nat} {ret : Option FieldType}
    (hy : plainName y.cls = true) (hw : ws = Cond.code y cc maxL ret :: ws')
    (body : ∀ p e s m args below meth c s₁, BodyLoose p l y (headSpec ws rm) cc maxL ret e s m args below meth c s₁ → c.maxLocals = maxL → (∀ x ∈ c.exceptionTable.toList, False) → Pc args s →
      W p l e (headSpec ws rm).room s m args below meth c s.heap [] 0 0 (vx_MQ below Qc XC args s mc ms free) (entryFrame m args maxL)) : vx_Met l y ws rm Pc Qc XC mc ms free := by
  refine MetFree.of_bodyS (code := cc) (maxLocals := maxL) (ret := ret) hy ?_ ?_
  · intro args s m h hn
    obtain ⟨meth, c, h1, h2, h3, h4, h5, h6, -, -⟩ := Cond.code_spec hn (atoms_spec (ws := ws) h _ (by rw [hw]; exact List.mem_cons_self))
    exact ⟨meth, c, h1, h2, h3, h4, h5, h6⟩
  · intro p e s m args below meth c s₁ B hml hP _
    have hh0 : s₁.heap = s.heap := by rw [B.state]; rfl
    have ht : ∀ x ∈ c.exceptionTable.toList, False := by
      obtain ⟨meth9, c9, h1, h2, -, -, -, -, h7, -⟩ := Cond.code_spec B.named (atoms_spec (ws := ws) B.pre _ (by rw [hw]; exact List.mem_cons_self))
      cases Option.some.inj (h1.symm.trans B.method)
      cases Option.some.inj (h2.symm.trans (Stand.of_body B).code)
      intro x hx
      rw [Array.isEmpty_iff.mp h7] at hx
      cases hx
    obtain ⟨t, a1, o, b1, b2, b3⟩ := body p e s m args below meth c s₁ B hml ht hP s₁ hh0 (Stand.of_body B)
    exact ⟨t, o, a1, b1, b2, b3⟩
/-- the table of a body with handlers -/
theorem vx_table {p : Program} {x y : MethodName} {S : Spec} {cc bytes : ByteArray} {maxL maxL' : Nat} {ret ret' : Option FieldType} {e : Env} {s s₁ : State} {m : MethodId} {args : Array Value} {below : List Frame} {meth : Method} {c : Code} {hh : List (Nat × Nat × Nat × Nat)}
    (B : BodyLoose p l y S cc maxL ret e s m args below meth c s₁) (h : (Cond.codeWith y bytes maxL' ret' hh).before args s = true) : c.exceptionTable.toList = tableOf hh := by
  obtain ⟨m9, meth9, c9, hn9, h1, h2, -, -, h6, -⟩ := Cond.codeWith_spec h
  cases Option.some.inj (hn9.symm.trans B.named)
  cases Option.some.inj (h1.symm.trans B.method)
  cases Option.some.inj (h2.symm.trans (Stand.of_body B).code)
  rw [← h6, table_eq]
end Bodies
end VXA
/-! ===== END ===== -/
/-! ===== BEGIN a static call of a method with an exception table ===== -/
section VXS
variable {p : Program} {l : Launch} {e : Env} {R : Room} {s : State} {m : MethodId} {args : Array Value} {below : List Frame} {meth : Method} {c : Code} {T : State} {H : Heap} {locs : List Loc} {cells slots : Nat}
abbrev vx_CSW (R : Room) (s : State) (args : Array Value) (own : String) (index : Nat) (y : MethodName) (bytes : ByteArray) (maxL : Nat) (ret : Option FieldType) (hh : List (Nat × Nat × Nat × Nat)) (ws : List Cond) (rm : Room) (mc ms n : Nat) : Prop :=
  (rm.cells = mc ∧ rm.slots = ms ∧ rm.frames + 1 ≤ R.frames ∧ 8 + (maxL + 11) + rm.locals ≤ R.locals ∧ (∀ w ∈ ws, ∀ (a' : Array Value) (U : State), s.WarmedH U.vm → w.before a' U = true) ∧ Cond.codeWith y bytes maxL ret hh ∈ ws) ∧
  (Cond.codeWith y bytes maxL ret hh).before args s = true ∧ (Cond.initialized y.cls).before args s = true ∧ (y.cls ≠ "java/lang/invoke/MethodHandle" ∧ y.cls ≠ "java/lang/invoke/VarHandle") ∧
  (∀ sig, parseMethodDescriptor y.desc = some sig → n = sig.parameters.length) ∧ (Cond.methodLink own index y).before args s = true ∧ (Cond.static y).before args s = true
theorem vx_cwSW {own : String} {index maxL mc ms : Nat} {y : MethodName} {bytes : ByteArray} {ret : Option FieldType} {hh : List (Nat × Nat × Nat × Nat)} {Ts ws ws' : List Cond} {rm : Room} (n : Nat) (ht : ∀ w ∈ Ts, w.before args s = true) (hT : GoodIn Ts (va_wsS own index y ws)) (hw : ws = Cond.codeWith y bytes maxL ret hh :: ws') (hrc : rm.cells = mc) (hrs : rm.slots = ms)
    (hd : y.cls ≠ "java/lang/invoke/MethodHandle" ∧ y.cls ≠ "java/lang/invoke/VarHandle" ∧ (parseMethodDescriptor y.desc).map (fun d => d.parameters.length) = some n) (hR : rm.frames + 1 ≤ R.frames ∧ 8 + (maxL + 11) + rm.locals ≤ R.locals) :
    vx_CSW R s args own index y bytes maxL ret hh ws rm mc ms n := by
  have ok : ∀ w ∈ va_wsS own index y ws, w.before args s = true := fun w h => ht w (hT w h).1
  have hG : GoodIn Ts ws := fun w h => hT w (by unfold va_wsS; exact List.mem_append_right _ h)
  have hc : Cond.codeWith y bytes maxL ret hh ∈ ws := by rw [hw]; exact List.mem_cons_self
  refine ⟨⟨hrc, hrs, hR.1, hR.2, pay_in ht hG, hc⟩, ht _ (hG _ hc).1, ok _ (by simp [va_wsS]), ⟨hd.1, hd.2.1⟩, fun sig h => ?_, ok _ (by simp [va_wsS]), ok _ (by simp [va_wsS])⟩
  have h2 := hd.2.2
  rw [h] at h2
  exact (Option.some.inj h2).symm
theorem vx_callSW (X : Stand p l e R s m args below meth c T locs cells slots) (hexec : p.tables.exec = Jvm.exec) {own : String} {index : Nat} {y : MethodName} {bytes : ByteArray} {maxL : Nat} {ret : Option FieldType} {hh : List (Nat × Nat × Nat × Nat)}
    (hown : s.vm.findClass own = some m.cls) (hlink : (Cond.methodLink own index y).before args s = true) (hstat : (Cond.static y).before args s = true) (hinit : (Cond.initialized y.cls).before args s = true)
    (hcode : (Cond.codeWith y bytes maxL ret hh).before args s = true) (hy : y.cls ≠ "java/lang/invoke/MethodHandle" ∧ y.cls ≠ "java/lang/invoke/VarHandle")
    {W9 : Nat} {Pre : Pt → Array Value → Prop} {Post : Pt → Array Value → Option Value → Pt → Prop} (hK : Back l R p e below s args y 3 W9 Pre Post)
    {g : JFrame} (hg : g.method = m) (hsize : g.locals.size = c.maxLocals) {argsL rest : List Value} (hlen : ∀ sig, parseMethodDescriptor y.desc = some sig → argsL.length = sig.parameters.length)
    (hstack : g.stack = argsL.reverse ++ rest) (hW : 2 * g.monitorRoom + (rest.map fun v => v.category).sum ≤ W9) (hdg : decode c.code g.pc = .ok (.invokestatic index, 3))
    (hpre : ∀ vm₁, s.WarmedH vm₁ → Pre ⟨T.setVm vm₁, locs, cells, slots⟩ argsL.toArray) :
    ∃ (v : Option Value) (vm₁ : Vm) (B : Pt), s.WarmedH vm₁ ∧ Stand p l e R s m args below meth c B.U B.locs B.cells B.slots ∧ Post ⟨T.setVm vm₁, locs, cells, slots⟩ argsL.toArray v B ∧
      ∀ target, Steps p.tables e below (B.U.setTop { g with pc := g.pc + 3, stack := v.toList ++ rest }) target → Steps p.tables e below (T.setTop g) target := by
  obtain ⟨mk, methM, cM, hnamed, hmethM, -, -, -, -, -, -, hsigM⟩ := Cond.codeWith_spec hcode
  have hstatic : methM.isStatic = true := Cond.static_spec hnamed hmethM hstat
  obtain ⟨kP, hkP, -⟩ := className_of_methodNamed hnamed
  have hinitP : kP.init = .initialized := Cond.initialized_spec (findClass_of_methodNamed hnamed) hkP hinit
  obtain ⟨vm₁, X₁, hstep₁⟩ := X.invokestatic hexec hown hlink hnamed hmethM hstatic hkP hinitP hy (g := g) hg (argsL := argsL) (rest := rest) (hlen _ hsigM) hstack hdg
  obtain ⟨v, B, X', hpost, hsteps⟩ := hK m meth c ⟨T.setVm vm₁, locs, cells, slots⟩ { g with stack := rest } (.invokestatic index) mk argsL.toArray X₁ hg hsize hdg hW (X₁.named hnamed) (hpre vm₁ X₁.warmed)
  exact ⟨v, vm₁, B, X₁.warmed, X', hpost, fun target h => hstep₁ _ fun acts => by rw [doInvoke_state]; exact hsteps.trans h⟩
theorem vx_runSW {y : MethodName} {bytes cc : ByteArray} {maxL nL mc ms n index : Nat} {ret : Option FieldType} {hh : List (Nat × Nat × Nat × Nat)} {ws : List Cond} {rm : Room} {Pc : Array Value → State → Prop} {Qc : Array Value → State → Outcome → State → Prop} {free : Addr → Prop} {Ts : List Cond} {own : String} {As rest : List Value} {g : JFrame}
    (S : CallFix p m c cc nL s args Ts own) (hM : Met l y ws rm Pc Qc mc ms free) (cw : vx_CSW R s args own index y bytes maxL ret hh ws rm mc ms n) (hp : PreS s H Pc As)
    (hg : g.method = m) (hn : As.length = n) (hsize : g.locals.size = nL) (hstack : g.stack = As.reverse ++ rest) (hW : 2 * g.monitorRoom + (rest.map fun v => v.category).sum ≤ 8) (hdg : decode cc g.pc = .ok (.invokestatic index, 3)) (hf : cells + mc ≤ R.cells ∧ slots + ms ≤ R.slots) :
    va_Run p l e R s m args below meth c H locs cells slots mc ms g rest (Qc As.toArray) (free) := by
  obtain ⟨⟨hrc, hrs, hfr, hlo, hws, hcw⟩, hcode, hini, hy, hlen, hl, hstt⟩ := cw
  have hK : Back l R p e below s args y 3 8 (PreOf R mc ms Pc) (PostOf Qc mc ms free) := va_backW (hh := hh) (bytes := bytes) (maxL := maxL) (ret := ret) hM hp.1 hrc hrs hfr hlo hws hcw (fun a' U hW => word_at hW (Or.inl (by first | rfl | simp [Cond.onTables, Cond.keeps, Cond.steady])) hini)
  obtain ⟨hx, hb, hml, ho, -⟩ := S
  intro T hT X
  obtain ⟨v, vm₁, ⟨U', l2, c2, s2⟩, hW₁, X', ⟨g', mk, t, L, e1, e2, hq, h1, hL, h2, h3⟩, st⟩ := vx_callSW X hx (hh := hh) (bytes := bytes) (maxL := maxL) (ret := ret) ho hl hstt hini hcode hy hK hg (hsize.trans hml.symm) (argsL := As) (rest := rest) (fun sig h => hn.trans (hlen sig h)) hstack hW (by rw [hb]; exact hdg)
    (fun vm₁ hW₁ => ⟨hf.1, hf.2, hp.2 (T.setVm vm₁) hT hW₁⟩)
  dsimp only [Pt.U, Pt.locs, Pt.cells, Pt.slots] at X' e1 e2 h1 h2 h3 st
  subst h1; subst h2; subst h3
  exact ⟨v, (T.setVm vm₁).calling g' mk As.toArray, t, U', L, hT, X', hL, e1, e2, hq, st⟩
/-- not caught here, past rows that name other classes: it goes on to the caller -/
theorem vx_outP {p : Program} {l : Launch} {e : Env} {R : Room} {s : State} {m : MethodId} {args : Array Value} {below : List Frame} {meth : Method} {c : Code} {H : Heap} {locs : List Loc} {cells slots : Nat} {free : Addr → Prop} {ls : Array Slot} {rest : List Value} {Qc : Array Value → State → Outcome → State → Prop} {XC : String → State → State → Prop}
    {pc : Nat} {own E : String} {ce : Cell} {q : Addr} {mc ms : Nat} (hown : s.vm.findClass own = some m.cls) (hlocks : meth.locks = false)
    (hpass : ∀ z ∈ c.exceptionTable.toList, covers z pc = false ∨ (z.catchType ≠ 0 ∧ ∃ nm : String, (Cond.classLink own z.catchType nm).before args s = true ∧ va_Nc E nm s)) (hcell : H[q]? = some ce) (hv : ce.vm = .none) (hcl : s.vm.findClass E = some ce.cls)
    (hx : ∀ t : State, t.heap = H → s.vm.Alike t.vm → XC E s t) (hf : ∀ z ∈ locs, free z.base) (hc : cells ≤ mc) (hs : slots ≤ ms) :
    vx_W p l e R s m args below meth c H locs cells slots (vx_MQ below Qc XC args s mc ms free) (F0 m pc ls rest) q := by
  intro T hT X
  have hpl : e.platform.magicAccessors = ({} : Platform).magicAccessors := by rw [X.admits.platform]
  obtain ⟨vm', hW', X', st⟩ := X.outThrough hlocks q (g := F0 m pc ls rest) rfl rfl rfl (cell := ce) (by rw [hT]; exact hcell) (by rw [hv]; rfl)
    (by obtain ⟨k9, h9, -⟩ := Vm.findClass_spec hcl; exact ⟨k9, h9⟩) (fun z hz => by
      rcases hpass z hz with h | ⟨hz0, nm, hl1, hn1⟩
      · exact Or.inl h
      · obtain ⟨c6, hc6, hcl6⟩ := Cond.classLink_spec hown hl1 e.platform hpl
        obtain ⟨a8, b8, h1, h2, h3⟩ := hn1
        cases Option.some.inj (h1.symm.trans hcl)
        cases Option.some.inj (h2.symm.trans hc6)
        exact Or.inr ⟨hz0, _, hcl6, h3⟩)
  obtain ⟨g₀, hfr⟩ := X'.frames_eq
  have hcell9 : ((T.setVm vm').setFrames (.throwing q :: below)).heap[q]? = some ce := by
    show T.heap[q]? = some ce
    rw [hT]; exact hcell
  have hend : Ended ((T.setVm vm').setFrames (.throwing q :: below)) below (.threw q) := State.frames_setFrames _ (State.cur_lt_of_frames hfr)
  refine ⟨(T.setVm vm').setFrames (.throwing q :: below), ?_, .threw q, X'.here.running, hend, Or.inr ⟨q, rfl, E, ce, locs, hx _ hT (X'.ends _).1.alike, hcell9, hv, hcl, (X'.ends _).1, (X'.ends _).2.mono hc hs, hf⟩⟩
  rw [X.pushThrowing_eq]
  exact st
/-- a thing of a world lies in the heap -/
theorem vx_lt {D : va_G} {cl : List vw_C} {ws : va_W} {H1 : Heap} (h : va_P D cl ws H1) {k : Nat} {q : Nat × va_E} (hk : ws[k]? = some q) : q.1 < H1.size := (h k q hk).lt
end VXS
/-! ===== END ===== -/
/-! ===== BEGIN methods with a table of their own: called by a name, returning or throwing ===== -/
section VXH
/-! vx_backW, vx_callVX, vx_callSX, vx_callVW, vx_runVW, vx_runVX, vx_runSX, vx_ofWH follow the same proofs as their sisters above (Free/Laws.lean, Shelf42/LK1.lean); vx_outP calls Shelf42/NT130.lean (outThrough). -/
section
variable {l : Launch} {R : Room} {p : Program} {e : Env} {below : List Frame} {s : State} {sargs : Array Value} {y : MethodName} {len W9 : Nat}
theorem vx_backW {ws : List Cond} {rm : Room} {Pc : Array Value → State → Prop} {Qc : Array Value → State → Outcome → State → Prop} {XC : String → State → State → Prop} {mc ms : Nat} {free : Addr → Prop} {bytes : ByteArray} {maxL : Nat} {ret : Option FieldType} {hh : List (Nat × Nat × Nat × Nat)}
    (hM : vx_Met l y ws rm Pc Qc XC mc ms free) (hblind : FrameBlind Pc) (hrc : rm.cells = mc) (hrs : rm.slots = ms)
    (hframes : rm.frames + 1 ≤ R.frames) (hlocals : W9 + (maxL + 11) + rm.locals ≤ R.locals)
    (hws : ∀ w ∈ ws, ∀ a' U, s.WarmedH U.vm → w.before a' U = true) (hcode : Cond.codeWith y bytes maxL ret hh ∈ ws) (hinit : ∀ a' U, s.WarmedH U.vm → (Cond.initialized y.cls).before a' U = true) :
    vx_Back l R p e below s sargs y len W9 (PreOf R mc ms Pc) (PostOf Qc mc ms free) (vx_Post XC mc ms free) := by
  intro m meth c A g ig mk a X hg hsize hdg hW hn hp
  have h1 : (headSpec ws rm).pre.before a A.U = true := atoms_intro fun w hw => hws w hw _ _ X.warmed
  have h2 : (Cond.codeWith y bytes maxL ret hh).before a A.U = true := hws _ hcode _ _ X.warmed
  have h3 : (Cond.initialized y.cls).before a A.U = true := hinit _ _ X.warmed
  have h4 : A.cells + (headSpec ws rm).room.cells ≤ R.cells := by rw [show (headSpec ws rm).room.cells = mc from hrc]; exact hp.1
  have h5 : A.slots + (headSpec ws rm).room.slots ≤ R.slots := by rw [show (headSpec ws rm).room.slots = ms from hrs]; exact hp.2.1
  have hPc : Pc a (A.U.calling g mk a) := hblind _ _ _ _ hp.2.2
  obtain ⟨U, Ls, c0, s0⟩ := A
  dsimp only [Pt.U, Pt.locs, Pt.cells, Pt.slots] at h1 h2 h3 h4 h5 X hn hPc ⊢
  obtain ⟨m9, methY, cY, hn9, hmY, hcY, -, hlY, -⟩ := Cond.codeWith_spec h2
  cases Option.some.inj (hn9.symm.trans hn)
  obtain ⟨kY, hkY, -⟩ := className_of_methodNamed hn
  have hinitY : kY.init = .initialized := Cond.initialized_spec (findClass_of_methodNamed hn) hkY h3
  have h : At U g.method c below := by rw [hg]; exact X.here
  have hlocals9 : W9 + (maxL + 11) + (headSpec ws rm).room.locals ≤ R.locals := hlocals
  have happ : (headSpec ws rm).appliesLoose y e.platform (U.calling g mk a) = true :=
    Spec.appliesLoose_calling (g := g) h hdg hn hkY hinitY
      (X.room_calling (g := g) (R' := (headSpec ws rm).room) hsize hmY hcY hframes (by rw [hlY]; omega) h4 h5) h1
  obtain ⟨mid, hmid⟩ := h.above
  have hfr : (U.setTop g).frames = (.java g :: mid) ++ below := by rw [State.frames_setTop' g h.top, hmid]; rfl
  obtain ⟨o, s₂, hsteps, -, hend, hq⟩ := Steps.callFree hM p X.admits X.cas X.clock (acts := []) hfr happ hPc trivial
  have hq' : vx_Q Qc XC mc ms free a (U.calling g mk a) o s₂ := hq
  rw [State.frames_setTop' g h.top] at hend
  obtain ⟨g₀, hg0⟩ := Option.isSome_iff_exists.mp h.top
  obtain ⟨r, hr⟩ := State.topJava?_eq_some.mp hg0
  have hr' : (({ U with heap := s₂.heap, slotsUsed := s₂.slotsUsed } : State).setVm s₂.vm).frames = .java g₀ :: r := hr
  rcases hq' with ⟨hqc, L, hfe, hL⟩ | ⟨q, rfl, E, ce, L, hx, hce, hcv, hcl, hW₂, hsm, hL⟩
  · obtain ⟨⟨v, rfl⟩, hW₂, e2, q2, q3, q4, q5, q6⟩ := id hfe
    have e3 : s₂ = ({ (U.calling g mk a).setFrames s₂.frames with heap := s₂.heap, slotsUsed := s₂.slotsUsed } : State).setVm s₂.vm := by
      have : s₂ = ({ s₂ with vm := (U.calling g mk a).vm } : State).setVm s₂.vm := rfl
      rw [e2] at this
      exact this
    obtain ⟨c₂, i₂, len₂, hc₂, hd₂, hf₂⟩ := hend
    have hW' : U.WarmedH s₂.vm := hW₂
    have hcc : c₂ = c := by
      have h1 : s₂.code? g.method = U.code? g.method := by
        rw [State.code?_eq, State.code?_eq, hW'.alike.method?]
      exact Option.some.inj (hc₂.symm.trans (h1.trans h.code))
    subst hcc
    have hlen : len₂ = len := by rw [hdg] at hd₂; cases hd₂; rfl
    subst hlen
    have hs₂ : s₂ = (({ U with heap := s₂.heap, slotsUsed := s₂.slotsUsed } : State).setVm s₂.vm).setTop { g with pc := g.pc + len₂, stack := v.toList ++ g.stack } := by
      refine e3.trans ?_
      rw [hf₂, State.calling_eq h.top, State.setFrames_setFrames, State.setTop_of_frames _ hr', hr]
      rfl
    have hsame : U.sameButNew ({ U with heap := s₂.heap, slotsUsed := s₂.slotsUsed } : State) L mc ms := by
      refine ⟨?_, q2, q3, q4, q5, q6⟩
      obtain ⟨t, ht, -⟩ := State.frames_cons hr
      show ({ U with heap := s₂.heap, slotsUsed := s₂.slotsUsed } : State) = { U.setFrames U.frames with heap := s₂.heap, slotsUsed := s₂.slotsUsed }
      rw [State.setFrames_self ht]
    subst hg
    refine Or.inl ⟨v, ⟨(({ U with heap := s₂.heap, slotsUsed := s₂.slotsUsed } : State).setVm s₂.vm), Ls ++ L, c0 + mc, s0 + ms⟩,
      ⟨X.admits, X.cas, X.clock, X.frames, X.room, X.hears, X.method, X.code, (X.here.setHeapUsed s₂.heap s₂.slotsUsed).setVm hW'.alike, X.tail, State.WarmedH.trans X.warmed hW', X.limits, X.bytes, X.same.trans (hsame.setVm s.vm)⟩,
      ⟨g, mk, s₂, L, rfl, rfl, hqc, rfl, hL, rfl, rfl⟩, ?_⟩
    show Steps p.tables e below _ ((({ U with heap := s₂.heap, slotsUsed := s₂.slotsUsed } : State).setVm s₂.vm).setTop { g with pc := g.pc + len₂, stack := v.toList ++ g.stack })
    rw [← hs₂]
    exact hsteps
  · obtain ⟨e2, q2, q3, q4, q5, q6⟩ := id hsm
    have e3 : s₂ = ({ (U.calling g mk a).setFrames s₂.frames with heap := s₂.heap, slotsUsed := s₂.slotsUsed } : State).setVm s₂.vm := by
      have : s₂ = ({ s₂ with vm := (U.calling g mk a).vm } : State).setVm s₂.vm := rfl
      rw [e2] at this
      exact this
    have hf₂ : s₂.frames = .throwing q :: .java g :: U.frames.tail := hend
    have hW' : U.WarmedH s₂.vm := hW₂
    have hs₂ : s₂ = ((({ U with heap := s₂.heap, slotsUsed := s₂.slotsUsed } : State).setVm s₂.vm).setTop g).pushFrame (.throwing q) := by
      refine e3.trans ?_
      rw [hf₂, State.calling_eq h.top, State.setFrames_setFrames, State.pushFrame, State.frames_setTop _ hr', State.setTop_of_frames _ hr', State.setFrames_setFrames, hr]
      rfl
    have hsame : U.sameButNew ({ U with heap := s₂.heap, slotsUsed := s₂.slotsUsed } : State) L mc ms := by
      refine ⟨?_, q2, q3, q4, q5, q6⟩
      obtain ⟨t, ht, -⟩ := State.frames_cons hr
      show ({ U with heap := s₂.heap, slotsUsed := s₂.slotsUsed } : State) = { U.setFrames U.frames with heap := s₂.heap, slotsUsed := s₂.slotsUsed }
      rw [State.setFrames_self ht]
    subst hg
    refine Or.inr ⟨q, ⟨(({ U with heap := s₂.heap, slotsUsed := s₂.slotsUsed } : State).setVm s₂.vm), Ls ++ L, c0 + mc, s0 + ms⟩,
      ⟨X.admits, X.cas, X.clock, X.frames, X.room, X.hears, X.method, X.code, (X.here.setHeapUsed s₂.heap s₂.slotsUsed).setVm hW'.alike, X.tail, State.WarmedH.trans X.warmed hW', X.limits, X.bytes, X.same.trans (hsame.setVm s.vm)⟩,
      ⟨g, mk, s₂, L, E, ce, rfl, rfl, hx, hce, hcv, hcl, rfl, hL, rfl, rfl⟩, ?_⟩
    show Steps p.tables e below _ (((({ U with heap := s₂.heap, slotsUsed := s₂.slotsUsed } : State).setVm s₂.vm).setTop g).pushFrame (.throwing q))
    rw [← hs₂]
    exact hsteps
end
variable {p : Program} {l : Launch} {e : Env} {R : Room} {s : State} {m : MethodId} {args : Array Value} {below : List Frame} {meth : Method} {c : Code} {T : State} {H : Heap} {locs : List Loc} {cells slots : Nat}
theorem vx_callVX (X : Stand p l e R s m args below meth c T locs cells slots) (hexec : p.tables.exec = Jvm.exec) {own C : String} {index : Nat} {y : MethodName} {bytes : ByteArray} {maxL : Nat} {ret : Option FieldType} {hh : List (Nat × Nat × Nat × Nat)}
    (hown : s.vm.findClass own = some m.cls) (hlink : (Cond.methodLink own index y).before args s = true) (hinst : (Cond.instanceMethod y).before args s = true) (hsel : (Cond.selects C y y).before args s = true)
    (hcode : (Cond.codeWith y bytes maxL ret hh).before args s = true) (hy : y.cls ≠ "java/lang/invoke/MethodHandle" ∧ y.cls ≠ "java/lang/invoke/VarHandle")
    {W9 : Nat} {Pre : Pt → Array Value → Prop} {Post : Pt → Array Value → Option Value → Pt → Prop} {PostX : Pt → Array Value → Addr → Pt → Prop} (hK : vx_Back l R p e below s args y 3 W9 Pre Post PostX)
    {b : Addr} {cellB : Cell} (hcell : T.heap[b]? = some cellB) (hobj : cellB.vm.isStatics = false) (hcls : s.vm.findClass C = some cellB.cls)
    {g : JFrame} (hg : g.method = m) (hsize : g.locals.size = c.maxLocals) {argsL rest : List Value} (hlen : ∀ sig, parseMethodDescriptor y.desc = some sig → argsL.length = sig.parameters.length)
    (hstack : g.stack = argsL.reverse ++ .ref b :: rest) (hW : 2 * g.monitorRoom + (rest.map fun v => v.category).sum ≤ W9) (hdg : decode c.code g.pc = .ok (.invokevirtual index, 3))
    (hpre : ∀ vm₁, s.WarmedH vm₁ → Pre ⟨T.setVm vm₁, locs, cells, slots⟩ (Value.ref b :: argsL).toArray) :
    (∃ (v : Option Value) (vm₁ : Vm) (B : Pt), s.WarmedH vm₁ ∧ Stand p l e R s m args below meth c B.U B.locs B.cells B.slots ∧ Post ⟨T.setVm vm₁, locs, cells, slots⟩ (Value.ref b :: argsL).toArray v B ∧
      ∀ target, Steps p.tables e below (B.U.setTop { g with pc := g.pc + 3, stack := v.toList ++ rest }) target → Steps p.tables e below (T.setTop g) target) ∨
    (∃ (q : Addr) (vm₁ : Vm) (B : Pt), s.WarmedH vm₁ ∧ Stand p l e R s m args below meth c B.U B.locs B.cells B.slots ∧ PostX ⟨T.setVm vm₁, locs, cells, slots⟩ (Value.ref b :: argsL).toArray q B ∧
      Steps p.tables e below (T.setTop g) ((B.U.setTop { g with stack := rest }).pushFrame (.throwing q))) := by
  obtain ⟨mk, methM, hnamed, hmethM, hstM, habM⟩ := Cond.instanceMethod_spec hinst
  obtain ⟨m8, methM', cM, hn8, hmethM', -, -, -, -, -, -, hsigM⟩ := Cond.codeWith_spec hcode
  cases Option.some.inj (hn8.symm.trans hnamed)
  cases hmethM.symm.trans hmethM'
  obtain ⟨c2, r2, m2, q1, q2, q3, q4, kP, hkP, hkPi⟩ := Cond.selects_spec hsel
  cases hcls.symm.trans q1
  cases (State.methodFound?_of_named hnamed hy).symm.trans q2
  cases hnamed.symm.trans q3
  have hselP : selectMethod e.platform s.vm cellB.cls mk = .method mk := by rw [Launch.admits_selectMethod X.admits]; exact q4
  obtain ⟨vm₁, X₁, hstep₁⟩ := X.invokevirtual hexec hown hlink hnamed hmethM hstM hkP hkPi hy (a := b) (cell := cellB) hcell
    (fun z h => by rw [h] at hobj; cases hobj) hselP hmethM habM hkP hkPi (g := g) hg (argsL := argsL) (rest := rest) (hlen _ hsigM) hstack hdg
  rcases hK m meth c ⟨T.setVm vm₁, locs, cells, slots⟩ { g with stack := rest } (.invokevirtual index) mk (Value.ref b :: argsL).toArray X₁ hg hsize hdg hW (X₁.named hnamed) (hpre vm₁ X₁.warmed) with ⟨v, B, X', hpost, hsteps⟩ | ⟨q, B, X', hpost, hsteps⟩
  · exact Or.inl ⟨v, vm₁, B, X₁.warmed, X', hpost, fun target h => hstep₁ _ fun acts => by rw [doInvoke_state]; exact hsteps.trans h⟩
  · exact Or.inr ⟨q, vm₁, B, X₁.warmed, X', hpost, hstep₁ _ fun acts => by rw [doInvoke_state]; exact hsteps⟩
theorem vx_callSX (X : Stand p l e R s m args below meth c T locs cells slots) (hexec : p.tables.exec = Jvm.exec) {own : String} {index : Nat} {y : MethodName} {bytes : ByteArray} {maxL : Nat} {ret : Option FieldType} {hh : List (Nat × Nat × Nat × Nat)}
    (hown : s.vm.findClass own = some m.cls) (hlink : (Cond.methodLink own index y).before args s = true) (hstat : (Cond.static y).before args s = true) (hinit : (Cond.initialized y.cls).before args s = true)
    (hcode : (Cond.codeWith y bytes maxL ret hh).before args s = true) (hy : y.cls ≠ "java/lang/invoke/MethodHandle" ∧ y.cls ≠ "java/lang/invoke/VarHandle")
    {W9 : Nat} {Pre : Pt → Array Value → Prop} {Post : Pt → Array Value → Option Value → Pt → Prop} {PostX : Pt → Array Value → Addr → Pt → Prop} (hK : vx_Back l R p e below s args y 3 W9 Pre Post PostX)
    {g : JFrame} (hg : g.method = m) (hsize : g.locals.size = c.maxLocals) {argsL rest : List Value} (hlen : ∀ sig, parseMethodDescriptor y.desc = some sig → argsL.length = sig.parameters.length)
    (hstack : g.stack = argsL.reverse ++ rest) (hW : 2 * g.monitorRoom + (rest.map fun v => v.category).sum ≤ W9) (hdg : decode c.code g.pc = .ok (.invokestatic index, 3))
    (hpre : ∀ vm₁, s.WarmedH vm₁ → Pre ⟨T.setVm vm₁, locs, cells, slots⟩ argsL.toArray) :
    (∃ (v : Option Value) (vm₁ : Vm) (B : Pt), s.WarmedH vm₁ ∧ Stand p l e R s m args below meth c B.U B.locs B.cells B.slots ∧ Post ⟨T.setVm vm₁, locs, cells, slots⟩ argsL.toArray v B ∧
      ∀ target, Steps p.tables e below (B.U.setTop { g with pc := g.pc + 3, stack := v.toList ++ rest }) target → Steps p.tables e below (T.setTop g) target) ∨
    (∃ (q : Addr) (vm₁ : Vm) (B : Pt), s.WarmedH vm₁ ∧ Stand p l e R s m args below meth c B.U B.locs B.cells B.slots ∧ PostX ⟨T.setVm vm₁, locs, cells, slots⟩ argsL.toArray q B ∧
      Steps p.tables e below (T.setTop g) ((B.U.setTop { g with stack := rest }).pushFrame (.throwing q))) := by
  obtain ⟨mk, methM, cM, hnamed, hmethM, -, -, -, -, -, -, hsigM⟩ := Cond.codeWith_spec hcode
  have hstatic : methM.isStatic = true := Cond.static_spec hnamed hmethM hstat
  obtain ⟨kP, hkP, -⟩ := className_of_methodNamed hnamed
  have hinitP : kP.init = .initialized := Cond.initialized_spec (findClass_of_methodNamed hnamed) hkP hinit
  obtain ⟨vm₁, X₁, hstep₁⟩ := X.invokestatic hexec hown hlink hnamed hmethM hstatic hkP hinitP hy (g := g) hg (argsL := argsL) (rest := rest) (hlen _ hsigM) hstack hdg
  rcases hK m meth c ⟨T.setVm vm₁, locs, cells, slots⟩ { g with stack := rest } (.invokestatic index) mk argsL.toArray X₁ hg hsize hdg hW (X₁.named hnamed) (hpre vm₁ X₁.warmed) with ⟨v, B, X', hpost, hsteps⟩ | ⟨q, B, X', hpost, hsteps⟩
  · exact Or.inl ⟨v, vm₁, B, X₁.warmed, X', hpost, fun target h => hstep₁ _ fun acts => by rw [doInvoke_state]; exact hsteps.trans h⟩
  · exact Or.inr ⟨q, vm₁, B, X₁.warmed, X', hpost, hstep₁ _ fun acts => by rw [doInvoke_state]; exact hsteps⟩
theorem vx_callVW (X : Stand p l e R s m args below meth c T locs cells slots) (hexec : p.tables.exec = Jvm.exec) {own C : String} {index : Nat} {y : MethodName} {bytes : ByteArray} {maxL : Nat} {ret : Option FieldType} {hh : List (Nat × Nat × Nat × Nat)}
    (hown : s.vm.findClass own = some m.cls) (hlink : (Cond.methodLink own index y).before args s = true) (hinst : (Cond.instanceMethod y).before args s = true) (hsel : (Cond.selects C y y).before args s = true)
    (hcode : (Cond.codeWith y bytes maxL ret hh).before args s = true) (hy : y.cls ≠ "java/lang/invoke/MethodHandle" ∧ y.cls ≠ "java/lang/invoke/VarHandle")
    {W9 : Nat} {Pre : Pt → Array Value → Prop} {Post : Pt → Array Value → Option Value → Pt → Prop} (hK : Back l R p e below s args y 3 W9 Pre Post)
    {b : Addr} {cellB : Cell} (hcell : T.heap[b]? = some cellB) (hobj : cellB.vm.isStatics = false) (hcls : s.vm.findClass C = some cellB.cls)
    {g : JFrame} (hg : g.method = m) (hsize : g.locals.size = c.maxLocals) {argsL rest : List Value} (hlen : ∀ sig, parseMethodDescriptor y.desc = some sig → argsL.length = sig.parameters.length)
    (hstack : g.stack = argsL.reverse ++ .ref b :: rest) (hW : 2 * g.monitorRoom + (rest.map fun v => v.category).sum ≤ W9) (hdg : decode c.code g.pc = .ok (.invokevirtual index, 3))
    (hpre : ∀ vm₁, s.WarmedH vm₁ → Pre ⟨T.setVm vm₁, locs, cells, slots⟩ (Value.ref b :: argsL).toArray) :
    ∃ (v : Option Value) (vm₁ : Vm) (B : Pt), s.WarmedH vm₁ ∧ Stand p l e R s m args below meth c B.U B.locs B.cells B.slots ∧ Post ⟨T.setVm vm₁, locs, cells, slots⟩ (Value.ref b :: argsL).toArray v B ∧
      ∀ target, Steps p.tables e below (B.U.setTop { g with pc := g.pc + 3, stack := v.toList ++ rest }) target → Steps p.tables e below (T.setTop g) target := by
  obtain ⟨mk, methM, hnamed, hmethM, hstM, habM⟩ := Cond.instanceMethod_spec hinst
  obtain ⟨m8, methM', cM, hn8, hmethM', -, -, -, -, -, -, hsigM⟩ := Cond.codeWith_spec hcode
  cases Option.some.inj (hn8.symm.trans hnamed)
  cases hmethM.symm.trans hmethM'
  obtain ⟨c2, r2, m2, q1, q2, q3, q4, kP, hkP, hkPi⟩ := Cond.selects_spec hsel
  cases hcls.symm.trans q1
  cases (State.methodFound?_of_named hnamed hy).symm.trans q2
  cases hnamed.symm.trans q3
  have hselP : selectMethod e.platform s.vm cellB.cls mk = .method mk := by rw [Launch.admits_selectMethod X.admits]; exact q4
  obtain ⟨vm₁, X₁, hstep₁⟩ := X.invokevirtual hexec hown hlink hnamed hmethM hstM hkP hkPi hy (a := b) (cell := cellB) hcell
    (fun z h => by rw [h] at hobj; cases hobj) hselP hmethM habM hkP hkPi (g := g) hg (argsL := argsL) (rest := rest) (hlen _ hsigM) hstack hdg
  obtain ⟨v, B, X', hpost, hsteps⟩ := hK m meth c ⟨T.setVm vm₁, locs, cells, slots⟩ { g with stack := rest } (.invokevirtual index) mk (Value.ref b :: argsL).toArray X₁ hg hsize hdg hW (X₁.named hnamed) (hpre vm₁ X₁.warmed)
  exact ⟨v, vm₁, B, X₁.warmed, X', hpost, fun target h => hstep₁ _ fun acts => by rw [doInvoke_state]; exact hsteps.trans h⟩
abbrev vx_CVW (R : Room) (s : State) (args : Array Value) (own C : String) (index : Nat) (y : MethodName) (bytes : ByteArray) (maxL : Nat) (ret : Option FieldType) (hh : List (Nat × Nat × Nat × Nat)) (ws : List Cond) (rm : Room) (mc ms n : Nat) : Prop :=
  (rm.cells = mc ∧ rm.slots = ms ∧ rm.frames + 1 ≤ R.frames ∧ 8 + (maxL + 11) + rm.locals ≤ R.locals ∧ (∀ w ∈ ws, ∀ (a' : Array Value) (U : State), s.WarmedH U.vm → w.before a' U = true) ∧ Cond.codeWith y bytes maxL ret hh ∈ ws) ∧
  (Cond.codeWith y bytes maxL ret hh).before args s = true ∧ (Cond.initialized y.cls).before args s = true ∧ (y.cls ≠ "java/lang/invoke/MethodHandle" ∧ y.cls ≠ "java/lang/invoke/VarHandle") ∧
  (∀ sig, parseMethodDescriptor y.desc = some sig → n = sig.parameters.length) ∧ (Cond.methodLink own index y).before args s = true ∧ (Cond.instanceMethod y).before args s = true ∧ (Cond.selects C y y).before args s = true
theorem vx_cwVW {own C : String} {index maxL mc ms : Nat} {y : MethodName} {bytes : ByteArray} {ret : Option FieldType} {hh : List (Nat × Nat × Nat × Nat)} {Ts ws ws' : List Cond} {rm : Room} (n : Nat) (ht : ∀ w ∈ Ts, w.before args s = true) (hT : GoodIn Ts (wsV own index C y ws)) (hw : ws = Cond.codeWith y bytes maxL ret hh :: ws') (hrc : rm.cells = mc) (hrs : rm.slots = ms)
    (hd : y.cls = C ∧ y.cls ≠ "java/lang/invoke/MethodHandle" ∧ y.cls ≠ "java/lang/invoke/VarHandle" ∧ (parseMethodDescriptor y.desc).map (fun d => d.parameters.length) = some n) (hR : rm.frames + 1 ≤ R.frames ∧ 8 + (maxL + 11) + rm.locals ≤ R.locals) :
    vx_CVW R s args own C index y bytes maxL ret hh ws rm mc ms n := by
  obtain ⟨hC, hd⟩ := hd
  subst hC
  have ok : ∀ w ∈ wsV own index y.cls y ws, w.before args s = true := fun w h => ht w (hT w h).1
  have hG : GoodIn Ts ws := fun w h => hT w (by unfold wsV; exact List.mem_append_right _ h)
  have hc : Cond.codeWith y bytes maxL ret hh ∈ ws := by rw [hw]; exact List.mem_cons_self
  refine ⟨⟨hrc, hrs, hR.1, hR.2, pay_in ht hG, hc⟩, ht _ (hG _ hc).1, ok _ (by simp [wsV]), ⟨hd.1, hd.2.1⟩, fun sig h => ?_, ok _ (by simp [wsV]), ok _ (by simp [wsV]), ok _ (by simp [wsV])⟩
  have h2 := hd.2.2
  rw [h] at h2
  exact (Option.some.inj h2).symm
theorem vx_runVW {y : MethodName} {bytes cc : ByteArray} {maxL nL mc ms n index : Nat} {ret : Option FieldType} {hh : List (Nat × Nat × Nat × Nat)} {ws : List Cond} {rm : Room} {Pc : Array Value → State → Prop} {Qc : Array Value → State → Outcome → State → Prop} {free : Addr → Prop} {Ts : List Cond} {own C : String} {b : Addr} {As rest : List Value} {g : JFrame}
    (S : CallFix p m c cc nL s args Ts own) (hM : Met l y ws rm Pc Qc mc ms free) (cw : vx_CVW R s args own C index y bytes maxL ret hh ws rm mc ms n) (hp : PreV s H C b Pc As)
    (hg : g.method = m) (hn : As.length = n) (hsize : g.locals.size = nL) (hstack : g.stack = As.reverse ++ .ref b :: rest) (hW : 2 * g.monitorRoom + (rest.map fun v => v.category).sum ≤ 8) (hdg : decode cc g.pc = .ok (.invokevirtual index, 3)) (hf : cells + mc ≤ R.cells ∧ slots + ms ≤ R.slots) :
    va_Run p l e R s m args below meth c H locs cells slots mc ms g rest (Qc (Value.ref b :: As).toArray) free := by
  obtain ⟨⟨hrc, hrs, hfr, hlo, hws, hcw⟩, hcode, hini, hy, hlen, hl, hin, hse⟩ := cw
  have hK : Back l R p e below s args y 3 8 (PreOf R mc ms Pc) (PostOf Qc mc ms free) := va_backW (hh := hh) (bytes := bytes) (maxL := maxL) (ret := ret) hM hp.1 hrc hrs hfr hlo hws hcw (fun a' U hW => word_at hW (Or.inl (by first | rfl | simp [Cond.onTables, Cond.keeps, Cond.steady])) hini)
  obtain ⟨hx, hb, hml, ho, -⟩ := S
  obtain ⟨-, ⟨cellB, hcB, hoB, hclB⟩, hPc⟩ := hp
  intro T hT X
  obtain ⟨v, vm₁, ⟨U', l2, c2, s2⟩, hW₁, X', ⟨g', mk, t, L, e1, e2, hq, h1, hL, h2, h3⟩, st⟩ := vx_callVW X hx (C := C) (hh := hh) (bytes := bytes) (maxL := maxL) (ret := ret) ho hl hin hse hcode hy hK (by rw [hT]; exact hcB) hoB hclB hg (hsize.trans hml.symm) (argsL := As) (rest := rest) (fun sig h => hn.trans (hlen sig h)) hstack hW (by rw [hb]; exact hdg)
    (fun vm₁ hW₁ => ⟨hf.1, hf.2, hPc (T.setVm vm₁) hT hW₁⟩)
  dsimp only [Pt.U, Pt.locs, Pt.cells, Pt.slots] at X' e1 e2 h1 h2 h3 st
  subst h1; subst h2; subst h3
  exact ⟨v, (T.setVm vm₁).calling g' mk (Value.ref b :: As).toArray, t, U', L, hT, X', hL, e1, e2, hq, st⟩
section
variable {y : MethodName} {bytes cc : ByteArray} {maxL nL mc ms n index : Nat} {ret : Option FieldType} {ws : List Cond} {rm : Room} {Pc : Array Value → State → Prop} {Qc : Array Value → State → Outcome → State → Prop} {XC : String → State → State → Prop} {free : Addr → Prop} {Ts : List Cond} {own C : String} {b : Addr} {As rest : List Value} {g : JFrame}
theorem vx_runVX {hh : List (Nat × Nat × Nat × Nat)} (S : CallFix p m c cc nL s args Ts own) (hM : vx_Met l y ws rm Pc Qc XC mc ms free) (cw : vx_CVW R s args own C index y bytes maxL ret hh ws rm mc ms n) (hp : PreV s H C b Pc As)
    (hg : g.method = m) (hn : As.length = n) (hsize : g.locals.size = nL) (hstack : g.stack = As.reverse ++ .ref b :: rest) (hW : 2 * g.monitorRoom + (rest.map fun v => v.category).sum ≤ 8) (hdg : decode cc g.pc = .ok (.invokevirtual index, 3)) (hf : cells + mc ≤ R.cells ∧ slots + ms ≤ R.slots) :
    vx_Run p l e R s m args below meth c H locs cells slots mc ms g rest (Qc (Value.ref b :: As).toArray) XC free := by
  obtain ⟨⟨hrc, hrs, hfr, hlo, hws, hcw⟩, hcode, hini, hy, hlen, hl, hin, hse⟩ := cw
  have hK : vx_Back l R p e below s args y 3 8 (PreOf R mc ms Pc) (PostOf Qc mc ms free) (vx_Post XC mc ms free) := vx_backW (hh := hh) (bytes := bytes) (maxL := maxL) (ret := ret) hM hp.1 hrc hrs hfr hlo hws hcw (fun a' U hW => word_at hW (Or.inl (by first | rfl | simp [Cond.onTables, Cond.keeps, Cond.steady])) hini)
  obtain ⟨hx, hb, hml, ho, -⟩ := S
  obtain ⟨-, ⟨cellB, hcB, hoB, hclB⟩, hPc⟩ := hp
  intro T hT X
  rcases vx_callVX X hx (C := C) (hh := hh) (bytes := bytes) (maxL := maxL) (ret := ret) ho hl hin hse hcode hy hK (by rw [hT]; exact hcB) hoB hclB hg (hsize.trans hml.symm) (argsL := As) (rest := rest) (fun sig h => hn.trans (hlen sig h)) hstack hW (by rw [hb]; exact hdg)
    (fun vm₁ hW₁ => ⟨hf.1, hf.2, hPc (T.setVm vm₁) hT hW₁⟩) with ⟨v, vm₁, ⟨U', l2, c2, s2⟩, hW₁, X', ⟨g', mk, t, L, e1, e2, hq, h1, hL, h2, h3⟩, st⟩ | ⟨q, vm₁, ⟨U', l2, c2, s2⟩, hW₁, X', ⟨g', mk, t, L, E, ce, e1, e2, hq, hce, hcv, hcl, h1, hL, h2, h3⟩, st⟩
  · dsimp only [Pt.U, Pt.locs, Pt.cells, Pt.slots] at X' e1 e2 h1 h2 h3 st
    subst h1; subst h2; subst h3
    exact Or.inl ⟨v, (T.setVm vm₁).calling g' mk (Value.ref b :: As).toArray, t, U', L, hT, X', hL, e1, e2, hq, st⟩
  · dsimp only [Pt.U, Pt.locs, Pt.cells, Pt.slots] at X' e1 e2 h1 h2 h3 st hcl
    subst h1; subst h2; subst h3
    exact Or.inr ⟨q, (T.setVm vm₁).calling g' mk (Value.ref b :: As).toArray, t, U', L, E, ce, hT, X', hL, e1, e2, hq, hce, hcv, vx_cls hW₁ hcl, st⟩
theorem vx_runSX {hh : List (Nat × Nat × Nat × Nat)} (S : CallFix p m c cc nL s args Ts own) (hM : vx_Met l y ws rm Pc Qc XC mc ms free) (cw : vx_CSW R s args own index y bytes maxL ret hh ws rm mc ms n) (hp : PreS s H Pc As)
    (hg : g.method = m) (hn : As.length = n) (hsize : g.locals.size = nL) (hstack : g.stack = As.reverse ++ rest) (hW : 2 * g.monitorRoom + (rest.map fun v => v.category).sum ≤ 8) (hdg : decode cc g.pc = .ok (.invokestatic index, 3)) (hf : cells + mc ≤ R.cells ∧ slots + ms ≤ R.slots) :
    vx_Run p l e R s m args below meth c H locs cells slots mc ms g rest (Qc As.toArray) XC free := by
  obtain ⟨⟨hrc, hrs, hfr, hlo, hws, hcw⟩, hcode, hini, hy, hlen, hl, hstt⟩ := cw
  have hK : vx_Back l R p e below s args y 3 8 (PreOf R mc ms Pc) (PostOf Qc mc ms free) (vx_Post XC mc ms free) := vx_backW (hh := hh) (bytes := bytes) (maxL := maxL) (ret := ret) hM hp.1 hrc hrs hfr hlo hws hcw (fun a' U hW => word_at hW (Or.inl (by first | rfl | simp [Cond.onTables, Cond.keeps, Cond.steady])) hini)
  obtain ⟨hx, hb, hml, ho, -⟩ := S
  intro T hT X
  rcases vx_callSX X hx (hh := hh) (bytes := bytes) (maxL := maxL) (ret := ret) ho hl hstt hini hcode hy hK hg (hsize.trans hml.symm) (argsL := As) (rest := rest) (fun sig h => hn.trans (hlen sig h)) hstack hW (by rw [hb]; exact hdg)
    (fun vm₁ hW₁ => ⟨hf.1, hf.2, hp.2 (T.setVm vm₁) hT hW₁⟩) with ⟨v, vm₁, ⟨U', l2, c2, s2⟩, hW₁, X', ⟨g', mk, t, L, e1, e2, hq, h1, hL, h2, h3⟩, st⟩ | ⟨q, vm₁, ⟨U', l2, c2, s2⟩, hW₁, X', ⟨g', mk, t, L, E, ce, e1, e2, hq, hce, hcv, hcl, h1, hL, h2, h3⟩, st⟩
  · dsimp only [Pt.U, Pt.locs, Pt.cells, Pt.slots] at X' e1 e2 h1 h2 h3 st
    subst h1; subst h2; subst h3
    exact Or.inl ⟨v, (T.setVm vm₁).calling g' mk As.toArray, t, U', L, hT, X', hL, e1, e2, hq, st⟩
  · dsimp only [Pt.U, Pt.locs, Pt.cells, Pt.slots] at X' e1 e2 h1 h2 h3 st hcl
    subst h1; subst h2; subst h3
    exact Or.inr ⟨q, (T.setVm vm₁).calling g' mk As.toArray, t, U', L, E, ce, hT, X', hL, e1, e2, hq, hce, hcv, vx_cls hW₁ hcl, st⟩
end
end VXH
theorem vx_ofWH {l : Launch} {y : MethodName} {ws ws' : List Cond} {rm : Room} {Pc : Array Value → State → Prop} {Qc : Array Value → State → Outcome → State → Prop} {XC : String → State → State → Prop} {mc ms : Nat} {free : Addr → Prop} {cc : ByteArray} {maxL : Nat} {ret : Option FieldType} {hh : List (Nat × Nat × Nat × Nat)}
    (hy : plainName y.cls = true) (hw : ws = Cond.codeWith y cc maxL ret hh :: ws')
    (body : ∀ p e s m args below meth c s₁, BodyLoose p l y (headSpec ws rm) cc maxL ret e s m args below meth c s₁ → c.maxLocals = maxL → Pc args s →
      W p l e (headSpec ws rm).room s m args below meth c s.heap [] 0 0 (vx_MQ below Qc XC args s mc ms free) (entryFrame m args maxL)) : vx_Met l y ws rm Pc Qc XC mc ms free := by
  refine MetFree.of_bodyS (code := cc) (maxLocals := maxL) (ret := ret) hy ?_ ?_
  · intro args s m h hn
    obtain ⟨m9, meth, c, hn9, h1, h2, h3, h4, -, h5, h6, -⟩ := Cond.codeWith_spec (atoms_spec (ws := ws) h _ (by rw [hw]; exact List.mem_cons_self))
    cases hn.symm.trans hn9
    exact ⟨meth, c, h1, h2, h3, h4, h5, h6⟩
  · intro p e s m args below meth c s₁ B hml hP _
    have hh0 : s₁.heap = s.heap := by rw [B.state]; rfl
    obtain ⟨t, a1, o, b1, b2, b3⟩ := body p e s m args below meth c s₁ B hml hP s₁ hh0 (Stand.of_body B)
    exact ⟨t, o, a1, b1, b2, b3⟩
/-! ===== END ===== -/

/-! ===== BEGIN printed: names, fields, word lists, decode rows ===== -/
def RX0 : String := "PoleShop$Answers"
def TX0 : u_T := fun k => match k with
  | 0 => ("PoleShop$Answers", "h", "[I", true)
  | 1 => ("PoleShop$Answers", "state", "[I", true)
  | 2 => ("PoleShop$Answers", "next", "[I", true)
  | _ => ("PoleShop$Answers", "equations", "LPoleShop$Equations;", true)
def tyX0 : Nat → FieldType := fun k => match k with
  | 0 => .array .int
  | 1 => .array .int
  | 2 => .array .int
  | _ => .object "PoleShop$Equations"
abbrev wsX00 : List Cond := u_ws RX0 TX0 4
theorem nmX0 : ∀ a, a < 4 → ∀ b, b < 4 → a ≠ b → (TX0 a).2.1 ≠ (TX0 b).2.1 := by decide +kernel
theorem tyX0_ok : ∀ k, k < 4 → parseFieldDescriptor (TX0 k).2.2.1 = some (tyX0 k) := by decide +kernel
abbrev cX0_init : ByteArray := prog_2_method_1_code
def yX0_init : MethodName := ⟨RX0, "<init>", "()V"⟩
abbrev cX0_findNumbers : ByteArray := prog_2_method_2_code
def yX0_findNumbers : MethodName := ⟨RX0, "findNumbers", "(LPoleShop$Plant;I)V"⟩
abbrev cX0_byState : ByteArray := prog_2_method_3_code
def yX0_byState : MethodName := ⟨RX0, "byState", "(LPoleShop$Plant;LPoleShop$Typed;I)I"⟩
abbrev cX0_byNumbers : ByteArray := prog_2_method_4_code
def yX0_byNumbers : MethodName := ⟨RX0, "byNumbers", "(LPoleShop$Plant;LPoleShop$Typed;I)I"⟩
abbrev cX0_inputAt : ByteArray := prog_2_method_5_code
def yX0_inputAt : MethodName := ⟨RX0, "inputAt", "(LPoleShop$Typed;I)I"⟩
abbrev cX0_rankOfNumbers : ByteArray := prog_2_method_6_code
def yX0_rankOfNumbers : MethodName := ⟨RX0, "rankOfNumbers", "(LPoleShop$Plant;)I"⟩
def RX1 : String := "PoleShop$Equations"
def TX1 : u_T := fun k => match k with
  | _ => ("PoleShop$Equations", "rows", "[[I", true)
def tyX1 : Nat → FieldType := fun k => match k with
  | _ => .array (.array .int)
abbrev wsX10 : List Cond := u_ws RX1 TX1 1
theorem nmX1 : ∀ a, a < 1 → ∀ b, b < 1 → a ≠ b → (TX1 a).2.1 ≠ (TX1 b).2.1 := by decide +kernel
theorem tyX1_ok : ∀ k, k < 1 → parseFieldDescriptor (TX1 k).2.2.1 = some (tyX1 k) := by decide +kernel
abbrev cX1_init : ByteArray := prog_3_method_1_code
def yX1_init : MethodName := ⟨RX1, "<init>", "()V"⟩
abbrev cX1_put : ByteArray := prog_3_method_2_code
def yX1_put : MethodName := ⟨RX1, "put", "(II[II)V"⟩
abbrev cX1_solve : ByteArray := prog_3_method_3_code
def yX1_solve : MethodName := ⟨RX1, "solve", "(I)I"⟩
abbrev cX1_readSolution : ByteArray := prog_3_method_4_code
def yX1_readSolution : MethodName := ⟨RX1, "readSolution", "(I[I)V"⟩
abbrev cX1_firstWith : ByteArray := prog_3_method_5_code
def yX1_firstWith : MethodName := ⟨RX1, "firstWith", "(III)I"⟩
abbrev cX1_swap : ByteArray := prog_3_method_6_code
def yX1_swap : MethodName := ⟨RX1, "swap", "(II)V"⟩
abbrev cX1_divide : ByteArray := prog_3_method_7_code
def yX1_divide : MethodName := ⟨RX1, "divide", "(III)V"⟩
abbrev cX1_takeAway : ByteArray := prog_3_method_8_code
def yX1_takeAway : MethodName := ⟨RX1, "takeAway", "(III)V"⟩
def RX2 : String := "PoleShop$Numbers"
def TX2 : u_T := fun k => match k with
  | _ => ("", "", "", false)
def tyX2 : Nat → FieldType := fun k => match k with
  | _ => .int
abbrev wsX20 : List Cond := u_ws RX2 TX2 0
theorem nmX2 : ∀ a, a < 0 → ∀ b, b < 0 → a ≠ b → (TX2 a).2.1 ≠ (TX2 b).2.1 := by decide +kernel
theorem tyX2_ok : ∀ k, k < 0 → parseFieldDescriptor (TX2 k).2.2.1 = some (tyX2 k) := by decide +kernel
abbrev cX2_remainder : ByteArray := prog_4_method_2_code
def yX2_remainder : MethodName := ⟨RX2, "remainder", "(I)I"⟩
abbrev cX2_plus : ByteArray := prog_4_method_3_code
def yX2_plus : MethodName := ⟨RX2, "plus", "(II)I"⟩
abbrev cX2_minus : ByteArray := prog_4_method_4_code
def yX2_minus : MethodName := ⟨RX2, "minus", "(II)I"⟩
abbrev cX2_times : ByteArray := prog_4_method_5_code
def yX2_times : MethodName := ⟨RX2, "times", "(II)I"⟩
abbrev cX2_quotient : ByteArray := prog_4_method_6_code
def yX2_quotient : MethodName := ⟨RX2, "quotient", "(II)I"⟩
def RX3 : String := "PoleShop$Placing"
def TX3 : u_T := fun k => match k with
  | 0 => ("PoleShop$Placing", "equations", "LPoleShop$Equations;", true)
  | 1 => ("PoleShop$Placing", "state", "[I", true)
  | 2 => ("PoleShop$Placing", "next", "[I", true)
  | _ => ("PoleShop$Placing", "asked", "[I", true)
def tyX3 : Nat → FieldType := fun k => match k with
  | 0 => .object "PoleShop$Equations"
  | 1 => .array .int
  | 2 => .array .int
  | _ => .array .int
abbrev wsX30 : List Cond := u_ws RX3 TX3 4
theorem nmX3 : ∀ a, a < 4 → ∀ b, b < 4 → a ≠ b → (TX3 a).2.1 ≠ (TX3 b).2.1 := by decide +kernel
theorem tyX3_ok : ∀ k, k < 4 → parseFieldDescriptor (TX3 k).2.2.1 = some (tyX3 k) := by decide +kernel
abbrev cX3_init : ByteArray := prog_5_method_1_code
def yX3_init : MethodName := ⟨RX3, "<init>", "()V"⟩
abbrev cX3_rankOfColumns : ByteArray := prog_5_method_2_code
def yX3_rankOfColumns : MethodName := ⟨RX3, "rankOfColumns", "(LPoleShop$Plant;)I"⟩
abbrev cX3_byColumns : ByteArray := prog_5_method_3_code
def yX3_byColumns : MethodName := ⟨RX3, "byColumns", "(LPoleShop$Plant;LPoleShop$Typed;I[I)Z"⟩
abbrev cX3_byCoefficients : ByteArray := prog_5_method_4_code
def yX3_byCoefficients : MethodName := ⟨RX3, "byCoefficients", "(LPoleShop$Plant;[ILPoleShop$Typed;[I)Z"⟩
abbrev cX3_findAsked : ByteArray := prog_5_method_5_code
def yX3_findAsked : MethodName := ⟨RX3, "findAsked", "(ILPoleShop$Typed;)V"⟩
def RX4 : String := "PoleShop$Plant"
def TX4 : u_T := fun k => match k with
  | 0 => ("PoleShop$Plant", "n", "I", false)
  | 1 => ("PoleShop$Plant", "square", "[[I", true)
  | 2 => ("PoleShop$Plant", "column", "[I", true)
  | 3 => ("PoleShop$Plant", "row", "[I", true)
  | _ => ("PoleShop$Plant", "through", "I", false)
def tyX4 : Nat → FieldType := fun k => match k with
  | 0 => .int
  | 1 => .array (.array .int)
  | 2 => .array .int
  | 3 => .array .int
  | _ => .int
abbrev wsX40 : List Cond := u_ws RX4 TX4 5
theorem nmX4 : ∀ a, a < 5 → ∀ b, b < 5 → a ≠ b → (TX4 a).2.1 ≠ (TX4 b).2.1 := by decide +kernel
theorem tyX4_ok : ∀ k, k < 5 → parseFieldDescriptor (TX4 k).2.2.1 = some (tyX4 k) := by decide +kernel
abbrev cX4_init : ByteArray := prog_6_method_1_code
def yX4_init : MethodName := ⟨RX4, "<init>", "()V"⟩
abbrev cX4_read : ByteArray := prog_6_method_2_code
def yX4_read : MethodName := ⟨RX4, "read", "(III)I"⟩
abbrev cX4_write : ByteArray := prog_6_method_3_code
def yX4_write : MethodName := ⟨RX4, "write", "(IIII)V"⟩
abbrev cX4_beSeries : ByteArray := prog_6_method_4_code
def yX4_beSeries : MethodName := ⟨RX4, "beSeries", "(LPoleShop$Plant;LPoleShop$Plant;)V"⟩
abbrev cX4_beSideBySide : ByteArray := prog_6_method_5_code
def yX4_beSideBySide : MethodName := ⟨RX4, "beSideBySide", "(LPoleShop$Plant;LPoleShop$Plant;)V"⟩
abbrev cX4_putPart : ByteArray := prog_6_method_6_code
def yX4_putPart : MethodName := ⟨RX4, "putPart", "(ILPoleShop$Plant;II)V"⟩
abbrev cX4_beLoop : ByteArray := prog_6_method_7_code
def yX4_beLoop : MethodName := ⟨RX4, "beLoop", "(LPoleShop$Plant;II)V"⟩
abbrev cX4_bePlaced : ByteArray := prog_6_method_8_code
def yX4_bePlaced : MethodName := ⟨RX4, "bePlaced", "(LPoleShop$Plant;[I)V"⟩
abbrev cX4_beObserved : ByteArray := prog_6_method_9_code
def yX4_beObserved : MethodName := ⟨RX4, "beObserved", "(LPoleShop$Plant;[I[I)V"⟩
abbrev cX4_beTurned : ByteArray := prog_6_method_10_code
def yX4_beTurned : MethodName := ⟨RX4, "beTurned", "(LPoleShop$Plant;)V"⟩
def RX5 : String := "PoleShop$Polynomials"
def TX5 : u_T := fun k => match k with
  | 0 => ("PoleShop$Polynomials", "below", "[I", true)
  | 1 => ("PoleShop$Polynomials", "above", "[I", true)
  | 2 => ("PoleShop$Polynomials", "square", "[[I", false)
  | 3 => ("PoleShop$Polynomials", "grown", "[[I", false)
  | 4 => ("PoleShop$Polynomials", "column", "[I", true)
  | 5 => ("PoleShop$Polynomials", "high", "[I", false)
  | _ => ("PoleShop$Polynomials", "low", "[I", false)
def tyX5 : Nat → FieldType := fun k => match k with
  | 0 => .array .int
  | 1 => .array .int
  | 2 => .array (.array .int)
  | 3 => .array (.array .int)
  | 4 => .array .int
  | 5 => .array .int
  | _ => .array .int
abbrev wsX50 : List Cond := u_ws RX5 TX5 7
theorem nmX5 : ∀ a, a < 7 → ∀ b, b < 7 → a ≠ b → (TX5 a).2.1 ≠ (TX5 b).2.1 := by decide +kernel
theorem tyX5_ok : ∀ k, k < 7 → parseFieldDescriptor (TX5 k).2.2.1 = some (tyX5 k) := by decide +kernel
abbrev cX5_init : ByteArray := prog_7_method_1_code
def yX5_init : MethodName := ⟨RX5, "<init>", "()V"⟩
abbrev cX5_find : ByteArray := prog_7_method_2_code
def yX5_find : MethodName := ⟨RX5, "find", "(LPoleShop$Plant;)V"⟩
abbrev cX5_trace : ByteArray := prog_7_method_3_code
def yX5_trace : MethodName := ⟨RX5, "trace", "(I[[I)I"⟩
abbrev cX5_addToDiagonal : ByteArray := prog_7_method_4_code
def yX5_addToDiagonal : MethodName := ⟨RX5, "addToDiagonal", "(I[[II)V"⟩
abbrev cX5_commonDegree : ByteArray := prog_7_method_5_code
def yX5_commonDegree : MethodName := ⟨RX5, "commonDegree", "(I)I"⟩
abbrev cX5_takeRest : ByteArray := prog_7_method_6_code
def yX5_takeRest : MethodName := ⟨RX5, "takeRest", "(II)V"⟩
abbrev cX5_degree : ByteArray := prog_7_method_7_code
def yX5_degree : MethodName := ⟨RX5, "degree", "([II)I"⟩
def RX6 : String := "PoleShop$Rows"
def TX6 : u_T := fun k => match k with
  | _ => ("", "", "", false)
def tyX6 : Nat → FieldType := fun k => match k with
  | _ => .int
abbrev wsX60 : List Cond := u_ws RX6 TX6 0
theorem nmX6 : ∀ a, a < 0 → ∀ b, b < 0 → a ≠ b → (TX6 a).2.1 ≠ (TX6 b).2.1 := by decide +kernel
theorem tyX6_ok : ∀ k, k < 0 → parseFieldDescriptor (TX6 k).2.2.1 = some (tyX6 k) := by decide +kernel
abbrev cX6_product : ByteArray := prog_8_method_2_code
def yX6_product : MethodName := ⟨RX6, "product", "(I[I[I)I"⟩
abbrev cX6_squareByColumn : ByteArray := prog_8_method_3_code
def yX6_squareByColumn : MethodName := ⟨RX6, "squareByColumn", "(I[[I[I[I)V"⟩
abbrev cX6_rowBySquare : ByteArray := prog_8_method_4_code
def yX6_rowBySquare : MethodName := ⟨RX6, "rowBySquare", "(I[I[[I[I)V"⟩
abbrev cX6_squareBySquare : ByteArray := prog_8_method_5_code
def yX6_squareBySquare : MethodName := ⟨RX6, "squareBySquare", "(I[[I[[I[[I)V"⟩
abbrev cX6_copy : ByteArray := prog_8_method_6_code
def yX6_copy : MethodName := ⟨RX6, "copy", "(I[I[I)V"⟩
abbrev cX6_fill : ByteArray := prog_8_method_7_code
def yX6_fill : MethodName := ⟨RX6, "fill", "(I[II)V"⟩
def RX7 : String := "PoleShop$StepsBack"
def TX7 : u_T := fun k => match k with
  | 0 => ("PoleShop$StepsBack", "p", "[[I", true)
  | 1 => ("PoleShop$StepsBack", "pa", "[[I", true)
  | 2 => ("PoleShop$StepsBack", "rowsK", "[[I", true)
  | 3 => ("PoleShop$StepsBack", "pb", "[I", true)
  | 4 => ("PoleShop$StepsBack", "apb", "[I", true)
  | 5 => ("PoleShop$StepsBack", "state", "[I", true)
  | _ => ("PoleShop$StepsBack", "next", "[I", true)
def tyX7 : Nat → FieldType := fun k => match k with
  | 0 => .array (.array .int)
  | 1 => .array (.array .int)
  | 2 => .array (.array .int)
  | 3 => .array .int
  | 4 => .array .int
  | 5 => .array .int
  | _ => .array .int
abbrev wsX70 : List Cond := u_ws RX7 TX7 7
theorem nmX7 : ∀ a, a < 7 → ∀ b, b < 7 → a ≠ b → (TX7 a).2.1 ≠ (TX7 b).2.1 := by decide +kernel
theorem tyX7_ok : ∀ k, k < 7 → parseFieldDescriptor (TX7 k).2.2.1 = some (tyX7 k) := by decide +kernel
abbrev cX7_init : ByteArray := prog_9_method_1_code
def yX7_init : MethodName := ⟨RX7, "<init>", "()V"⟩
abbrev cX7_find : ByteArray := prog_9_method_2_code
def yX7_find : MethodName := ⟨RX7, "find", "(LPoleShop$Plant;III)Z"⟩
abbrev cX7_beginAtEnd : ByteArray := prog_9_method_3_code
def yX7_beginAtEnd : MethodName := ⟨RX7, "beginAtEnd", "(LPoleShop$Plant;I)V"⟩
abbrev cX7_stepBack : ByteArray := prog_9_method_4_code
def yX7_stepBack : MethodName := ⟨RX7, "stepBack", "(LPoleShop$Plant;II[I)V"⟩
abbrev cX7_turnedEntry : ByteArray := prog_9_method_5_code
def yX7_turnedEntry : MethodName := ⟨RX7, "turnedEntry", "(I[[III)I"⟩
abbrev cX7_costByEnd : ByteArray := prog_9_method_6_code
def yX7_costByEnd : MethodName := ⟨RX7, "costByEnd", "(I)I"⟩
abbrev cX7_costByGoing : ByteArray := prog_9_method_7_code
def yX7_costByGoing : MethodName := ⟨RX7, "costByGoing", "(LPoleShop$Plant;III)I"⟩
abbrev cX7_costHere : ByteArray := prog_9_method_8_code
def yX7_costHere : MethodName := ⟨RX7, "costHere", "(LPoleShop$Plant;I)I"⟩
def RX8 : String := "PoleShop$Typed"
def TX8 : u_T := fun k => match k with
  | 0 => ("PoleShop$Typed", "values", "[I", true)
  | 1 => ("PoleShop$Typed", "count", "I", false)
  | _ => ("PoleShop$Typed", "most", "I", true)
def tyX8 : Nat → FieldType := fun k => match k with
  | 0 => .array .int
  | 1 => .int
  | _ => .int
abbrev wsX80 : List Cond := u_ws RX8 TX8 3
theorem nmX8 : ∀ a, a < 3 → ∀ b, b < 3 → a ≠ b → (TX8 a).2.1 ≠ (TX8 b).2.1 := by decide +kernel
theorem tyX8_ok : ∀ k, k < 3 → parseFieldDescriptor (TX8 k).2.2.1 = some (tyX8 k) := by decide +kernel
abbrev cX8_init : ByteArray := prog_10_method_1_code
def yX8_init : MethodName := ⟨RX8, "<init>", "(I)V"⟩
abbrev cX8_isFull : ByteArray := prog_10_method_2_code
def yX8_isFull : MethodName := ⟨RX8, "isFull", "()Z"⟩
abbrev cX8_add : ByteArray := prog_10_method_3_code
def yX8_add : MethodName := ⟨RX8, "add", "(I)I"⟩
def RX9 : String := "PoleShop"
def TX9 : u_T := fun k => match k with
  | 0 => ("PoleShop", "plants", "[LPoleShop$Plant;", true)
  | 1 => ("PoleShop", "plantCount", "I", false)
  | 2 => ("PoleShop", "poles", "LPoleShop$Typed;", true)
  | 3 => ("PoleShop", "inputs", "LPoleShop$Typed;", true)
  | 4 => ("PoleShop", "turned", "LPoleShop$Plant;", true)
  | 5 => ("PoleShop", "placing", "LPoleShop$Placing;", true)
  | 6 => ("PoleShop", "gains", "[I", true)
  | 7 => ("PoleShop", "watch", "[I", true)
  | 8 => ("PoleShop", "polynomials", "LPoleShop$Polynomials;", true)
  | 9 => ("PoleShop", "answers", "LPoleShop$Answers;", true)
  | _ => ("PoleShop", "stepsBack", "LPoleShop$StepsBack;", true)
def tyX9 : Nat → FieldType := fun k => match k with
  | 0 => .array (.object "PoleShop$Plant")
  | 1 => .int
  | 2 => .object "PoleShop$Typed"
  | 3 => .object "PoleShop$Typed"
  | 4 => .object "PoleShop$Plant"
  | 5 => .object "PoleShop$Placing"
  | 6 => .array .int
  | 7 => .array .int
  | 8 => .object "PoleShop$Polynomials"
  | 9 => .object "PoleShop$Answers"
  | _ => .object "PoleShop$StepsBack"
abbrev wsX90 : List Cond := u_ws RX9 TX9 11
theorem nmX9 : ∀ a, a < 11 → ∀ b, b < 11 → a ≠ b → (TX9 a).2.1 ≠ (TX9 b).2.1 := by decide +kernel
theorem tyX9_ok : ∀ k, k < 11 → parseFieldDescriptor (TX9 k).2.2.1 = some (tyX9 k) := by decide +kernel
abbrev cX9_init : ByteArray := prog_1_method_1_code
def yX9_init : MethodName := ⟨RX9, "<init>", "()V"⟩
abbrev cX9_system : ByteArray := prog_1_method_2_code
def yX9_system : MethodName := ⟨RX9, "system", "(I)I"⟩
abbrev cX9_set : ByteArray := prog_1_method_3_code
def yX9_set : MethodName := ⟨RX9, "set", "(IIIII)I"⟩
abbrev cX9_join : ByteArray := prog_1_method_4_code
def yX9_join : MethodName := ⟨RX9, "join", "(IIZ)I"⟩
abbrev cX9_loop : ByteArray := prog_1_method_5_code
def yX9_loop : MethodName := ⟨RX9, "loop", "(II)I"⟩
abbrev cX9_pole : ByteArray := prog_1_method_6_code
def yX9_pole : MethodName := ⟨RX9, "pole", "(I)I"⟩
abbrev cX9_input : ByteArray := prog_1_method_7_code
def yX9_input : MethodName := ⟨RX9, "input", "(I)I"⟩
abbrev cX9_clear : ByteArray := prog_1_method_8_code
def yX9_clear : MethodName := ⟨RX9, "clear", "()I"⟩
abbrev cX9_placed : ByteArray := prog_1_method_9_code
def yX9_placed : MethodName := ⟨RX9, "placed", "(I)I"⟩
abbrev cX9_joined : ByteArray := prog_1_method_10_code
def yX9_joined : MethodName := ⟨RX9, "joined", "(I)I"⟩
abbrev cX9_at : ByteArray := prog_1_method_11_code
def yX9_at : MethodName := ⟨RX9, "at", "(IIII)I"⟩
abbrev cX9_order : ByteArray := prog_1_method_12_code
def yX9_order : MethodName := ⟨RX9, "order", "(I)I"⟩
abbrev cX9_polynomial : ByteArray := prog_1_method_13_code
def yX9_polynomial : MethodName := ⟨RX9, "polynomial", "(IIZ)I"⟩
abbrev cX9_rank : ByteArray := prog_1_method_14_code
def yX9_rank : MethodName := ⟨RX9, "rank", "(IZ)I"⟩
abbrev cX9_number : ByteArray := prog_1_method_15_code
def yX9_number : MethodName := ⟨RX9, "number", "(II)I"⟩
abbrev cX9_output : ByteArray := prog_1_method_16_code
def yX9_output : MethodName := ⟨RX9, "output", "(II)I"⟩
abbrev cX9_outputAnew : ByteArray := prog_1_method_17_code
def yX9_outputAnew : MethodName := ⟨RX9, "outputAnew", "(II)I"⟩
abbrev cX9_gain : ByteArray := prog_1_method_18_code
def yX9_gain : MethodName := ⟨RX9, "gain", "(II)I"⟩
abbrev cX9_gainAnew : ByteArray := prog_1_method_19_code
def yX9_gainAnew : MethodName := ⟨RX9, "gainAnew", "(II)I"⟩
abbrev cX9_observer : ByteArray := prog_1_method_20_code
def yX9_observer : MethodName := ⟨RX9, "observer", "(II)I"⟩
abbrev cX9_cost : ByteArray := prog_1_method_21_code
def yX9_cost : MethodName := ⟨RX9, "cost", "(IIII)I"⟩
abbrev cX9_costAnew : ByteArray := prog_1_method_22_code
def yX9_costAnew : MethodName := ⟨RX9, "costAnew", "(IIII)I"⟩
abbrev cX9_least : ByteArray := prog_1_method_23_code
def yX9_least : MethodName := ⟨RX9, "least", "(I)I"⟩
abbrev cX9_leastAnew : ByteArray := prog_1_method_24_code
def yX9_leastAnew : MethodName := ⟨RX9, "leastAnew", "(I)I"⟩
abbrev cX9_plantOf : ByteArray := prog_1_method_25_code
def yX9_plantOf : MethodName := ⟨RX9, "plantOf", "(I)LPoleShop$Plant;"⟩
abbrev cX9_newPlant : ByteArray := prog_1_method_26_code
def yX9_newPlant : MethodName := ⟨RX9, "newPlant", "(I)LPoleShop$Plant;"⟩
abbrev cX9_type : ByteArray := prog_1_method_27_code
def yX9_type : MethodName := ⟨RX9, "type", "(LPoleShop$Typed;I)I"⟩
abbrev cX9_requireEntry : ByteArray := prog_1_method_28_code
def yX9_requireEntry : MethodName := ⟨RX9, "requireEntry", "(LPoleShop$Plant;III)V"⟩
abbrev cX9_requirePlace : ByteArray := prog_1_method_29_code
def yX9_requirePlace : MethodName := ⟨RX9, "requirePlace", "(LPoleShop$Plant;I)V"⟩
abbrev cX9_requireValue : ByteArray := prog_1_method_30_code
def yX9_requireValue : MethodName := ⟨RX9, "requireValue", "(I)V"⟩
abbrev cX9_requireRange : ByteArray := prog_1_method_31_code
def yX9_requireRange : MethodName := ⟨RX9, "requireRange", "(II)V"⟩
abbrev cX9_requirePoles : ByteArray := prog_1_method_32_code
def yX9_requirePoles : MethodName := ⟨RX9, "requirePoles", "(I)V"⟩
abbrev cX9_findGains : ByteArray := prog_1_method_33_code
def yX9_findGains : MethodName := ⟨RX9, "findGains", "(LPoleShop$Plant;)V"⟩
abbrev cX9_findWatch : ByteArray := prog_1_method_34_code
def yX9_findWatch : MethodName := ⟨RX9, "findWatch", "(LPoleShop$Plant;)V"⟩
abbrev cX9_goBack : ByteArray := prog_1_method_35_code
def yX9_goBack : MethodName := ⟨RX9, "goBack", "(LPoleShop$Plant;III)V"⟩
def RX10 : String := "PoleShopModel"
def TX10 : u_T := fun k => match k with
  | _ => ("", "", "", false)
def tyX10 : Nat → FieldType := fun k => match k with
  | _ => .int
abbrev wsX100 : List Cond := u_ws RX10 TX10 0
theorem nmX10 : ∀ a, a < 0 → ∀ b, b < 0 → a ≠ b → (TX10 a).2.1 ≠ (TX10 b).2.1 := by decide +kernel
theorem tyX10_ok : ∀ k, k < 0 → parseFieldDescriptor (TX10 k).2.2.1 = some (tyX10 k) := by decide +kernel
def RJ0 : String := "java/lang/String"
def TJ0 : u_T := fun k => match k with
  | _ => ("", "", "", false)
def tyJ0 : Nat → FieldType := fun k => match k with
  | _ => .int
abbrev wsJ00 : List Cond := u_ws RJ0 TJ0 0
theorem nmJ0 : ∀ a, a < 0 → ∀ b, b < 0 → a ≠ b → (TJ0 a).2.1 ≠ (TJ0 b).2.1 := by decide +kernel
theorem tyJ0_ok : ∀ k, k < 0 → parseFieldDescriptor (TJ0 k).2.2.1 = some (tyJ0 k) := by decide +kernel
def RL : String := "PoleShopLaw"
abbrev cL_part : ByteArray := method_2_code
def yL_part : MethodName := ⟨RL, "part", "([III)I"⟩
abbrev cL_does : ByteArray := method_3_code
def yL_does : MethodName := ⟨RL, "does", "(LPoleShop;IIIIII)I"⟩
abbrev cL_rest : ByteArray := method_4_code
def yL_rest : MethodName := ⟨RL, "rest", "(I)I"⟩
abbrev cL_inverse : ByteArray := method_5_code
def yL_inverse : MethodName := ⟨RL, "inverse", "(I)I"⟩
abbrev cL_reads : ByteArray := method_6_code
def yL_reads : MethodName := ⟨RL, "reads", "(LPoleShop;I[I[I)V"⟩
abbrev cL_determinant : ByteArray := method_7_code
def yL_determinant : MethodName := ⟨RL, "determinant", "([II)I"⟩
abbrev cL_rank : ByteArray := method_8_code
def yL_rank : MethodName := ⟨RL, "rank", "([II)I"⟩
abbrev cL_value : ByteArray := method_9_code
def yL_value : MethodName := ⟨RL, "value", "([III)I"⟩
abbrev cL_at : ByteArray := method_10_code
def yL_at : MethodName := ⟨RL, "at", "([I[III)I"⟩
abbrev cL_goes : ByteArray := method_11_code
def yL_goes : MethodName := ⟨RL, "goes", "([II[IZ)V"⟩
abbrev cL_numbers : ByteArray := method_12_code
def yL_numbers : MethodName := ⟨RL, "numbers", "([I[I[I)V"⟩
abbrev cL_rankOf : ByteArray := method_13_code
def yL_rankOf : MethodName := ⟨RL, "rankOf", "([I[IZ)I"⟩
abbrev cL_areGains : ByteArray := method_14_code
def yL_areGains : MethodName := ⟨RL, "areGains", "(LPoleShop;[I[I[I[II)Z"⟩
abbrev cL_costs : ByteArray := method_15_code
def yL_costs : MethodName := ⟨RL, "costs", "([I[IIII)I"⟩
abbrev cL_isSo : ByteArray := method_16_code
def yL_isSo : MethodName := ⟨RL, "isSo", "(LPoleShop;[I[I[IIII)Z"⟩
abbrev cL_isMade : ByteArray := method_17_code
def yL_isMade : MethodName := ⟨RL, "isMade", "(LPoleShop;IIIII)Z"⟩
abbrev cL_arePlaced : ByteArray := method_18_code
def yL_arePlaced : MethodName := ⟨RL, "arePlaced", "(LPoleShop;IIZ)Z"⟩
abbrev cL_isAct : ByteArray := method_19_code
def yL_isAct : MethodName := ⟨RL, "isAct", "(LPoleShop;[I[I[IIII)Z"⟩
abbrev cL_law : ByteArray := code
def yL_law : MethodName := ⟨RL, "law", "([I)Z"⟩
abbrev vwCl : List vw_C := [(RX0, TX0, 4), (RX1, TX1, 1), (RX3, TX3, 4), (RX4, TX4, 5), (RX5, TX5, 7), (RX7, TX7, 7), (RX8, TX8, 3), (RX9, TX9, 11)]
end
section
/-! the tables of the model machine, and what the words of the tables say of them: written by a program out of the printed names -/
def lwg : List Cond := lw_tbl.filter goodWord
theorem lwi {w : Cond} (i : Nat) (h : lw_tbl[i]? = some w) (g : goodWord w = true) : w ∈ lwg := List.mem_filter.mpr ⟨List.mem_of_getElem? h, g⟩
theorem lwg_good : GoodIn lw_tbl lwg := fun _ h => ⟨(List.mem_filter.mp h).1, good_of_word (List.mem_filter.mp h).2⟩
theorem lwg_self : GoodIn lwg lwg := fun _ h => ⟨h, good_of_word (List.mem_filter.mp h).2⟩
theorem lwg_in (ws : List Cond) (ps : List Nat) (hp : ws = ps.filterMap (fun i => lw_tbl[i]?)) (h : ws.all goodWord = true) : ∀ w ∈ ws, w ∈ lwg := fun w hw => List.mem_filter.mpr ⟨(goodIn_r ws ps hp h w hw).1, List.all_eq_true.mp h w hw⟩
def cnm : Nat → String := fun k => match k with
  | 0 => RX0
  | 1 => RX1
  | 2 => RX2
  | 3 => RX3
  | 4 => RX4
  | 5 => RX5
  | 6 => RX6
  | 7 => RX7
  | 8 => RX8
  | 9 => RX9
  | 10 => RX10
  | 11 => RL
  | _ => ""
abbrev Ent : Type := ClassFile.Instr × Nat × Nat × Nat × Nat
/-- class number, kind (0 static, 1 of an object, 2 constructor), number of arguments, name, code, locals, type, handlers, blocks -/
abbrev MT : Type := (Nat × Nat × Nat) × MethodName × ByteArray × Nat × Option FieldType × List (Nat × Nat × Nat × Nat) × List (Nat × List Ent)
abbrev s_X0_init_0 : List Ent := [(.aload_n 0, 1, 0, 0, 0), (.invokespecial 3, 3, 9999, 0, 0), (.aload_n 0, 1, 0, 0, 0), (.bipush 41, 2, 0, 0, 0), (.newarray .int, 2, 0, 0, 0), (.putfield 9, 3, 0, 0, 3), (.aload_n 0, 1, 0, 0, 0), (.bipush 8, 2, 0, 0, 0), (.newarray .int, 2, 0, 0, 0), (.putfield 15, 3, 0, 1, 3), (.aload_n 0, 1, 0, 0, 0), (.bipush 8, 2, 0, 0, 0), (.newarray .int, 2, 0, 0, 0), (.putfield 18, 3, 0, 2, 3), (.aload_n 0, 1, 0, 0, 0), (.new 21, 3, 1, 0, 0), (.dup, 1, 0, 0, 0), (.invokespecial 23, 3, 6, 0, 1), (.putfield 24, 3, 0, 3, 3), (.return_, 1, 0, 0, 0)]
def mt_X0_init : MT := ((0, 2, 0), yX0_init, cX0_init, 1, none, [], [(0, s_X0_init_0)])
abbrev s_X0_findNumbers_0 : List Ent := [(.aload_n 1, 1, 0, 0, 0), (.getfield 28, 3, 3, 0, 0), (.istore_n 3, 1, 0, 0, 0), (.aload_n 0, 1, 0, 0, 0), (.getfield 9, 3, 0, 0, 3), (.iconst 0, 1, 0, 0, 0), (.aload_n 1, 1, 0, 0, 0), (.getfield 34, 3, 3, 4, 0), (.iastore, 1, 0, 0, 0), (.iload_n 3, 1, 0, 0, 0), (.aload_n 1, 1, 0, 0, 0), (.getfield 37, 3, 3, 2, 3), (.aload_n 0, 1, 0, 0, 0), (.getfield 15, 3, 0, 1, 3), (.invokestatic 40, 3, 45, 3, 0), (.iconst 1, 1, 0, 0, 0), (.istore 4, 2, 0, 0, 0)]
abbrev s_X0_findNumbers_30 : List Ent := [(.iload 4, 2, 0, 0, 0), (.iload_n 2, 1, 0, 0, 0), (.if_icmp .gt 56, 3, 0, 0, 0), (.aload_n 0, 1, 0, 0, 0), (.getfield 9, 3, 0, 0, 3), (.iload 4, 2, 0, 0, 0), (.iload_n 3, 1, 0, 0, 0), (.aload_n 1, 1, 0, 0, 0), (.getfield 46, 3, 3, 3, 3), (.aload_n 0, 1, 0, 0, 0), (.getfield 15, 3, 0, 1, 3), (.invokestatic 49, 3, 41, 3, 0), (.iastore, 1, 0, 0, 0), (.iload_n 3, 1, 0, 0, 0), (.aload_n 1, 1, 0, 0, 0), (.getfield 53, 3, 3, 1, 3), (.aload_n 0, 1, 0, 0, 0), (.getfield 15, 3, 0, 1, 3), (.aload_n 0, 1, 0, 0, 0), (.getfield 18, 3, 0, 2, 3), (.invokestatic 57, 3, 42, 4, 0), (.iload_n 3, 1, 0, 0, 0), (.aload_n 0, 1, 0, 0, 0), (.getfield 18, 3, 0, 2, 3), (.aload_n 0, 1, 0, 0, 0), (.getfield 15, 3, 0, 1, 3), (.invokestatic 40, 3, 45, 3, 0), (.iinc 4 1, 3, 0, 0, 0), (.goto (-56), 3, 0, 0, 0)]
abbrev s_X0_findNumbers_89 : List Ent := [(.return_, 1, 0, 0, 0)]
def mt_X0_findNumbers : MT := ((0, 1, 2), yX0_findNumbers, cX0_findNumbers, 5, none, [], [(0, s_X0_findNumbers_0), (30, s_X0_findNumbers_30), (89, s_X0_findNumbers_89)])
abbrev s_X0_byState_0 : List Ent := [(.aload_n 1, 1, 0, 0, 0), (.getfield 28, 3, 3, 0, 0), (.istore 4, 2, 0, 0, 0), (.iload 4, 2, 0, 0, 0), (.aload_n 0, 1, 0, 0, 0), (.getfield 15, 3, 0, 1, 3), (.iconst 0, 1, 0, 0, 0), (.invokestatic 61, 3, 46, 3, 0), (.iconst 0, 1, 0, 0, 0), (.istore 5, 2, 0, 0, 0)]
abbrev s_X0_byState_19 : List Ent := [(.iload 5, 2, 0, 0, 0), (.iload_n 3, 1, 0, 0, 0), (.if_icmp .ge 79, 3, 0, 0, 0), (.aload_n 2, 1, 0, 0, 0), (.iload 5, 2, 0, 0, 0), (.invokestatic 65, 3, 4, 2, 0), (.istore 6, 2, 0, 0, 0), (.iload 4, 2, 0, 0, 0), (.aload_n 1, 1, 0, 0, 0), (.getfield 53, 3, 3, 1, 3), (.aload_n 0, 1, 0, 0, 0), (.getfield 15, 3, 0, 1, 3), (.aload_n 0, 1, 0, 0, 0), (.getfield 18, 3, 0, 2, 3), (.invokestatic 57, 3, 42, 4, 0), (.iconst 0, 1, 0, 0, 0), (.istore 7, 2, 0, 0, 0)]
abbrev s_X0_byState_53 : List Ent := [(.iload 7, 2, 0, 0, 0), (.iload 4, 2, 0, 0, 0), (.if_icmp .ge 38, 3, 0, 0, 0), (.aload_n 0, 1, 0, 0, 0), (.getfield 15, 3, 0, 1, 3), (.iload 7, 2, 0, 0, 0), (.aload_n 0, 1, 0, 0, 0), (.getfield 18, 3, 0, 2, 3), (.iload 7, 2, 0, 0, 0), (.iaload, 1, 0, 0, 0), (.aload_n 1, 1, 0, 0, 0), (.getfield 37, 3, 3, 2, 3), (.iload 7, 2, 0, 0, 0), (.iaload, 1, 0, 0, 0), (.iload 6, 2, 0, 0, 0), (.invokestatic 69, 3, 17, 2, 0), (.invokestatic 75, 3, 15, 2, 0), (.iastore, 1, 0, 0, 0), (.iinc 7 1, 3, 0, 0, 0), (.goto (-39), 3, 0, 0, 0)]
abbrev s_X0_byState_95 : List Ent := [(.iinc 5 1, 3, 0, 0, 0), (.goto (-79), 3, 0, 0, 0)]
abbrev s_X0_byState_101 : List Ent := [(.aload_n 1, 1, 0, 0, 0), (.getfield 34, 3, 3, 4, 0), (.aload_n 2, 1, 0, 0, 0), (.iload_n 3, 1, 0, 0, 0), (.invokestatic 65, 3, 4, 2, 0), (.invokestatic 69, 3, 17, 2, 0), (.istore 5, 2, 0, 0, 0), (.iload 4, 2, 0, 0, 0), (.aload_n 1, 1, 0, 0, 0), (.getfield 46, 3, 3, 3, 3), (.aload_n 0, 1, 0, 0, 0), (.getfield 15, 3, 0, 1, 3), (.invokestatic 49, 3, 41, 3, 0), (.iload 5, 2, 0, 0, 0), (.invokestatic 75, 3, 15, 2, 0), (.ireturn, 1, 0, 0, 0)]
def mt_X0_byState : MT := ((0, 1, 3), yX0_byState, cX0_byState, 8, (some .int), [], [(0, s_X0_byState_0), (19, s_X0_byState_19), (53, s_X0_byState_53), (95, s_X0_byState_95), (101, s_X0_byState_101)])
abbrev s_X0_byNumbers_0 : List Ent := [(.aload_n 0, 1, 0, 0, 0), (.aload_n 1, 1, 0, 0, 0), (.iload_n 3, 1, 0, 0, 0), (.invokevirtual 78, 3, 1, 2, 0), (.iconst 0, 1, 0, 0, 0), (.istore 4, 2, 0, 0, 0), (.iconst 0, 1, 0, 0, 0), (.istore 5, 2, 0, 0, 0)]
abbrev s_X0_byNumbers_12 : List Ent := [(.iload 5, 2, 0, 0, 0), (.iload_n 3, 1, 0, 0, 0), (.if_icmp .gt 34, 3, 0, 0, 0), (.iload 4, 2, 0, 0, 0), (.aload_n 0, 1, 0, 0, 0), (.getfield 9, 3, 0, 0, 3), (.iload_n 3, 1, 0, 0, 0), (.iload 5, 2, 0, 0, 0), (.isub, 1, 0, 0, 0), (.iaload, 1, 0, 0, 0), (.aload_n 2, 1, 0, 0, 0), (.iload 5, 2, 0, 0, 0), (.invokestatic 65, 3, 4, 2, 0), (.invokestatic 69, 3, 17, 2, 0), (.invokestatic 75, 3, 15, 2, 0), (.istore 4, 2, 0, 0, 0), (.iinc 5 1, 3, 0, 0, 0), (.goto (-34), 3, 0, 0, 0)]
abbrev s_X0_byNumbers_49 : List Ent := [(.iload 4, 2, 0, 0, 0), (.ireturn, 1, 0, 0, 0)]
def mt_X0_byNumbers : MT := ((0, 1, 3), yX0_byNumbers, cX0_byNumbers, 6, (some .int), [], [(0, s_X0_byNumbers_0), (12, s_X0_byNumbers_12), (49, s_X0_byNumbers_49)])
abbrev s_X0_inputAt_0 : List Ent := [(.iload_n 1, 1, 0, 0, 0), (.aload_n 0, 1, 0, 0, 0), (.getfield 82, 3, 6, 1, 0), (.if_icmp .ge 12, 3, 0, 0, 0), (.aload_n 0, 1, 0, 0, 0), (.getfield 87, 3, 6, 0, 3), (.iload_n 1, 1, 0, 0, 0), (.iaload, 1, 0, 0, 0), (.goto 4, 3, 0, 0, 0)]
abbrev s_X0_inputAt_17 : List Ent := [(.iconst 0, 1, 0, 0, 0)]
abbrev s_X0_inputAt_18 : List Ent := [(.ireturn, 1, 0, 0, 0)]
def mt_X0_inputAt : MT := ((0, 0, 2), yX0_inputAt, cX0_inputAt, 2, (some .int), [], [(0, s_X0_inputAt_0), (17, s_X0_inputAt_17), (18, s_X0_inputAt_18)])
abbrev s_X0_rankOfNumbers_0 : List Ent := [(.aload_n 1, 1, 0, 0, 0), (.getfield 28, 3, 3, 0, 0), (.istore_n 2, 1, 0, 0, 0), (.aload_n 0, 1, 0, 0, 0), (.aload_n 1, 1, 0, 0, 0), (.iconst 2, 1, 0, 0, 0), (.iload_n 2, 1, 0, 0, 0), (.imul, 1, 0, 0, 0), (.iconst 1, 1, 0, 0, 0), (.isub, 1, 0, 0, 0), (.invokevirtual 78, 3, 1, 2, 0), (.iconst 0, 1, 0, 0, 0), (.istore_n 3, 1, 0, 0, 0)]
abbrev s_X0_rankOfNumbers_17 : List Ent := [(.iload_n 3, 1, 0, 0, 0), (.iload_n 2, 1, 0, 0, 0), (.if_icmp .ge 56, 3, 0, 0, 0), (.iconst 0, 1, 0, 0, 0), (.istore 4, 2, 0, 0, 0)]
abbrev s_X0_rankOfNumbers_25 : List Ent := [(.iload 4, 2, 0, 0, 0), (.iload_n 2, 1, 0, 0, 0), (.if_icmp .ge 27, 3, 0, 0, 0), (.aload_n 0, 1, 0, 0, 0), (.getfield 18, 3, 0, 2, 3), (.iload 4, 2, 0, 0, 0), (.aload_n 0, 1, 0, 0, 0), (.getfield 9, 3, 0, 0, 3), (.iload_n 3, 1, 0, 0, 0), (.iload 4, 2, 0, 0, 0), (.iadd, 1, 0, 0, 0), (.iconst 1, 1, 0, 0, 0), (.iadd, 1, 0, 0, 0), (.iaload, 1, 0, 0, 0), (.iastore, 1, 0, 0, 0), (.iinc 4 1, 3, 0, 0, 0), (.goto (-27), 3, 0, 0, 0)]
abbrev s_X0_rankOfNumbers_55 : List Ent := [(.aload_n 0, 1, 0, 0, 0), (.getfield 24, 3, 0, 3, 3), (.iload_n 2, 1, 0, 0, 0), (.iload_n 3, 1, 0, 0, 0), (.aload_n 0, 1, 0, 0, 0), (.getfield 18, 3, 0, 2, 3), (.iconst 0, 1, 0, 0, 0), (.invokevirtual 90, 3, 7, 4, 1), (.iinc 3 1, 3, 0, 0, 0), (.goto (-55), 3, 0, 0, 0)]
abbrev s_X0_rankOfNumbers_75 : List Ent := [(.aload_n 0, 1, 0, 0, 0), (.getfield 24, 3, 0, 3, 3), (.iload_n 2, 1, 0, 0, 0), (.invokevirtual 94, 3, 8, 1, 1), (.ireturn, 1, 0, 0, 0)]
def mt_X0_rankOfNumbers : MT := ((0, 1, 1), yX0_rankOfNumbers, cX0_rankOfNumbers, 5, (some .int), [], [(0, s_X0_rankOfNumbers_0), (17, s_X0_rankOfNumbers_17), (25, s_X0_rankOfNumbers_25), (55, s_X0_rankOfNumbers_55), (75, s_X0_rankOfNumbers_75)])
abbrev s_X1_init_0 : List Ent := [(.aload_n 0, 1, 0, 0, 0), (.invokespecial 3, 3, 9999, 0, 0), (.aload_n 0, 1, 0, 0, 0), (.bipush 8, 2, 0, 0, 0), (.bipush 9, 2, 0, 0, 0), (.multianewarray 9 2, 4, 0, 0, 0), (.putfield 11, 3, 1, 0, 3), (.return_, 1, 0, 0, 0)]
def mt_X1_init : MT := ((1, 2, 0), yX1_init, cX1_init, 1, none, [], [(0, s_X1_init_0)])
abbrev s_X1_put_0 : List Ent := [(.iload_n 1, 1, 0, 0, 0), (.aload_n 3, 1, 0, 0, 0), (.aload_n 0, 1, 0, 0, 0), (.getfield 11, 3, 1, 0, 3), (.iload_n 2, 1, 0, 0, 0), (.aaload, 1, 0, 0, 0), (.invokestatic 16, 3, 45, 3, 0), (.aload_n 0, 1, 0, 0, 0), (.getfield 11, 3, 1, 0, 3), (.iload_n 2, 1, 0, 0, 0), (.aaload, 1, 0, 0, 0), (.iload_n 1, 1, 0, 0, 0), (.iload 4, 2, 0, 0, 0), (.iastore, 1, 0, 0, 0), (.return_, 1, 0, 0, 0)]
def mt_X1_put : MT := ((1, 1, 4), yX1_put, cX1_put, 5, none, [], [(0, s_X1_put_0)])
abbrev s_X1_solve_0 : List Ent := [(.iconst 0, 1, 0, 0, 0), (.istore_n 2, 1, 0, 0, 0), (.iconst 0, 1, 0, 0, 0), (.istore_n 3, 1, 0, 0, 0)]
abbrev s_X1_solve_4 : List Ent := [(.iload_n 3, 1, 0, 0, 0), (.iload_n 1, 1, 0, 0, 0), (.if_icmp .ge 55, 3, 0, 0, 0), (.aload_n 0, 1, 0, 0, 0), (.iload_n 1, 1, 0, 0, 0), (.iload_n 2, 1, 0, 0, 0), (.iload_n 3, 1, 0, 0, 0), (.invokevirtual 22, 3, 10, 3, 1), (.istore 4, 2, 0, 0, 0), (.iload 4, 2, 0, 0, 0), (.iload_n 1, 1, 0, 0, 0), (.if_icmp .ge 34, 3, 0, 0, 0), (.aload_n 0, 1, 0, 0, 0), (.iload_n 2, 1, 0, 0, 0), (.iload 4, 2, 0, 0, 0), (.invokevirtual 26, 3, 11, 2, 1), (.aload_n 0, 1, 0, 0, 0), (.iload_n 1, 1, 0, 0, 0), (.iload_n 2, 1, 0, 0, 0), (.aload_n 0, 1, 0, 0, 0), (.getfield 11, 3, 1, 0, 3), (.iload_n 2, 1, 0, 0, 0), (.aaload, 1, 0, 0, 0), (.iload_n 3, 1, 0, 0, 0), (.iaload, 1, 0, 0, 0), (.invokevirtual 30, 3, 12, 3, 1), (.aload_n 0, 1, 0, 0, 0), (.iload_n 1, 1, 0, 0, 0), (.iload_n 2, 1, 0, 0, 0), (.iload_n 3, 1, 0, 0, 0), (.invokevirtual 34, 3, 13, 3, 1), (.iinc 2 1, 3, 0, 0, 0)]
abbrev s_X1_solve_55 : List Ent := [(.iinc 3 1, 3, 0, 0, 0), (.goto (-54), 3, 0, 0, 0)]
abbrev s_X1_solve_61 : List Ent := [(.iload_n 2, 1, 0, 0, 0), (.ireturn, 1, 0, 0, 0)]
def mt_X1_solve : MT := ((1, 1, 1), yX1_solve, cX1_solve, 5, (some .int), [], [(0, s_X1_solve_0), (4, s_X1_solve_4), (55, s_X1_solve_55), (61, s_X1_solve_61)])
abbrev s_X1_readSolution_0 : List Ent := [(.iconst 0, 1, 0, 0, 0), (.istore_n 3, 1, 0, 0, 0)]
abbrev s_X1_readSolution_2 : List Ent := [(.iload_n 3, 1, 0, 0, 0), (.iload_n 1, 1, 0, 0, 0), (.if_icmp .ge 20, 3, 0, 0, 0), (.aload_n 2, 1, 0, 0, 0), (.iload_n 3, 1, 0, 0, 0), (.aload_n 0, 1, 0, 0, 0), (.getfield 11, 3, 1, 0, 3), (.iload_n 3, 1, 0, 0, 0), (.aaload, 1, 0, 0, 0), (.iload_n 1, 1, 0, 0, 0), (.iaload, 1, 0, 0, 0), (.iastore, 1, 0, 0, 0), (.iinc 3 1, 3, 0, 0, 0), (.goto (-19), 3, 0, 0, 0)]
abbrev s_X1_readSolution_24 : List Ent := [(.return_, 1, 0, 0, 0)]
def mt_X1_readSolution : MT := ((1, 1, 2), yX1_readSolution, cX1_readSolution, 4, none, [], [(0, s_X1_readSolution_0), (2, s_X1_readSolution_2), (24, s_X1_readSolution_24)])
abbrev s_X1_firstWith_0 : List Ent := [(.iload_n 2, 1, 0, 0, 0), (.istore 4, 2, 0, 0, 0)]
abbrev s_X1_firstWith_3 : List Ent := [(.iload 4, 2, 0, 0, 0), (.iload_n 1, 1, 0, 0, 0), (.if_icmp .ge 21, 3, 0, 0, 0), (.aload_n 0, 1, 0, 0, 0), (.getfield 11, 3, 1, 0, 3), (.iload 4, 2, 0, 0, 0), (.aaload, 1, 0, 0, 0), (.iload_n 3, 1, 0, 0, 0), (.iaload, 1, 0, 0, 0), (.ifCond .ne 9, 3, 0, 0, 0), (.iinc 4 1, 3, 0, 0, 0), (.goto (-21), 3, 0, 0, 0)]
abbrev s_X1_firstWith_27 : List Ent := [(.iload 4, 2, 0, 0, 0), (.ireturn, 1, 0, 0, 0)]
def mt_X1_firstWith : MT := ((1, 1, 3), yX1_firstWith, cX1_firstWith, 5, (some .int), [], [(0, s_X1_firstWith_0), (3, s_X1_firstWith_3), (27, s_X1_firstWith_27)])
abbrev s_X1_swap_0 : List Ent := [(.aload_n 0, 1, 0, 0, 0), (.getfield 11, 3, 1, 0, 3), (.iload_n 1, 1, 0, 0, 0), (.aaload, 1, 0, 0, 0), (.astore_n 3, 1, 0, 0, 0), (.aload_n 0, 1, 0, 0, 0), (.getfield 11, 3, 1, 0, 3), (.iload_n 1, 1, 0, 0, 0), (.aload_n 0, 1, 0, 0, 0), (.getfield 11, 3, 1, 0, 3), (.iload_n 2, 1, 0, 0, 0), (.aaload, 1, 0, 0, 0), (.aastore, 1, 0, 0, 0), (.aload_n 0, 1, 0, 0, 0), (.getfield 11, 3, 1, 0, 3), (.iload_n 2, 1, 0, 0, 0), (.aload_n 3, 1, 0, 0, 0), (.aastore, 1, 0, 0, 0), (.return_, 1, 0, 0, 0)]
def mt_X1_swap : MT := ((1, 1, 2), yX1_swap, cX1_swap, 4, none, [], [(0, s_X1_swap_0)])
abbrev s_X1_divide_0 : List Ent := [(.iconst 1, 1, 0, 0, 0), (.iload_n 3, 1, 0, 0, 0), (.invokestatic 37, 3, 18, 2, 0), (.istore 4, 2, 0, 0, 0), (.iconst 0, 1, 0, 0, 0), (.istore 5, 2, 0, 0, 0)]
abbrev s_X1_divide_10 : List Ent := [(.iload 5, 2, 0, 0, 0), (.iload_n 1, 1, 0, 0, 0), (.if_icmp .gt 32, 3, 0, 0, 0), (.aload_n 0, 1, 0, 0, 0), (.getfield 11, 3, 1, 0, 3), (.iload_n 2, 1, 0, 0, 0), (.aaload, 1, 0, 0, 0), (.iload 5, 2, 0, 0, 0), (.iload 4, 2, 0, 0, 0), (.aload_n 0, 1, 0, 0, 0), (.getfield 11, 3, 1, 0, 3), (.iload_n 2, 1, 0, 0, 0), (.aaload, 1, 0, 0, 0), (.iload 5, 2, 0, 0, 0), (.iaload, 1, 0, 0, 0), (.invokestatic 43, 3, 17, 2, 0), (.iastore, 1, 0, 0, 0), (.iinc 5 1, 3, 0, 0, 0), (.goto (-32), 3, 0, 0, 0)]
abbrev s_X1_divide_45 : List Ent := [(.return_, 1, 0, 0, 0)]
def mt_X1_divide : MT := ((1, 1, 3), yX1_divide, cX1_divide, 6, none, [], [(0, s_X1_divide_0), (10, s_X1_divide_10), (45, s_X1_divide_45)])
abbrev s_X1_takeAway_0 : List Ent := [(.iconst 0, 1, 0, 0, 0), (.istore 4, 2, 0, 0, 0)]
abbrev s_X1_takeAway_3 : List Ent := [(.iload 4, 2, 0, 0, 0), (.iload_n 1, 1, 0, 0, 0), (.if_icmp .ge 83, 3, 0, 0, 0), (.aload_n 0, 1, 0, 0, 0), (.getfield 11, 3, 1, 0, 3), (.iload 4, 2, 0, 0, 0), (.aaload, 1, 0, 0, 0), (.iload_n 3, 1, 0, 0, 0), (.iaload, 1, 0, 0, 0), (.istore 5, 2, 0, 0, 0), (.iload 4, 2, 0, 0, 0), (.iload_n 2, 1, 0, 0, 0), (.if_icmp .eq 60, 3, 0, 0, 0), (.iload 5, 2, 0, 0, 0), (.ifCond .eq 55, 3, 0, 0, 0), (.iconst 0, 1, 0, 0, 0), (.istore 6, 2, 0, 0, 0)]
abbrev s_X1_takeAway_34 : List Ent := [(.iload 6, 2, 0, 0, 0), (.iload_n 1, 1, 0, 0, 0), (.if_icmp .gt 46, 3, 0, 0, 0), (.aload_n 0, 1, 0, 0, 0), (.getfield 11, 3, 1, 0, 3), (.iload 4, 2, 0, 0, 0), (.aaload, 1, 0, 0, 0), (.iload 6, 2, 0, 0, 0), (.aload_n 0, 1, 0, 0, 0), (.getfield 11, 3, 1, 0, 3), (.iload 4, 2, 0, 0, 0), (.aaload, 1, 0, 0, 0), (.iload 6, 2, 0, 0, 0), (.iaload, 1, 0, 0, 0), (.iload 5, 2, 0, 0, 0), (.aload_n 0, 1, 0, 0, 0), (.getfield 11, 3, 1, 0, 3), (.iload_n 2, 1, 0, 0, 0), (.aaload, 1, 0, 0, 0), (.iload 6, 2, 0, 0, 0), (.iaload, 1, 0, 0, 0), (.invokestatic 43, 3, 17, 2, 0), (.invokestatic 46, 3, 16, 2, 0), (.iastore, 1, 0, 0, 0), (.iinc 6 1, 3, 0, 0, 0), (.goto (-46), 3, 0, 0, 0)]
abbrev s_X1_takeAway_83 : List Ent := [(.iinc 4 1, 3, 0, 0, 0), (.goto (-83), 3, 0, 0, 0)]
abbrev s_X1_takeAway_89 : List Ent := [(.return_, 1, 0, 0, 0)]
def mt_X1_takeAway : MT := ((1, 1, 3), yX1_takeAway, cX1_takeAway, 7, none, [], [(0, s_X1_takeAway_0), (3, s_X1_takeAway_3), (34, s_X1_takeAway_34), (83, s_X1_takeAway_83), (89, s_X1_takeAway_89)])
abbrev s_X2_remainder_0 : List Ent := [(.iload_n 0, 1, 0, 0, 0), (.ifCond .ge 11, 3, 0, 0, 0), (.iload_n 0, 1, 0, 0, 0), (.sipush 10007, 3, 0, 0, 0), (.iadd, 1, 0, 0, 0), (.goto 4, 3, 0, 0, 0)]
abbrev s_X2_remainder_12 : List Ent := [(.iload_n 0, 1, 0, 0, 0)]
abbrev s_X2_remainder_13 : List Ent := [(.ireturn, 1, 0, 0, 0)]
def mt_X2_remainder : MT := ((2, 0, 1), yX2_remainder, cX2_remainder, 1, (some .int), [], [(0, s_X2_remainder_0), (12, s_X2_remainder_12), (13, s_X2_remainder_13)])
abbrev s_X2_plus_0 : List Ent := [(.iload_n 0, 1, 0, 0, 0), (.iload_n 1, 1, 0, 0, 0), (.iadd, 1, 0, 0, 0), (.sipush 10007, 3, 0, 0, 0), (.irem, 1, 0, 0, 0), (.ireturn, 1, 0, 0, 0)]
def mt_X2_plus : MT := ((2, 0, 2), yX2_plus, cX2_plus, 2, (some .int), [], [(0, s_X2_plus_0)])
abbrev s_X2_minus_0 : List Ent := [(.iload_n 0, 1, 0, 0, 0), (.sipush 10007, 3, 0, 0, 0), (.iadd, 1, 0, 0, 0), (.iload_n 1, 1, 0, 0, 0), (.isub, 1, 0, 0, 0), (.sipush 10007, 3, 0, 0, 0), (.irem, 1, 0, 0, 0), (.ireturn, 1, 0, 0, 0)]
def mt_X2_minus : MT := ((2, 0, 2), yX2_minus, cX2_minus, 2, (some .int), [], [(0, s_X2_minus_0)])
abbrev s_X2_times_0 : List Ent := [(.iload_n 0, 1, 0, 0, 0), (.iload_n 1, 1, 0, 0, 0), (.imul, 1, 0, 0, 0), (.sipush 10007, 3, 0, 0, 0), (.irem, 1, 0, 0, 0), (.ireturn, 1, 0, 0, 0)]
def mt_X2_times : MT := ((2, 0, 2), yX2_times, cX2_times, 2, (some .int), [], [(0, s_X2_times_0)])
abbrev s_X2_quotient_0 : List Ent := [(.iload_n 0, 1, 0, 0, 0), (.istore_n 2, 1, 0, 0, 0), (.iload_n 1, 1, 0, 0, 0), (.istore_n 3, 1, 0, 0, 0), (.iconst 0, 1, 0, 0, 0), (.istore 4, 2, 0, 0, 0)]
abbrev s_X2_quotient_7 : List Ent := [(.iload 4, 2, 0, 0, 0), (.bipush 14, 2, 0, 0, 0), (.if_icmp .ge 37, 3, 0, 0, 0), (.sipush 10005, 3, 0, 0, 0), (.iload 4, 2, 0, 0, 0), (.ishr, 1, 0, 0, 0), (.iconst 1, 1, 0, 0, 0), (.iand, 1, 0, 0, 0), (.iconst 1, 1, 0, 0, 0), (.if_icmp .ne 11, 3, 0, 0, 0), (.iload_n 2, 1, 0, 0, 0), (.iload_n 3, 1, 0, 0, 0), (.imul, 1, 0, 0, 0), (.sipush 10007, 3, 0, 0, 0), (.irem, 1, 0, 0, 0), (.istore_n 2, 1, 0, 0, 0)]
abbrev s_X2_quotient_34 : List Ent := [(.iload_n 3, 1, 0, 0, 0), (.iload_n 3, 1, 0, 0, 0), (.imul, 1, 0, 0, 0), (.sipush 10007, 3, 0, 0, 0), (.irem, 1, 0, 0, 0), (.istore_n 3, 1, 0, 0, 0), (.iinc 4 1, 3, 0, 0, 0), (.goto (-38), 3, 0, 0, 0)]
abbrev s_X2_quotient_48 : List Ent := [(.iload_n 2, 1, 0, 0, 0), (.ireturn, 1, 0, 0, 0)]
def mt_X2_quotient : MT := ((2, 0, 2), yX2_quotient, cX2_quotient, 5, (some .int), [], [(0, s_X2_quotient_0), (7, s_X2_quotient_7), (34, s_X2_quotient_34), (48, s_X2_quotient_48)])
abbrev s_X3_init_0 : List Ent := [(.aload_n 0, 1, 0, 0, 0), (.invokespecial 3, 3, 9999, 0, 0), (.aload_n 0, 1, 0, 0, 0), (.new 9, 3, 1, 0, 0), (.dup, 1, 0, 0, 0), (.invokespecial 11, 3, 6, 0, 1), (.putfield 12, 3, 2, 0, 3), (.aload_n 0, 1, 0, 0, 0), (.bipush 8, 2, 0, 0, 0), (.newarray .int, 2, 0, 0, 0), (.putfield 18, 3, 2, 1, 3), (.aload_n 0, 1, 0, 0, 0), (.bipush 8, 2, 0, 0, 0), (.newarray .int, 2, 0, 0, 0), (.putfield 22, 3, 2, 2, 3), (.aload_n 0, 1, 0, 0, 0), (.bipush 9, 2, 0, 0, 0), (.newarray .int, 2, 0, 0, 0), (.putfield 25, 3, 2, 3, 3), (.return_, 1, 0, 0, 0)]
def mt_X3_init : MT := ((3, 2, 0), yX3_init, cX3_init, 1, none, [], [(0, s_X3_init_0)])
abbrev s_X3_rankOfColumns_0 : List Ent := [(.aload_n 1, 1, 0, 0, 0), (.getfield 28, 3, 3, 0, 0), (.istore_n 2, 1, 0, 0, 0), (.iload_n 2, 1, 0, 0, 0), (.aload_n 1, 1, 0, 0, 0), (.getfield 34, 3, 3, 2, 3), (.aload_n 0, 1, 0, 0, 0), (.getfield 18, 3, 2, 1, 3), (.invokestatic 37, 3, 45, 3, 0), (.iconst 0, 1, 0, 0, 0), (.istore_n 3, 1, 0, 0, 0)]
abbrev s_X3_rankOfColumns_19 : List Ent := [(.iload_n 3, 1, 0, 0, 0), (.iload_n 2, 1, 0, 0, 0), (.if_icmp .ge 62, 3, 0, 0, 0), (.aload_n 0, 1, 0, 0, 0), (.getfield 12, 3, 2, 0, 3), (.iload_n 2, 1, 0, 0, 0), (.iload_n 3, 1, 0, 0, 0), (.aload_n 0, 1, 0, 0, 0), (.getfield 18, 3, 2, 1, 3), (.iload_n 3, 1, 0, 0, 0), (.iload_n 2, 1, 0, 0, 0), (.iconst 1, 1, 0, 0, 0), (.isub, 1, 0, 0, 0), (.if_icmp .ne 7, 3, 0, 0, 0), (.iconst 1, 1, 0, 0, 0), (.goto 4, 3, 0, 0, 0)]
abbrev s_X3_rankOfColumns_45 : List Ent := [(.iconst 0, 1, 0, 0, 0)]
abbrev s_X3_rankOfColumns_46 : List Ent := [(.invokevirtual 43, 3, 7, 4, 1), (.iload_n 2, 1, 0, 0, 0), (.aload_n 1, 1, 0, 0, 0), (.getfield 47, 3, 3, 1, 3), (.aload_n 0, 1, 0, 0, 0), (.getfield 18, 3, 2, 1, 3), (.aload_n 0, 1, 0, 0, 0), (.getfield 22, 3, 2, 2, 3), (.invokestatic 51, 3, 42, 4, 0), (.iload_n 2, 1, 0, 0, 0), (.aload_n 0, 1, 0, 0, 0), (.getfield 22, 3, 2, 2, 3), (.aload_n 0, 1, 0, 0, 0), (.getfield 18, 3, 2, 1, 3), (.invokestatic 37, 3, 45, 3, 0), (.iinc 3 1, 3, 0, 0, 0), (.goto (-61), 3, 0, 0, 0)]
abbrev s_X3_rankOfColumns_83 : List Ent := [(.aload_n 0, 1, 0, 0, 0), (.getfield 12, 3, 2, 0, 3), (.iload_n 2, 1, 0, 0, 0), (.invokevirtual 55, 3, 8, 1, 1), (.ireturn, 1, 0, 0, 0)]
def mt_X3_rankOfColumns : MT := ((3, 1, 1), yX3_rankOfColumns, cX3_rankOfColumns, 4, (some .int), [], [(0, s_X3_rankOfColumns_0), (19, s_X3_rankOfColumns_19), (45, s_X3_rankOfColumns_45), (46, s_X3_rankOfColumns_46), (83, s_X3_rankOfColumns_83)])
abbrev s_X3_byColumns_0 : List Ent := [(.aload_n 1, 1, 0, 0, 0), (.getfield 28, 3, 3, 0, 0), (.istore 5, 2, 0, 0, 0), (.aload_n 0, 1, 0, 0, 0), (.aload_n 1, 1, 0, 0, 0), (.invokevirtual 59, 3, 20, 1, 2), (.iload 5, 2, 0, 0, 0), (.if_icmp .ge 5, 3, 0, 0, 0), (.iconst 0, 1, 0, 0, 0), (.ireturn, 1, 1, 0, 0)]
abbrev s_X3_byColumns_18 : List Ent := [(.aload_n 0, 1, 0, 0, 0), (.getfield 12, 3, 2, 0, 3), (.iload 5, 2, 0, 0, 0), (.aload 4, 2, 0, 0, 0), (.invokevirtual 63, 3, 9, 2, 1), (.iconst 0, 1, 0, 0, 0), (.istore 6, 2, 0, 0, 0)]
abbrev s_X3_byColumns_32 : List Ent := [(.iload 6, 2, 0, 0, 0), (.iload 5, 2, 0, 0, 0), (.if_icmp .ge 72, 3, 0, 0, 0), (.iload 5, 2, 0, 0, 0), (.aload 4, 2, 0, 0, 0), (.aload_n 1, 1, 0, 0, 0), (.getfield 47, 3, 3, 1, 3), (.aload_n 0, 1, 0, 0, 0), (.getfield 22, 3, 2, 2, 3), (.invokestatic 67, 3, 43, 4, 0), (.iconst 0, 1, 0, 0, 0), (.istore 7, 2, 0, 0, 0)]
abbrev s_X3_byColumns_57 : List Ent := [(.iload 7, 2, 0, 0, 0), (.iload 5, 2, 0, 0, 0), (.if_icmp .ge 41, 3, 0, 0, 0), (.aload 4, 2, 0, 0, 0), (.iload 7, 2, 0, 0, 0), (.aload_n 0, 1, 0, 0, 0), (.getfield 22, 3, 2, 2, 3), (.iload 7, 2, 0, 0, 0), (.iaload, 1, 0, 0, 0), (.aload_n 2, 1, 0, 0, 0), (.getfield 71, 3, 6, 0, 3), (.iload_n 3, 1, 0, 0, 0), (.iload 6, 2, 0, 0, 0), (.iadd, 1, 0, 0, 0), (.iaload, 1, 0, 0, 0), (.aload 4, 2, 0, 0, 0), (.iload 7, 2, 0, 0, 0), (.iaload, 1, 0, 0, 0), (.invokestatic 76, 3, 17, 2, 0), (.invokestatic 82, 3, 16, 2, 0), (.iastore, 1, 0, 0, 0), (.iinc 7 1, 3, 0, 0, 0), (.goto (-42), 3, 0, 0, 0)]
abbrev s_X3_byColumns_102 : List Ent := [(.iinc 6 1, 3, 0, 0, 0), (.goto (-73), 3, 0, 0, 0)]
abbrev s_X3_byColumns_108 : List Ent := [(.iconst 1, 1, 0, 0, 0), (.ireturn, 1, 1, 0, 0)]
def mt_X3_byColumns : MT := ((3, 1, 4), yX3_byColumns, cX3_byColumns, 8, (some .boolean), [], [(0, s_X3_byColumns_0), (18, s_X3_byColumns_18), (32, s_X3_byColumns_32), (57, s_X3_byColumns_57), (102, s_X3_byColumns_102), (108, s_X3_byColumns_108)])
abbrev s_X3_byCoefficients_0 : List Ent := [(.aload_n 1, 1, 0, 0, 0), (.getfield 28, 3, 3, 0, 0), (.istore 5, 2, 0, 0, 0), (.aload_n 0, 1, 0, 0, 0), (.iload 5, 2, 0, 0, 0), (.aload_n 3, 1, 0, 0, 0), (.invokevirtual 85, 3, 23, 2, 2), (.iload 5, 2, 0, 0, 0), (.aload_n 1, 1, 0, 0, 0), (.getfield 34, 3, 3, 2, 3), (.aload_n 0, 1, 0, 0, 0), (.getfield 18, 3, 2, 1, 3), (.invokestatic 37, 3, 45, 3, 0), (.iload 5, 2, 0, 0, 0), (.iconst 1, 1, 0, 0, 0), (.isub, 1, 0, 0, 0), (.istore 6, 2, 0, 0, 0)]
abbrev s_X3_byCoefficients_32 : List Ent := [(.iload 6, 2, 0, 0, 0), (.ifCond .lt 102, 3, 0, 0, 0), (.aload_n 0, 1, 0, 0, 0), (.getfield 12, 3, 2, 0, 3), (.iload 5, 2, 0, 0, 0), (.iload 6, 2, 0, 0, 0), (.aload_n 0, 1, 0, 0, 0), (.getfield 18, 3, 2, 1, 3), (.aload_n 0, 1, 0, 0, 0), (.getfield 25, 3, 2, 3, 3), (.iload 6, 2, 0, 0, 0), (.iaload, 1, 0, 0, 0), (.aload_n 2, 1, 0, 0, 0), (.iload 6, 2, 0, 0, 0), (.iaload, 1, 0, 0, 0), (.invokestatic 82, 3, 16, 2, 0), (.invokevirtual 43, 3, 7, 4, 1), (.iload 5, 2, 0, 0, 0), (.aload_n 1, 1, 0, 0, 0), (.getfield 47, 3, 3, 1, 3), (.aload_n 0, 1, 0, 0, 0), (.getfield 18, 3, 2, 1, 3), (.aload_n 0, 1, 0, 0, 0), (.getfield 22, 3, 2, 2, 3), (.invokestatic 51, 3, 42, 4, 0), (.iconst 0, 1, 0, 0, 0), (.istore 7, 2, 0, 0, 0)]
abbrev s_X3_byCoefficients_86 : List Ent := [(.iload 7, 2, 0, 0, 0), (.iload 5, 2, 0, 0, 0), (.if_icmp .ge 40, 3, 0, 0, 0), (.aload_n 0, 1, 0, 0, 0), (.getfield 18, 3, 2, 1, 3), (.iload 7, 2, 0, 0, 0), (.aload_n 0, 1, 0, 0, 0), (.getfield 22, 3, 2, 2, 3), (.iload 7, 2, 0, 0, 0), (.iaload, 1, 0, 0, 0), (.aload_n 2, 1, 0, 0, 0), (.iload 6, 2, 0, 0, 0), (.iaload, 1, 0, 0, 0), (.aload_n 1, 1, 0, 0, 0), (.getfield 34, 3, 3, 2, 3), (.iload 7, 2, 0, 0, 0), (.iaload, 1, 0, 0, 0), (.invokestatic 76, 3, 17, 2, 0), (.invokestatic 89, 3, 15, 2, 0), (.iastore, 1, 0, 0, 0), (.iinc 7 1, 3, 0, 0, 0), (.goto (-41), 3, 0, 0, 0)]
abbrev s_X3_byCoefficients_130 : List Ent := [(.iinc 6 (-1), 3, 0, 0, 0), (.goto (-101), 3, 0, 0, 0)]
abbrev s_X3_byCoefficients_136 : List Ent := [(.aload_n 0, 1, 0, 0, 0), (.getfield 12, 3, 2, 0, 3), (.iload 5, 2, 0, 0, 0), (.invokevirtual 55, 3, 8, 1, 1), (.iload 5, 2, 0, 0, 0), (.if_icmp .ge 5, 3, 0, 0, 0), (.iconst 0, 1, 0, 0, 0), (.ireturn, 1, 1, 0, 0)]
abbrev s_X3_byCoefficients_152 : List Ent := [(.aload_n 0, 1, 0, 0, 0), (.getfield 12, 3, 2, 0, 3), (.iload 5, 2, 0, 0, 0), (.aload 4, 2, 0, 0, 0), (.invokevirtual 63, 3, 9, 2, 1), (.iconst 1, 1, 0, 0, 0), (.ireturn, 1, 1, 0, 0)]
def mt_X3_byCoefficients : MT := ((3, 1, 4), yX3_byCoefficients, cX3_byCoefficients, 8, (some .boolean), [], [(0, s_X3_byCoefficients_0), (32, s_X3_byCoefficients_32), (86, s_X3_byCoefficients_86), (130, s_X3_byCoefficients_130), (136, s_X3_byCoefficients_136), (152, s_X3_byCoefficients_152)])
abbrev s_X3_findAsked_0 : List Ent := [(.iload_n 1, 1, 0, 0, 0), (.iconst 1, 1, 0, 0, 0), (.iadd, 1, 0, 0, 0), (.aload_n 0, 1, 0, 0, 0), (.getfield 25, 3, 2, 3, 3), (.iconst 0, 1, 0, 0, 0), (.invokestatic 92, 3, 46, 3, 0), (.aload_n 0, 1, 0, 0, 0), (.getfield 25, 3, 2, 3, 3), (.iconst 0, 1, 0, 0, 0), (.iconst 1, 1, 0, 0, 0), (.iastore, 1, 0, 0, 0), (.iconst 0, 1, 0, 0, 0), (.istore_n 3, 1, 0, 0, 0)]
abbrev s_X3_findAsked_20 : List Ent := [(.iload_n 3, 1, 0, 0, 0), (.iload_n 1, 1, 0, 0, 0), (.if_icmp .ge 83, 3, 0, 0, 0), (.aload_n 2, 1, 0, 0, 0), (.getfield 71, 3, 6, 0, 3), (.iload_n 3, 1, 0, 0, 0), (.iaload, 1, 0, 0, 0), (.istore 4, 2, 0, 0, 0), (.iload_n 1, 1, 0, 0, 0), (.istore 5, 2, 0, 0, 0)]
abbrev s_X3_findAsked_36 : List Ent := [(.iload 5, 2, 0, 0, 0), (.ifCond .le 40, 3, 0, 0, 0), (.aload_n 0, 1, 0, 0, 0), (.getfield 25, 3, 2, 3, 3), (.iload 5, 2, 0, 0, 0), (.aload_n 0, 1, 0, 0, 0), (.getfield 25, 3, 2, 3, 3), (.iload 5, 2, 0, 0, 0), (.iconst 1, 1, 0, 0, 0), (.isub, 1, 0, 0, 0), (.iaload, 1, 0, 0, 0), (.iload 4, 2, 0, 0, 0), (.aload_n 0, 1, 0, 0, 0), (.getfield 25, 3, 2, 3, 3), (.iload 5, 2, 0, 0, 0), (.iaload, 1, 0, 0, 0), (.invokestatic 76, 3, 17, 2, 0), (.invokestatic 82, 3, 16, 2, 0), (.iastore, 1, 0, 0, 0), (.iinc 5 (-1), 3, 0, 0, 0), (.goto (-39), 3, 0, 0, 0)]
abbrev s_X3_findAsked_78 : List Ent := [(.aload_n 0, 1, 0, 0, 0), (.getfield 25, 3, 2, 3, 3), (.iconst 0, 1, 0, 0, 0), (.iconst 0, 1, 0, 0, 0), (.iload 4, 2, 0, 0, 0), (.aload_n 0, 1, 0, 0, 0), (.getfield 25, 3, 2, 3, 3), (.iconst 0, 1, 0, 0, 0), (.iaload, 1, 0, 0, 0), (.invokestatic 76, 3, 17, 2, 0), (.invokestatic 82, 3, 16, 2, 0), (.iastore, 1, 0, 0, 0), (.iinc 3 1, 3, 0, 0, 0), (.goto (-82), 3, 0, 0, 0)]
abbrev s_X3_findAsked_105 : List Ent := [(.return_, 1, 0, 0, 0)]
def mt_X3_findAsked : MT := ((3, 1, 2), yX3_findAsked, cX3_findAsked, 6, none, [], [(0, s_X3_findAsked_0), (20, s_X3_findAsked_20), (36, s_X3_findAsked_36), (78, s_X3_findAsked_78), (105, s_X3_findAsked_105)])
abbrev s_X4_init_0 : List Ent := [(.aload_n 0, 1, 0, 0, 0), (.invokespecial 3, 3, 9999, 0, 0), (.aload_n 0, 1, 0, 0, 0), (.bipush 8, 2, 0, 0, 0), (.bipush 8, 2, 0, 0, 0), (.multianewarray 9 2, 4, 0, 0, 0), (.putfield 11, 3, 3, 1, 3), (.aload_n 0, 1, 0, 0, 0), (.bipush 8, 2, 0, 0, 0), (.newarray .int, 2, 0, 0, 0), (.putfield 16, 3, 3, 2, 3), (.aload_n 0, 1, 0, 0, 0), (.bipush 8, 2, 0, 0, 0), (.newarray .int, 2, 0, 0, 0), (.putfield 20, 3, 3, 3, 3), (.return_, 1, 0, 0, 0)]
def mt_X4_init : MT := ((4, 2, 0), yX4_init, cX4_init, 1, none, [], [(0, s_X4_init_0)])
abbrev s_X4_read_0 : List Ent := [(.iload_n 1, 1, 0, 0, 0), (.tableswitch 50 0 2 #[27, 36, 43], 27, 0, 0, 0)]
abbrev s_X4_read_28 : List Ent := [(.aload_n 0, 1, 0, 0, 0), (.getfield 11, 3, 3, 1, 3), (.iload_n 2, 1, 0, 0, 0), (.aaload, 1, 0, 0, 0), (.iload_n 3, 1, 0, 0, 0), (.iaload, 1, 0, 0, 0), (.ireturn, 1, 0, 0, 0)]
abbrev s_X4_read_37 : List Ent := [(.aload_n 0, 1, 0, 0, 0), (.getfield 16, 3, 3, 2, 3), (.iload_n 2, 1, 0, 0, 0), (.iaload, 1, 0, 0, 0), (.ireturn, 1, 0, 0, 0)]
abbrev s_X4_read_44 : List Ent := [(.aload_n 0, 1, 0, 0, 0), (.getfield 20, 3, 3, 3, 3), (.iload_n 3, 1, 0, 0, 0), (.iaload, 1, 0, 0, 0), (.ireturn, 1, 0, 0, 0)]
abbrev s_X4_read_51 : List Ent := [(.aload_n 0, 1, 0, 0, 0), (.getfield 23, 3, 3, 4, 0), (.ireturn, 1, 0, 0, 0)]
def mt_X4_read : MT := ((4, 1, 3), yX4_read, cX4_read, 4, (some .int), [], [(0, s_X4_read_0), (28, s_X4_read_28), (37, s_X4_read_37), (44, s_X4_read_44), (51, s_X4_read_51)])
abbrev s_X4_write_0 : List Ent := [(.iload_n 1, 1, 0, 0, 0), (.tableswitch 62 0 2 #[27, 40, 51], 27, 0, 0, 0)]
abbrev s_X4_write_28 : List Ent := [(.aload_n 0, 1, 0, 0, 0), (.getfield 11, 3, 3, 1, 3), (.iload_n 2, 1, 0, 0, 0), (.aaload, 1, 0, 0, 0), (.iload_n 3, 1, 0, 0, 0), (.iload 4, 2, 0, 0, 0), (.iastore, 1, 0, 0, 0), (.goto 31, 3, 0, 0, 0)]
abbrev s_X4_write_41 : List Ent := [(.aload_n 0, 1, 0, 0, 0), (.getfield 16, 3, 3, 2, 3), (.iload_n 2, 1, 0, 0, 0), (.iload 4, 2, 0, 0, 0), (.iastore, 1, 0, 0, 0), (.goto 20, 3, 0, 0, 0)]
abbrev s_X4_write_52 : List Ent := [(.aload_n 0, 1, 0, 0, 0), (.getfield 20, 3, 3, 3, 3), (.iload_n 3, 1, 0, 0, 0), (.iload 4, 2, 0, 0, 0), (.iastore, 1, 0, 0, 0), (.goto 9, 3, 0, 0, 0)]
abbrev s_X4_write_63 : List Ent := [(.aload_n 0, 1, 0, 0, 0), (.iload 4, 2, 0, 0, 0), (.putfield 23, 3, 3, 4, 0)]
abbrev s_X4_write_69 : List Ent := [(.return_, 1, 0, 0, 0)]
def mt_X4_write : MT := ((4, 1, 4), yX4_write, cX4_write, 5, none, [], [(0, s_X4_write_0), (28, s_X4_write_28), (41, s_X4_write_41), (52, s_X4_write_52), (63, s_X4_write_63), (69, s_X4_write_69)])
abbrev s_X4_beSeries_0 : List Ent := [(.aload_n 0, 1, 0, 0, 0), (.iconst 0, 1, 0, 0, 0), (.aload_n 1, 1, 0, 0, 0), (.iconst 1, 1, 0, 0, 0), (.aload_n 2, 1, 0, 0, 0), (.getfield 23, 3, 3, 4, 0), (.invokevirtual 27, 3, 29, 4, 3), (.aload_n 0, 1, 0, 0, 0), (.aload_n 1, 1, 0, 0, 0), (.getfield 31, 3, 3, 0, 0), (.aload_n 2, 1, 0, 0, 0), (.aload_n 1, 1, 0, 0, 0), (.getfield 23, 3, 3, 4, 0), (.iconst 1, 1, 0, 0, 0), (.invokevirtual 27, 3, 29, 4, 3), (.iconst 0, 1, 0, 0, 0), (.istore_n 3, 1, 0, 0, 0)]
abbrev s_X4_beSeries_27 : List Ent := [(.iload_n 3, 1, 0, 0, 0), (.aload_n 2, 1, 0, 0, 0), (.getfield 31, 3, 3, 0, 0), (.if_icmp .ge 57, 3, 0, 0, 0), (.iconst 0, 1, 0, 0, 0), (.istore 4, 2, 0, 0, 0)]
abbrev s_X4_beSeries_38 : List Ent := [(.iload 4, 2, 0, 0, 0), (.aload_n 1, 1, 0, 0, 0), (.getfield 31, 3, 3, 0, 0), (.if_icmp .ge 39, 3, 0, 0, 0), (.aload_n 0, 1, 0, 0, 0), (.getfield 11, 3, 3, 1, 3), (.aload_n 1, 1, 0, 0, 0), (.getfield 31, 3, 3, 0, 0), (.iload_n 3, 1, 0, 0, 0), (.iadd, 1, 0, 0, 0), (.aaload, 1, 0, 0, 0), (.iload 4, 2, 0, 0, 0), (.aload_n 2, 1, 0, 0, 0), (.getfield 16, 3, 3, 2, 3), (.iload_n 3, 1, 0, 0, 0), (.iaload, 1, 0, 0, 0), (.aload_n 1, 1, 0, 0, 0), (.getfield 20, 3, 3, 3, 3), (.iload 4, 2, 0, 0, 0), (.iaload, 1, 0, 0, 0), (.invokestatic 34, 3, 17, 2, 0), (.iastore, 1, 0, 0, 0), (.iinc 4 1, 3, 0, 0, 0), (.goto (-42), 3, 0, 0, 0)]
abbrev s_X4_beSeries_83 : List Ent := [(.iinc 3 1, 3, 0, 0, 0), (.goto (-59), 3, 0, 0, 0)]
abbrev s_X4_beSeries_89 : List Ent := [(.aload_n 0, 1, 0, 0, 0), (.aload_n 2, 1, 0, 0, 0), (.getfield 23, 3, 3, 4, 0), (.aload_n 1, 1, 0, 0, 0), (.getfield 23, 3, 3, 4, 0), (.invokestatic 34, 3, 17, 2, 0), (.putfield 23, 3, 3, 4, 0), (.return_, 1, 0, 0, 0)]
def mt_X4_beSeries : MT := ((4, 1, 2), yX4_beSeries, cX4_beSeries, 5, none, [], [(0, s_X4_beSeries_0), (27, s_X4_beSeries_27), (38, s_X4_beSeries_38), (83, s_X4_beSeries_83), (89, s_X4_beSeries_89)])
abbrev s_X4_beSideBySide_0 : List Ent := [(.aload_n 0, 1, 0, 0, 0), (.iconst 0, 1, 0, 0, 0), (.aload_n 1, 1, 0, 0, 0), (.iconst 1, 1, 0, 0, 0), (.iconst 1, 1, 0, 0, 0), (.invokevirtual 27, 3, 29, 4, 3), (.aload_n 0, 1, 0, 0, 0), (.aload_n 1, 1, 0, 0, 0), (.getfield 31, 3, 3, 0, 0), (.aload_n 2, 1, 0, 0, 0), (.iconst 1, 1, 0, 0, 0), (.iconst 1, 1, 0, 0, 0), (.invokevirtual 27, 3, 29, 4, 3), (.aload_n 0, 1, 0, 0, 0), (.aload_n 1, 1, 0, 0, 0), (.getfield 23, 3, 3, 4, 0), (.aload_n 2, 1, 0, 0, 0), (.getfield 23, 3, 3, 4, 0), (.invokestatic 40, 3, 15, 2, 0), (.putfield 23, 3, 3, 4, 0), (.return_, 1, 0, 0, 0)]
def mt_X4_beSideBySide : MT := ((4, 1, 2), yX4_beSideBySide, cX4_beSideBySide, 3, none, [], [(0, s_X4_beSideBySide_0)])
abbrev s_X4_putPart_0 : List Ent := [(.iconst 0, 1, 0, 0, 0), (.istore 5, 2, 0, 0, 0)]
abbrev s_X4_putPart_3 : List Ent := [(.iload 5, 2, 0, 0, 0), (.aload_n 2, 1, 0, 0, 0), (.getfield 31, 3, 3, 0, 0), (.if_icmp .ge 92, 3, 0, 0, 0), (.iconst 0, 1, 0, 0, 0), (.istore 6, 2, 0, 0, 0)]
abbrev s_X4_putPart_15 : List Ent := [(.iload 6, 2, 0, 0, 0), (.aload_n 2, 1, 0, 0, 0), (.getfield 31, 3, 3, 0, 0), (.if_icmp .ge 33, 3, 0, 0, 0), (.aload_n 0, 1, 0, 0, 0), (.getfield 11, 3, 3, 1, 3), (.iload_n 1, 1, 0, 0, 0), (.iload 5, 2, 0, 0, 0), (.iadd, 1, 0, 0, 0), (.aaload, 1, 0, 0, 0), (.iload_n 1, 1, 0, 0, 0), (.iload 6, 2, 0, 0, 0), (.iadd, 1, 0, 0, 0), (.aload_n 2, 1, 0, 0, 0), (.getfield 11, 3, 3, 1, 3), (.iload 5, 2, 0, 0, 0), (.aaload, 1, 0, 0, 0), (.iload 6, 2, 0, 0, 0), (.iaload, 1, 0, 0, 0), (.iastore, 1, 0, 0, 0), (.iinc 6 1, 3, 0, 0, 0), (.goto (-36), 3, 0, 0, 0)]
abbrev s_X4_putPart_54 : List Ent := [(.aload_n 0, 1, 0, 0, 0), (.getfield 16, 3, 3, 2, 3), (.iload_n 1, 1, 0, 0, 0), (.iload 5, 2, 0, 0, 0), (.iadd, 1, 0, 0, 0), (.iload_n 3, 1, 0, 0, 0), (.aload_n 2, 1, 0, 0, 0), (.getfield 16, 3, 3, 2, 3), (.iload 5, 2, 0, 0, 0), (.iaload, 1, 0, 0, 0), (.invokestatic 34, 3, 17, 2, 0), (.iastore, 1, 0, 0, 0), (.aload_n 0, 1, 0, 0, 0), (.getfield 20, 3, 3, 3, 3), (.iload_n 1, 1, 0, 0, 0), (.iload 5, 2, 0, 0, 0), (.iadd, 1, 0, 0, 0), (.iload 4, 2, 0, 0, 0), (.aload_n 2, 1, 0, 0, 0), (.getfield 20, 3, 3, 3, 3), (.iload 5, 2, 0, 0, 0), (.iaload, 1, 0, 0, 0), (.invokestatic 34, 3, 17, 2, 0), (.iastore, 1, 0, 0, 0), (.iinc 5 1, 3, 0, 0, 0), (.goto (-95), 3, 0, 0, 0)]
abbrev s_X4_putPart_101 : List Ent := [(.return_, 1, 0, 0, 0)]
def mt_X4_putPart : MT := ((4, 1, 4), yX4_putPart, cX4_putPart, 7, none, [], [(0, s_X4_putPart_0), (3, s_X4_putPart_3), (15, s_X4_putPart_15), (54, s_X4_putPart_54), (101, s_X4_putPart_101)])
abbrev s_X4_beLoop_0 : List Ent := [(.iload_n 2, 1, 0, 0, 0), (.iload_n 3, 1, 0, 0, 0), (.invokestatic 43, 3, 18, 2, 0), (.istore 4, 2, 0, 0, 0), (.iconst 1, 1, 0, 0, 0), (.iload_n 3, 1, 0, 0, 0), (.invokestatic 43, 3, 18, 2, 0), (.istore 5, 2, 0, 0, 0), (.iconst 0, 1, 0, 0, 0), (.istore 6, 2, 0, 0, 0)]
abbrev s_X4_beLoop_17 : List Ent := [(.iload 6, 2, 0, 0, 0), (.aload_n 0, 1, 0, 0, 0), (.getfield 31, 3, 3, 0, 0), (.if_icmp .ge 114, 3, 0, 0, 0), (.iload 4, 2, 0, 0, 0), (.aload_n 1, 1, 0, 0, 0), (.getfield 16, 3, 3, 2, 3), (.iload 6, 2, 0, 0, 0), (.iaload, 1, 0, 0, 0), (.invokestatic 34, 3, 17, 2, 0), (.istore 7, 2, 0, 0, 0), (.iconst 0, 1, 0, 0, 0), (.istore 8, 2, 0, 0, 0)]
abbrev s_X4_beLoop_43 : List Ent := [(.iload 8, 2, 0, 0, 0), (.aload_n 0, 1, 0, 0, 0), (.getfield 31, 3, 3, 0, 0), (.if_icmp .ge 44, 3, 0, 0, 0), (.aload_n 0, 1, 0, 0, 0), (.getfield 11, 3, 3, 1, 3), (.iload 6, 2, 0, 0, 0), (.aaload, 1, 0, 0, 0), (.iload 8, 2, 0, 0, 0), (.aload_n 1, 1, 0, 0, 0), (.getfield 11, 3, 3, 1, 3), (.iload 6, 2, 0, 0, 0), (.aaload, 1, 0, 0, 0), (.iload 8, 2, 0, 0, 0), (.iaload, 1, 0, 0, 0), (.iload 7, 2, 0, 0, 0), (.aload_n 1, 1, 0, 0, 0), (.getfield 20, 3, 3, 3, 3), (.iload 8, 2, 0, 0, 0), (.iaload, 1, 0, 0, 0), (.invokestatic 34, 3, 17, 2, 0), (.invokestatic 46, 3, 16, 2, 0), (.iastore, 1, 0, 0, 0), (.iinc 8 1, 3, 0, 0, 0), (.goto (-47), 3, 0, 0, 0)]
abbrev s_X4_beLoop_93 : List Ent := [(.aload_n 0, 1, 0, 0, 0), (.getfield 16, 3, 3, 2, 3), (.iload 6, 2, 0, 0, 0), (.iload 5, 2, 0, 0, 0), (.aload_n 1, 1, 0, 0, 0), (.getfield 16, 3, 3, 2, 3), (.iload 6, 2, 0, 0, 0), (.iaload, 1, 0, 0, 0), (.invokestatic 34, 3, 17, 2, 0), (.iastore, 1, 0, 0, 0), (.aload_n 0, 1, 0, 0, 0), (.getfield 20, 3, 3, 3, 3), (.iload 6, 2, 0, 0, 0), (.iload 5, 2, 0, 0, 0), (.aload_n 1, 1, 0, 0, 0), (.getfield 20, 3, 3, 3, 3), (.iload 6, 2, 0, 0, 0), (.iaload, 1, 0, 0, 0), (.invokestatic 34, 3, 17, 2, 0), (.iastore, 1, 0, 0, 0), (.iinc 6 1, 3, 0, 0, 0), (.goto (-117), 3, 0, 0, 0)]
abbrev s_X4_beLoop_137 : List Ent := [(.aload_n 0, 1, 0, 0, 0), (.iload 5, 2, 0, 0, 0), (.aload_n 1, 1, 0, 0, 0), (.getfield 23, 3, 3, 4, 0), (.invokestatic 34, 3, 17, 2, 0), (.putfield 23, 3, 3, 4, 0), (.return_, 1, 0, 0, 0)]
def mt_X4_beLoop : MT := ((4, 1, 3), yX4_beLoop, cX4_beLoop, 9, none, [], [(0, s_X4_beLoop_0), (17, s_X4_beLoop_17), (43, s_X4_beLoop_43), (93, s_X4_beLoop_93), (137, s_X4_beLoop_137)])
abbrev s_X4_bePlaced_0 : List Ent := [(.iconst 0, 1, 0, 0, 0), (.istore_n 3, 1, 0, 0, 0)]
abbrev s_X4_bePlaced_2 : List Ent := [(.iload_n 3, 1, 0, 0, 0), (.aload_n 0, 1, 0, 0, 0), (.getfield 31, 3, 3, 0, 0), (.if_icmp .ge 85, 3, 0, 0, 0), (.iconst 0, 1, 0, 0, 0), (.istore 4, 2, 0, 0, 0)]
abbrev s_X4_bePlaced_13 : List Ent := [(.iload 4, 2, 0, 0, 0), (.aload_n 0, 1, 0, 0, 0), (.getfield 31, 3, 3, 0, 0), (.if_icmp .ge 43, 3, 0, 0, 0), (.aload_n 0, 1, 0, 0, 0), (.getfield 11, 3, 3, 1, 3), (.iload_n 3, 1, 0, 0, 0), (.aaload, 1, 0, 0, 0), (.iload 4, 2, 0, 0, 0), (.aload_n 1, 1, 0, 0, 0), (.getfield 11, 3, 3, 1, 3), (.iload_n 3, 1, 0, 0, 0), (.aaload, 1, 0, 0, 0), (.iload 4, 2, 0, 0, 0), (.iaload, 1, 0, 0, 0), (.aload_n 1, 1, 0, 0, 0), (.getfield 16, 3, 3, 2, 3), (.iload_n 3, 1, 0, 0, 0), (.iaload, 1, 0, 0, 0), (.aload_n 2, 1, 0, 0, 0), (.iload 4, 2, 0, 0, 0), (.iaload, 1, 0, 0, 0), (.invokestatic 34, 3, 17, 2, 0), (.invokestatic 46, 3, 16, 2, 0), (.iastore, 1, 0, 0, 0), (.iinc 4 1, 3, 0, 0, 0), (.goto (-46), 3, 0, 0, 0)]
abbrev s_X4_bePlaced_62 : List Ent := [(.aload_n 0, 1, 0, 0, 0), (.getfield 16, 3, 3, 2, 3), (.iload_n 3, 1, 0, 0, 0), (.aload_n 1, 1, 0, 0, 0), (.getfield 16, 3, 3, 2, 3), (.iload_n 3, 1, 0, 0, 0), (.iaload, 1, 0, 0, 0), (.iastore, 1, 0, 0, 0), (.aload_n 0, 1, 0, 0, 0), (.getfield 20, 3, 3, 3, 3), (.iload_n 3, 1, 0, 0, 0), (.aload_n 1, 1, 0, 0, 0), (.getfield 20, 3, 3, 3, 3), (.iload_n 3, 1, 0, 0, 0), (.iaload, 1, 0, 0, 0), (.iastore, 1, 0, 0, 0), (.iinc 3 1, 3, 0, 0, 0), (.goto (-87), 3, 0, 0, 0)]
abbrev s_X4_bePlaced_92 : List Ent := [(.aload_n 0, 1, 0, 0, 0), (.aload_n 1, 1, 0, 0, 0), (.getfield 23, 3, 3, 4, 0), (.putfield 23, 3, 3, 4, 0), (.return_, 1, 0, 0, 0)]
def mt_X4_bePlaced : MT := ((4, 1, 2), yX4_bePlaced, cX4_bePlaced, 5, none, [], [(0, s_X4_bePlaced_0), (2, s_X4_bePlaced_2), (13, s_X4_bePlaced_13), (62, s_X4_bePlaced_62), (92, s_X4_bePlaced_92)])
abbrev s_X4_beObserved_0 : List Ent := [(.aload_n 1, 1, 0, 0, 0), (.getfield 31, 3, 3, 0, 0), (.istore 4, 2, 0, 0, 0), (.iconst 0, 1, 0, 0, 0), (.istore 5, 2, 0, 0, 0)]
abbrev s_X4_beObserved_9 : List Ent := [(.iload 5, 2, 0, 0, 0), (.iload 4, 2, 0, 0, 0), (.if_icmp .ge 188, 3, 0, 0, 0), (.iconst 0, 1, 0, 0, 0), (.istore 6, 2, 0, 0, 0)]
abbrev s_X4_beObserved_19 : List Ent := [(.iload 6, 2, 0, 0, 0), (.iload 4, 2, 0, 0, 0), (.if_icmp .ge 127, 3, 0, 0, 0), (.aload_n 1, 1, 0, 0, 0), (.getfield 16, 3, 3, 2, 3), (.iload 5, 2, 0, 0, 0), (.iaload, 1, 0, 0, 0), (.aload_n 2, 1, 0, 0, 0), (.iload 6, 2, 0, 0, 0), (.iaload, 1, 0, 0, 0), (.invokestatic 34, 3, 17, 2, 0), (.istore 7, 2, 0, 0, 0), (.aload_n 3, 1, 0, 0, 0), (.iload 5, 2, 0, 0, 0), (.iaload, 1, 0, 0, 0), (.aload_n 1, 1, 0, 0, 0), (.getfield 20, 3, 3, 3, 3), (.iload 6, 2, 0, 0, 0), (.iaload, 1, 0, 0, 0), (.invokestatic 34, 3, 17, 2, 0), (.istore 8, 2, 0, 0, 0), (.aload_n 1, 1, 0, 0, 0), (.getfield 11, 3, 3, 1, 3), (.iload 5, 2, 0, 0, 0), (.aaload, 1, 0, 0, 0), (.iload 6, 2, 0, 0, 0), (.iaload, 1, 0, 0, 0), (.istore 9, 2, 0, 0, 0), (.aload_n 0, 1, 0, 0, 0), (.getfield 11, 3, 3, 1, 3), (.iload 5, 2, 0, 0, 0), (.aaload, 1, 0, 0, 0), (.iload 6, 2, 0, 0, 0), (.iload 9, 2, 0, 0, 0), (.iastore, 1, 0, 0, 0), (.aload_n 0, 1, 0, 0, 0), (.getfield 11, 3, 3, 1, 3), (.iload 5, 2, 0, 0, 0), (.aaload, 1, 0, 0, 0), (.iload 4, 2, 0, 0, 0), (.iload 6, 2, 0, 0, 0), (.iadd, 1, 0, 0, 0), (.iconst 0, 1, 0, 0, 0), (.iload 7, 2, 0, 0, 0), (.invokestatic 46, 3, 16, 2, 0), (.iastore, 1, 0, 0, 0), (.aload_n 0, 1, 0, 0, 0), (.getfield 11, 3, 3, 1, 3), (.iload 4, 2, 0, 0, 0), (.iload 5, 2, 0, 0, 0), (.iadd, 1, 0, 0, 0), (.aaload, 1, 0, 0, 0), (.iload 6, 2, 0, 0, 0), (.iload 8, 2, 0, 0, 0), (.iastore, 1, 0, 0, 0), (.aload_n 0, 1, 0, 0, 0), (.getfield 11, 3, 3, 1, 3), (.iload 4, 2, 0, 0, 0), (.iload 5, 2, 0, 0, 0), (.iadd, 1, 0, 0, 0), (.aaload, 1, 0, 0, 0), (.iload 4, 2, 0, 0, 0), (.iload 6, 2, 0, 0, 0), (.iadd, 1, 0, 0, 0), (.iload 9, 2, 0, 0, 0), (.iload 7, 2, 0, 0, 0), (.invokestatic 46, 3, 16, 2, 0), (.iload 8, 2, 0, 0, 0), (.invokestatic 46, 3, 16, 2, 0), (.iastore, 1, 0, 0, 0), (.iinc 6 1, 3, 0, 0, 0), (.goto (-128), 3, 0, 0, 0)]
abbrev s_X4_beObserved_150 : List Ent := [(.aload_n 0, 1, 0, 0, 0), (.getfield 16, 3, 3, 2, 3), (.iload 5, 2, 0, 0, 0), (.aload_n 1, 1, 0, 0, 0), (.getfield 16, 3, 3, 2, 3), (.iload 5, 2, 0, 0, 0), (.iaload, 1, 0, 0, 0), (.iastore, 1, 0, 0, 0), (.aload_n 0, 1, 0, 0, 0), (.getfield 16, 3, 3, 2, 3), (.iload 4, 2, 0, 0, 0), (.iload 5, 2, 0, 0, 0), (.iadd, 1, 0, 0, 0), (.aload_n 1, 1, 0, 0, 0), (.getfield 16, 3, 3, 2, 3), (.iload 5, 2, 0, 0, 0), (.iaload, 1, 0, 0, 0), (.iastore, 1, 0, 0, 0), (.aload_n 0, 1, 0, 0, 0), (.getfield 20, 3, 3, 3, 3), (.iload 5, 2, 0, 0, 0), (.aload_n 1, 1, 0, 0, 0), (.getfield 20, 3, 3, 3, 3), (.iload 5, 2, 0, 0, 0), (.iaload, 1, 0, 0, 0), (.iastore, 1, 0, 0, 0), (.iinc 5 1, 3, 0, 0, 0), (.goto (-189), 3, 0, 0, 0)]
abbrev s_X4_beObserved_201 : List Ent := [(.return_, 1, 0, 0, 0)]
def mt_X4_beObserved : MT := ((4, 1, 3), yX4_beObserved, cX4_beObserved, 10, none, [], [(0, s_X4_beObserved_0), (9, s_X4_beObserved_9), (19, s_X4_beObserved_19), (150, s_X4_beObserved_150), (201, s_X4_beObserved_201)])
abbrev s_X4_beTurned_0 : List Ent := [(.aload_n 0, 1, 0, 0, 0), (.aload_n 1, 1, 0, 0, 0), (.getfield 31, 3, 3, 0, 0), (.putfield 31, 3, 3, 0, 0), (.iconst 0, 1, 0, 0, 0), (.istore_n 2, 1, 0, 0, 0)]
abbrev s_X4_beTurned_10 : List Ent := [(.iload_n 2, 1, 0, 0, 0), (.aload_n 0, 1, 0, 0, 0), (.getfield 31, 3, 3, 0, 0), (.if_icmp .ge 53, 3, 0, 0, 0), (.iconst 0, 1, 0, 0, 0), (.istore_n 3, 1, 0, 0, 0)]
abbrev s_X4_beTurned_20 : List Ent := [(.iload_n 3, 1, 0, 0, 0), (.aload_n 0, 1, 0, 0, 0), (.getfield 31, 3, 3, 0, 0), (.if_icmp .ge 25, 3, 0, 0, 0), (.aload_n 0, 1, 0, 0, 0), (.getfield 11, 3, 3, 1, 3), (.iload_n 2, 1, 0, 0, 0), (.aaload, 1, 0, 0, 0), (.iload_n 3, 1, 0, 0, 0), (.aload_n 1, 1, 0, 0, 0), (.getfield 11, 3, 3, 1, 3), (.iload_n 3, 1, 0, 0, 0), (.aaload, 1, 0, 0, 0), (.iload_n 2, 1, 0, 0, 0), (.iaload, 1, 0, 0, 0), (.iastore, 1, 0, 0, 0), (.iinc 3 1, 3, 0, 0, 0), (.goto (-27), 3, 0, 0, 0)]
abbrev s_X4_beTurned_50 : List Ent := [(.aload_n 0, 1, 0, 0, 0), (.getfield 16, 3, 3, 2, 3), (.iload_n 2, 1, 0, 0, 0), (.aload_n 1, 1, 0, 0, 0), (.getfield 20, 3, 3, 3, 3), (.iload_n 2, 1, 0, 0, 0), (.iaload, 1, 0, 0, 0), (.iastore, 1, 0, 0, 0), (.iinc 2 1, 3, 0, 0, 0), (.goto (-55), 3, 0, 0, 0)]
abbrev s_X4_beTurned_68 : List Ent := [(.return_, 1, 0, 0, 0)]
def mt_X4_beTurned : MT := ((4, 1, 1), yX4_beTurned, cX4_beTurned, 4, none, [], [(0, s_X4_beTurned_0), (10, s_X4_beTurned_10), (20, s_X4_beTurned_20), (50, s_X4_beTurned_50), (68, s_X4_beTurned_68)])
abbrev s_X5_init_0 : List Ent := [(.aload_n 0, 1, 0, 0, 0), (.invokespecial 3, 3, 9999, 0, 0), (.aload_n 0, 1, 0, 0, 0), (.bipush 9, 2, 0, 0, 0), (.newarray .int, 2, 0, 0, 0), (.putfield 9, 3, 4, 0, 3), (.aload_n 0, 1, 0, 0, 0), (.bipush 9, 2, 0, 0, 0), (.newarray .int, 2, 0, 0, 0), (.putfield 15, 3, 4, 1, 3), (.aload_n 0, 1, 0, 0, 0), (.bipush 8, 2, 0, 0, 0), (.bipush 8, 2, 0, 0, 0), (.multianewarray 18 2, 4, 0, 0, 0), (.putfield 20, 3, 4, 2, 1), (.aload_n 0, 1, 0, 0, 0), (.bipush 8, 2, 0, 0, 0), (.bipush 8, 2, 0, 0, 0), (.multianewarray 18 2, 4, 0, 0, 0), (.putfield 23, 3, 4, 3, 1), (.aload_n 0, 1, 0, 0, 0), (.bipush 8, 2, 0, 0, 0), (.newarray .int, 2, 0, 0, 0), (.putfield 26, 3, 4, 4, 3), (.aload_n 0, 1, 0, 0, 0), (.bipush 9, 2, 0, 0, 0), (.newarray .int, 2, 0, 0, 0), (.putfield 29, 3, 4, 5, 1), (.aload_n 0, 1, 0, 0, 0), (.bipush 9, 2, 0, 0, 0), (.newarray .int, 2, 0, 0, 0), (.putfield 32, 3, 4, 6, 1), (.return_, 1, 0, 0, 0)]
def mt_X5_init : MT := ((5, 2, 0), yX5_init, cX5_init, 1, none, [], [(0, s_X5_init_0)])
abbrev s_X5_find_0 : List Ent := [(.aload_n 1, 1, 0, 0, 0), (.getfield 35, 3, 3, 0, 0), (.istore_n 2, 1, 0, 0, 0), (.aload_n 0, 1, 0, 0, 0), (.getfield 9, 3, 4, 0, 3), (.iload_n 2, 1, 0, 0, 0), (.iconst 1, 1, 0, 0, 0), (.iastore, 1, 0, 0, 0), (.aload_n 0, 1, 0, 0, 0), (.getfield 15, 3, 4, 1, 3), (.iload_n 2, 1, 0, 0, 0), (.iconst 0, 1, 0, 0, 0), (.iastore, 1, 0, 0, 0), (.iconst 0, 1, 0, 0, 0), (.istore_n 3, 1, 0, 0, 0)]
abbrev s_X5_find_21 : List Ent := [(.iload_n 3, 1, 0, 0, 0), (.iload_n 2, 1, 0, 0, 0), (.if_icmp .ge 29, 3, 0, 0, 0), (.iload_n 2, 1, 0, 0, 0), (.aload_n 0, 1, 0, 0, 0), (.getfield 20, 3, 4, 2, 1), (.iload_n 3, 1, 0, 0, 0), (.aaload, 1, 0, 0, 0), (.iconst 0, 1, 0, 0, 0), (.invokestatic 41, 3, 46, 3, 0), (.aload_n 0, 1, 0, 0, 0), (.getfield 20, 3, 4, 2, 1), (.iload_n 3, 1, 0, 0, 0), (.aaload, 1, 0, 0, 0), (.iload_n 3, 1, 0, 0, 0), (.iconst 1, 1, 0, 0, 0), (.iastore, 1, 0, 0, 0), (.iinc 3 1, 3, 0, 0, 0), (.goto (-28), 3, 0, 0, 0)]
abbrev s_X5_find_52 : List Ent := [(.iconst 1, 1, 0, 0, 0), (.istore_n 3, 1, 0, 0, 0)]
abbrev s_X5_find_54 : List Ent := [(.iload_n 3, 1, 0, 0, 0), (.iload_n 2, 1, 0, 0, 0), (.if_icmp .gt 119, 3, 0, 0, 0), (.iload_n 2, 1, 0, 0, 0), (.aload_n 0, 1, 0, 0, 0), (.getfield 20, 3, 4, 2, 1), (.aload_n 1, 1, 0, 0, 0), (.getfield 47, 3, 3, 2, 3), (.aload_n 0, 1, 0, 0, 0), (.getfield 26, 3, 4, 4, 3), (.invokestatic 48, 3, 42, 4, 0), (.aload_n 0, 1, 0, 0, 0), (.getfield 15, 3, 4, 1, 3), (.iload_n 2, 1, 0, 0, 0), (.iload_n 3, 1, 0, 0, 0), (.isub, 1, 0, 0, 0), (.iload_n 2, 1, 0, 0, 0), (.aload_n 1, 1, 0, 0, 0), (.getfield 52, 3, 3, 3, 3), (.aload_n 0, 1, 0, 0, 0), (.getfield 26, 3, 4, 4, 3), (.invokestatic 55, 3, 41, 3, 0), (.iastore, 1, 0, 0, 0), (.iload_n 2, 1, 0, 0, 0), (.aload_n 1, 1, 0, 0, 0), (.getfield 59, 3, 3, 1, 3), (.aload_n 0, 1, 0, 0, 0), (.getfield 20, 3, 4, 2, 1), (.aload_n 0, 1, 0, 0, 0), (.getfield 23, 3, 4, 3, 1), (.invokestatic 60, 3, 44, 4, 0), (.iconst 0, 1, 0, 0, 0), (.iload_n 2, 1, 0, 0, 0), (.aload_n 0, 1, 0, 0, 0), (.getfield 23, 3, 4, 3, 1), (.invokestatic 64, 3, 36, 2, 0), (.invokestatic 68, 3, 16, 2, 0), (.iload_n 3, 1, 0, 0, 0), (.invokestatic 74, 3, 18, 2, 0), (.istore 4, 2, 0, 0, 0), (.aload_n 0, 1, 0, 0, 0), (.getfield 9, 3, 4, 0, 3), (.iload_n 2, 1, 0, 0, 0), (.iload_n 3, 1, 0, 0, 0), (.isub, 1, 0, 0, 0), (.iload 4, 2, 0, 0, 0), (.iastore, 1, 0, 0, 0), (.iload_n 2, 1, 0, 0, 0), (.aload_n 0, 1, 0, 0, 0), (.getfield 23, 3, 4, 3, 1), (.iload 4, 2, 0, 0, 0), (.invokestatic 77, 3, 37, 3, 0), (.aload_n 0, 1, 0, 0, 0), (.getfield 20, 3, 4, 2, 1), (.astore 5, 2, 0, 0, 0), (.aload_n 0, 1, 0, 0, 0), (.aload_n 0, 1, 0, 0, 0), (.getfield 23, 3, 4, 3, 1), (.putfield 20, 3, 4, 2, 1), (.aload_n 0, 1, 0, 0, 0), (.aload 5, 2, 0, 0, 0), (.putfield 23, 3, 4, 3, 1), (.iinc 3 1, 3, 0, 0, 0), (.goto (-118), 3, 0, 0, 0)]
abbrev s_X5_find_175 : List Ent := [(.return_, 1, 0, 0, 0)]
def mt_X5_find : MT := ((5, 1, 1), yX5_find, cX5_find, 6, none, [], [(0, s_X5_find_0), (21, s_X5_find_21), (52, s_X5_find_52), (54, s_X5_find_54), (175, s_X5_find_175)])
abbrev s_X5_trace_0 : List Ent := [(.iconst 0, 1, 0, 0, 0), (.istore_n 2, 1, 0, 0, 0), (.iconst 0, 1, 0, 0, 0), (.istore_n 3, 1, 0, 0, 0)]
abbrev s_X5_trace_4 : List Ent := [(.iload_n 3, 1, 0, 0, 0), (.iload_n 0, 1, 0, 0, 0), (.if_icmp .ge 19, 3, 0, 0, 0), (.iload_n 2, 1, 0, 0, 0), (.aload_n 1, 1, 0, 0, 0), (.iload_n 3, 1, 0, 0, 0), (.aaload, 1, 0, 0, 0), (.iload_n 3, 1, 0, 0, 0), (.iaload, 1, 0, 0, 0), (.invokestatic 81, 3, 15, 2, 0), (.istore_n 2, 1, 0, 0, 0), (.iinc 3 1, 3, 0, 0, 0), (.goto (-18), 3, 0, 0, 0)]
abbrev s_X5_trace_25 : List Ent := [(.iload_n 2, 1, 0, 0, 0), (.ireturn, 1, 0, 0, 0)]
def mt_X5_trace : MT := ((5, 0, 2), yX5_trace, cX5_trace, 4, (some .int), [], [(0, s_X5_trace_0), (4, s_X5_trace_4), (25, s_X5_trace_25)])
abbrev s_X5_addToDiagonal_0 : List Ent := [(.iconst 0, 1, 0, 0, 0), (.istore_n 3, 1, 0, 0, 0)]
abbrev s_X5_addToDiagonal_2 : List Ent := [(.iload_n 3, 1, 0, 0, 0), (.iload_n 0, 1, 0, 0, 0), (.if_icmp .ge 23, 3, 0, 0, 0), (.aload_n 1, 1, 0, 0, 0), (.iload_n 3, 1, 0, 0, 0), (.aaload, 1, 0, 0, 0), (.iload_n 3, 1, 0, 0, 0), (.aload_n 1, 1, 0, 0, 0), (.iload_n 3, 1, 0, 0, 0), (.aaload, 1, 0, 0, 0), (.iload_n 3, 1, 0, 0, 0), (.iaload, 1, 0, 0, 0), (.iload_n 2, 1, 0, 0, 0), (.invokestatic 81, 3, 15, 2, 0), (.iastore, 1, 0, 0, 0), (.iinc 3 1, 3, 0, 0, 0), (.goto (-22), 3, 0, 0, 0)]
abbrev s_X5_addToDiagonal_27 : List Ent := [(.return_, 1, 0, 0, 0)]
def mt_X5_addToDiagonal : MT := ((5, 0, 3), yX5_addToDiagonal, cX5_addToDiagonal, 4, none, [], [(0, s_X5_addToDiagonal_0), (2, s_X5_addToDiagonal_2), (27, s_X5_addToDiagonal_27)])
abbrev s_X5_commonDegree_0 : List Ent := [(.iload_n 1, 1, 0, 0, 0), (.iconst 1, 1, 0, 0, 0), (.iadd, 1, 0, 0, 0), (.aload_n 0, 1, 0, 0, 0), (.getfield 9, 3, 4, 0, 3), (.aload_n 0, 1, 0, 0, 0), (.getfield 29, 3, 4, 5, 1), (.invokestatic 84, 3, 45, 3, 0), (.iload_n 1, 1, 0, 0, 0), (.iconst 1, 1, 0, 0, 0), (.iadd, 1, 0, 0, 0), (.aload_n 0, 1, 0, 0, 0), (.getfield 15, 3, 4, 1, 3), (.aload_n 0, 1, 0, 0, 0), (.getfield 32, 3, 4, 6, 1), (.invokestatic 84, 3, 45, 3, 0), (.iload_n 1, 1, 0, 0, 0), (.istore_n 2, 1, 0, 0, 0), (.aload_n 0, 1, 0, 0, 0), (.getfield 32, 3, 4, 6, 1), (.iload_n 1, 1, 0, 0, 0), (.iconst 1, 1, 0, 0, 0), (.isub, 1, 0, 0, 0), (.invokestatic 88, 3, 40, 2, 0), (.istore_n 3, 1, 0, 0, 0), (.iconst 0, 1, 0, 0, 0), (.istore 4, 2, 0, 0, 0)]
abbrev s_X5_commonDegree_44 : List Ent := [(.iload 4, 2, 0, 0, 0), (.bipush 8, 2, 0, 0, 0), (.if_icmp .ge 56, 3, 0, 0, 0), (.iload_n 3, 1, 0, 0, 0), (.ifCond .lt 52, 3, 0, 0, 0), (.aload_n 0, 1, 0, 0, 0), (.iload_n 2, 1, 0, 0, 0), (.iload_n 3, 1, 0, 0, 0), (.invokevirtual 92, 3, 39, 2, 4), (.aload_n 0, 1, 0, 0, 0), (.getfield 29, 3, 4, 5, 1), (.iload_n 3, 1, 0, 0, 0), (.iconst 1, 1, 0, 0, 0), (.isub, 1, 0, 0, 0), (.invokestatic 88, 3, 40, 2, 0), (.istore 5, 2, 0, 0, 0), (.aload_n 0, 1, 0, 0, 0), (.getfield 29, 3, 4, 5, 1), (.astore 6, 2, 0, 0, 0), (.aload_n 0, 1, 0, 0, 0), (.aload_n 0, 1, 0, 0, 0), (.getfield 32, 3, 4, 6, 1), (.putfield 29, 3, 4, 5, 1), (.aload_n 0, 1, 0, 0, 0), (.aload 6, 2, 0, 0, 0), (.putfield 32, 3, 4, 6, 1), (.iload_n 3, 1, 0, 0, 0), (.istore_n 2, 1, 0, 0, 0), (.iload 5, 2, 0, 0, 0), (.istore_n 3, 1, 0, 0, 0), (.iinc 4 1, 3, 0, 0, 0), (.goto (-57), 3, 0, 0, 0)]
abbrev s_X5_commonDegree_104 : List Ent := [(.iload_n 2, 1, 0, 0, 0), (.ireturn, 1, 0, 0, 0)]
def mt_X5_commonDegree : MT := ((5, 1, 1), yX5_commonDegree, cX5_commonDegree, 7, (some .int), [], [(0, s_X5_commonDegree_0), (44, s_X5_commonDegree_44), (104, s_X5_commonDegree_104)])
abbrev s_X5_takeRest_0 : List Ent := [(.iconst 1, 1, 0, 0, 0), (.aload_n 0, 1, 0, 0, 0), (.getfield 32, 3, 4, 6, 1), (.iload_n 2, 1, 0, 0, 0), (.iaload, 1, 0, 0, 0), (.invokestatic 74, 3, 18, 2, 0), (.istore_n 3, 1, 0, 0, 0), (.iload_n 1, 1, 0, 0, 0), (.iload_n 2, 1, 0, 0, 0), (.isub, 1, 0, 0, 0), (.istore 4, 2, 0, 0, 0)]
abbrev s_X5_takeRest_16 : List Ent := [(.iload 4, 2, 0, 0, 0), (.ifCond .lt 74, 3, 0, 0, 0), (.iload_n 3, 1, 0, 0, 0), (.aload_n 0, 1, 0, 0, 0), (.getfield 29, 3, 4, 5, 1), (.iload_n 2, 1, 0, 0, 0), (.iload 4, 2, 0, 0, 0), (.iadd, 1, 0, 0, 0), (.iaload, 1, 0, 0, 0), (.invokestatic 96, 3, 17, 2, 0), (.istore 5, 2, 0, 0, 0), (.iconst 0, 1, 0, 0, 0), (.istore 6, 2, 0, 0, 0)]
abbrev s_X5_takeRest_39 : List Ent := [(.iload 6, 2, 0, 0, 0), (.iload_n 2, 1, 0, 0, 0), (.if_icmp .gt 44, 3, 0, 0, 0), (.aload_n 0, 1, 0, 0, 0), (.getfield 29, 3, 4, 5, 1), (.iload 6, 2, 0, 0, 0), (.iload 4, 2, 0, 0, 0), (.iadd, 1, 0, 0, 0), (.aload_n 0, 1, 0, 0, 0), (.getfield 29, 3, 4, 5, 1), (.iload 6, 2, 0, 0, 0), (.iload 4, 2, 0, 0, 0), (.iadd, 1, 0, 0, 0), (.iaload, 1, 0, 0, 0), (.iload 5, 2, 0, 0, 0), (.aload_n 0, 1, 0, 0, 0), (.getfield 32, 3, 4, 6, 1), (.iload 6, 2, 0, 0, 0), (.iaload, 1, 0, 0, 0), (.invokestatic 96, 3, 17, 2, 0), (.invokestatic 68, 3, 16, 2, 0), (.iastore, 1, 0, 0, 0), (.iinc 6 1, 3, 0, 0, 0), (.goto (-44), 3, 0, 0, 0)]
abbrev s_X5_takeRest_86 : List Ent := [(.iinc 4 (-1), 3, 0, 0, 0), (.goto (-73), 3, 0, 0, 0)]
abbrev s_X5_takeRest_92 : List Ent := [(.return_, 1, 0, 0, 0)]
def mt_X5_takeRest : MT := ((5, 1, 2), yX5_takeRest, cX5_takeRest, 7, none, [], [(0, s_X5_takeRest_0), (16, s_X5_takeRest_16), (39, s_X5_takeRest_39), (86, s_X5_takeRest_86), (92, s_X5_takeRest_92)])
abbrev s_X5_degree_0 : List Ent := [(.iload_n 1, 1, 0, 0, 0), (.istore_n 2, 1, 0, 0, 0)]
abbrev s_X5_degree_2 : List Ent := [(.iload_n 2, 1, 0, 0, 0), (.ifCond .lt 15, 3, 0, 0, 0), (.aload_n 0, 1, 0, 0, 0), (.iload_n 2, 1, 0, 0, 0), (.iaload, 1, 0, 0, 0), (.ifCond .ne 9, 3, 0, 0, 0), (.iinc 2 (-1), 3, 0, 0, 0), (.goto (-13), 3, 0, 0, 0)]
abbrev s_X5_degree_18 : List Ent := [(.iload_n 2, 1, 0, 0, 0), (.ireturn, 1, 0, 0, 0)]
def mt_X5_degree : MT := ((5, 0, 2), yX5_degree, cX5_degree, 3, (some .int), [], [(0, s_X5_degree_0), (2, s_X5_degree_2), (18, s_X5_degree_18)])
abbrev s_X6_product_0 : List Ent := [(.iconst 0, 1, 0, 0, 0), (.istore_n 3, 1, 0, 0, 0), (.iconst 0, 1, 0, 0, 0), (.istore 4, 2, 0, 0, 0)]
abbrev s_X6_product_5 : List Ent := [(.iload 4, 2, 0, 0, 0), (.iload_n 0, 1, 0, 0, 0), (.if_icmp .ge 25, 3, 0, 0, 0), (.iload_n 3, 1, 0, 0, 0), (.aload_n 1, 1, 0, 0, 0), (.iload 4, 2, 0, 0, 0), (.iaload, 1, 0, 0, 0), (.aload_n 2, 1, 0, 0, 0), (.iload 4, 2, 0, 0, 0), (.iaload, 1, 0, 0, 0), (.invokestatic 7, 3, 17, 2, 0), (.invokestatic 13, 3, 15, 2, 0), (.istore_n 3, 1, 0, 0, 0), (.iinc 4 1, 3, 0, 0, 0), (.goto (-25), 3, 0, 0, 0)]
abbrev s_X6_product_33 : List Ent := [(.iload_n 3, 1, 0, 0, 0), (.ireturn, 1, 0, 0, 0)]
def mt_X6_product : MT := ((6, 0, 3), yX6_product, cX6_product, 5, (some .int), [], [(0, s_X6_product_0), (5, s_X6_product_5), (33, s_X6_product_33)])
abbrev s_X6_squareByColumn_0 : List Ent := [(.iconst 0, 1, 0, 0, 0), (.istore 4, 2, 0, 0, 0)]
abbrev s_X6_squareByColumn_3 : List Ent := [(.iload 4, 2, 0, 0, 0), (.iload_n 0, 1, 0, 0, 0), (.if_icmp .ge 22, 3, 0, 0, 0), (.aload_n 3, 1, 0, 0, 0), (.iload 4, 2, 0, 0, 0), (.iload_n 0, 1, 0, 0, 0), (.aload_n 1, 1, 0, 0, 0), (.iload 4, 2, 0, 0, 0), (.aaload, 1, 0, 0, 0), (.aload_n 2, 1, 0, 0, 0), (.invokestatic 16, 3, 41, 3, 0), (.iastore, 1, 0, 0, 0), (.iinc 4 1, 3, 0, 0, 0), (.goto (-22), 3, 0, 0, 0)]
abbrev s_X6_squareByColumn_28 : List Ent := [(.return_, 1, 0, 0, 0)]
def mt_X6_squareByColumn : MT := ((6, 0, 4), yX6_squareByColumn, cX6_squareByColumn, 5, none, [], [(0, s_X6_squareByColumn_0), (3, s_X6_squareByColumn_3), (28, s_X6_squareByColumn_28)])
abbrev s_X6_rowBySquare_0 : List Ent := [(.iconst 0, 1, 0, 0, 0), (.istore 4, 2, 0, 0, 0)]
abbrev s_X6_rowBySquare_3 : List Ent := [(.iload 4, 2, 0, 0, 0), (.iload_n 0, 1, 0, 0, 0), (.if_icmp .ge 54, 3, 0, 0, 0), (.iconst 0, 1, 0, 0, 0), (.istore 5, 2, 0, 0, 0), (.iconst 0, 1, 0, 0, 0), (.istore 6, 2, 0, 0, 0)]
abbrev s_X6_rowBySquare_15 : List Ent := [(.iload 6, 2, 0, 0, 0), (.iload_n 0, 1, 0, 0, 0), (.if_icmp .ge 30, 3, 0, 0, 0), (.iload 5, 2, 0, 0, 0), (.aload_n 1, 1, 0, 0, 0), (.iload 6, 2, 0, 0, 0), (.iaload, 1, 0, 0, 0), (.aload_n 2, 1, 0, 0, 0), (.iload 6, 2, 0, 0, 0), (.aaload, 1, 0, 0, 0), (.iload 4, 2, 0, 0, 0), (.iaload, 1, 0, 0, 0), (.invokestatic 7, 3, 17, 2, 0), (.invokestatic 13, 3, 15, 2, 0), (.istore 5, 2, 0, 0, 0), (.iinc 6 1, 3, 0, 0, 0), (.goto (-30), 3, 0, 0, 0)]
abbrev s_X6_rowBySquare_48 : List Ent := [(.aload_n 3, 1, 0, 0, 0), (.iload 4, 2, 0, 0, 0), (.iload 5, 2, 0, 0, 0), (.iastore, 1, 0, 0, 0), (.iinc 4 1, 3, 0, 0, 0), (.goto (-54), 3, 0, 0, 0)]
abbrev s_X6_rowBySquare_60 : List Ent := [(.return_, 1, 0, 0, 0)]
def mt_X6_rowBySquare : MT := ((6, 0, 4), yX6_rowBySquare, cX6_rowBySquare, 7, none, [], [(0, s_X6_rowBySquare_0), (3, s_X6_rowBySquare_3), (15, s_X6_rowBySquare_15), (48, s_X6_rowBySquare_48), (60, s_X6_rowBySquare_60)])
abbrev s_X6_squareBySquare_0 : List Ent := [(.iconst 0, 1, 0, 0, 0), (.istore 4, 2, 0, 0, 0)]
abbrev s_X6_squareBySquare_3 : List Ent := [(.iload 4, 2, 0, 0, 0), (.iload_n 0, 1, 0, 0, 0), (.if_icmp .ge 22, 3, 0, 0, 0), (.iload_n 0, 1, 0, 0, 0), (.aload_n 1, 1, 0, 0, 0), (.iload 4, 2, 0, 0, 0), (.aaload, 1, 0, 0, 0), (.aload_n 2, 1, 0, 0, 0), (.aload_n 3, 1, 0, 0, 0), (.iload 4, 2, 0, 0, 0), (.aaload, 1, 0, 0, 0), (.invokestatic 22, 3, 43, 4, 0), (.iinc 4 1, 3, 0, 0, 0), (.goto (-22), 3, 0, 0, 0)]
abbrev s_X6_squareBySquare_28 : List Ent := [(.return_, 1, 0, 0, 0)]
def mt_X6_squareBySquare : MT := ((6, 0, 4), yX6_squareBySquare, cX6_squareBySquare, 5, none, [], [(0, s_X6_squareBySquare_0), (3, s_X6_squareBySquare_3), (28, s_X6_squareBySquare_28)])
abbrev s_X6_copy_0 : List Ent := [(.iconst 0, 1, 0, 0, 0), (.istore_n 3, 1, 0, 0, 0)]
abbrev s_X6_copy_2 : List Ent := [(.iload_n 3, 1, 0, 0, 0), (.iload_n 0, 1, 0, 0, 0), (.if_icmp .ge 15, 3, 0, 0, 0), (.aload_n 2, 1, 0, 0, 0), (.iload_n 3, 1, 0, 0, 0), (.aload_n 1, 1, 0, 0, 0), (.iload_n 3, 1, 0, 0, 0), (.iaload, 1, 0, 0, 0), (.iastore, 1, 0, 0, 0), (.iinc 3 1, 3, 0, 0, 0), (.goto (-14), 3, 0, 0, 0)]
abbrev s_X6_copy_19 : List Ent := [(.return_, 1, 0, 0, 0)]
def mt_X6_copy : MT := ((6, 0, 3), yX6_copy, cX6_copy, 4, none, [], [(0, s_X6_copy_0), (2, s_X6_copy_2), (19, s_X6_copy_19)])
abbrev s_X6_fill_0 : List Ent := [(.iconst 0, 1, 0, 0, 0), (.istore_n 3, 1, 0, 0, 0)]
abbrev s_X6_fill_2 : List Ent := [(.iload_n 3, 1, 0, 0, 0), (.iload_n 0, 1, 0, 0, 0), (.if_icmp .ge 13, 3, 0, 0, 0), (.aload_n 1, 1, 0, 0, 0), (.iload_n 3, 1, 0, 0, 0), (.iload_n 2, 1, 0, 0, 0), (.iastore, 1, 0, 0, 0), (.iinc 3 1, 3, 0, 0, 0), (.goto (-12), 3, 0, 0, 0)]
abbrev s_X6_fill_17 : List Ent := [(.return_, 1, 0, 0, 0)]
def mt_X6_fill : MT := ((6, 0, 3), yX6_fill, cX6_fill, 4, none, [], [(0, s_X6_fill_0), (2, s_X6_fill_2), (17, s_X6_fill_17)])
abbrev s_X7_init_0 : List Ent := [(.aload_n 0, 1, 0, 0, 0), (.invokespecial 3, 3, 9999, 0, 0), (.aload_n 0, 1, 0, 0, 0), (.bipush 8, 2, 0, 0, 0), (.bipush 8, 2, 0, 0, 0), (.multianewarray 9 2, 4, 0, 0, 0), (.putfield 11, 3, 5, 0, 3), (.aload_n 0, 1, 0, 0, 0), (.bipush 8, 2, 0, 0, 0), (.bipush 8, 2, 0, 0, 0), (.multianewarray 9 2, 4, 0, 0, 0), (.putfield 16, 3, 5, 1, 3), (.aload_n 0, 1, 0, 0, 0), (.bipush 20, 2, 0, 0, 0), (.bipush 8, 2, 0, 0, 0), (.multianewarray 9 2, 4, 0, 0, 0), (.putfield 19, 3, 5, 2, 3), (.aload_n 0, 1, 0, 0, 0), (.bipush 8, 2, 0, 0, 0), (.newarray .int, 2, 0, 0, 0), (.putfield 22, 3, 5, 3, 3), (.aload_n 0, 1, 0, 0, 0), (.bipush 8, 2, 0, 0, 0), (.newarray .int, 2, 0, 0, 0), (.putfield 26, 3, 5, 4, 3), (.aload_n 0, 1, 0, 0, 0), (.bipush 8, 2, 0, 0, 0), (.newarray .int, 2, 0, 0, 0), (.putfield 29, 3, 5, 5, 3), (.aload_n 0, 1, 0, 0, 0), (.bipush 8, 2, 0, 0, 0), (.newarray .int, 2, 0, 0, 0), (.putfield 32, 3, 5, 6, 3), (.return_, 1, 0, 0, 0)]
def mt_X7_init : MT := ((7, 2, 0), yX7_init, cX7_init, 1, none, [], [(0, s_X7_init_0)])
abbrev s_X7_find_0 : List Ent := [(.aload_n 0, 1, 0, 0, 0), (.aload_n 1, 1, 0, 0, 0), (.iload_n 2, 1, 0, 0, 0), (.invokevirtual 35, 3, 49, 2, 5), (.iconst 0, 1, 0, 0, 0), (.istore 5, 2, 0, 0, 0)]
abbrev s_X7_find_9 : List Ent := [(.iload 5, 2, 0, 0, 0), (.iload 4, 2, 0, 0, 0), (.if_icmp .ge 71, 3, 0, 0, 0), (.aload_n 1, 1, 0, 0, 0), (.getfield 39, 3, 3, 0, 0), (.aload_n 0, 1, 0, 0, 0), (.getfield 11, 3, 5, 0, 3), (.aload_n 1, 1, 0, 0, 0), (.getfield 45, 3, 3, 2, 3), (.aload_n 0, 1, 0, 0, 0), (.getfield 22, 3, 5, 3, 3), (.invokestatic 48, 3, 42, 4, 0), (.iload_n 3, 1, 0, 0, 0), (.aload_n 1, 1, 0, 0, 0), (.getfield 39, 3, 3, 0, 0), (.aload_n 1, 1, 0, 0, 0), (.getfield 45, 3, 3, 2, 3), (.aload_n 0, 1, 0, 0, 0), (.getfield 22, 3, 5, 3, 3), (.invokestatic 54, 3, 41, 3, 0), (.invokestatic 58, 3, 15, 2, 0), (.istore 6, 2, 0, 0, 0), (.iload 6, 2, 0, 0, 0), (.ifCond .ne 5, 3, 0, 0, 0), (.iconst 0, 1, 0, 0, 0), (.ireturn, 1, 1, 0, 0)]
abbrev s_X7_find_63 : List Ent := [(.aload_n 0, 1, 0, 0, 0), (.aload_n 1, 1, 0, 0, 0), (.iload_n 2, 1, 0, 0, 0), (.iload 6, 2, 0, 0, 0), (.aload_n 0, 1, 0, 0, 0), (.getfield 19, 3, 5, 2, 3), (.iload 5, 2, 0, 0, 0), (.aaload, 1, 0, 0, 0), (.invokevirtual 64, 3, 50, 4, 5), (.iinc 5 1, 3, 0, 0, 0), (.goto (-72), 3, 0, 0, 0)]
abbrev s_X7_find_84 : List Ent := [(.iconst 1, 1, 0, 0, 0), (.ireturn, 1, 1, 0, 0)]
def mt_X7_find : MT := ((7, 1, 4), yX7_find, cX7_find, 7, (some .boolean), [], [(0, s_X7_find_0), (9, s_X7_find_9), (63, s_X7_find_63), (84, s_X7_find_84)])
abbrev s_X7_beginAtEnd_0 : List Ent := [(.iconst 0, 1, 0, 0, 0), (.istore_n 3, 1, 0, 0, 0)]
abbrev s_X7_beginAtEnd_2 : List Ent := [(.iload_n 3, 1, 0, 0, 0), (.aload_n 1, 1, 0, 0, 0), (.getfield 39, 3, 3, 0, 0), (.if_icmp .ge 56, 3, 0, 0, 0), (.iconst 0, 1, 0, 0, 0), (.istore 4, 2, 0, 0, 0)]
abbrev s_X7_beginAtEnd_13 : List Ent := [(.iload 4, 2, 0, 0, 0), (.aload_n 1, 1, 0, 0, 0), (.getfield 39, 3, 3, 0, 0), (.if_icmp .ge 38, 3, 0, 0, 0), (.aload_n 0, 1, 0, 0, 0), (.getfield 11, 3, 5, 0, 3), (.iload_n 3, 1, 0, 0, 0), (.aaload, 1, 0, 0, 0), (.iload 4, 2, 0, 0, 0), (.iload_n 2, 1, 0, 0, 0), (.aload_n 1, 1, 0, 0, 0), (.getfield 68, 3, 3, 3, 3), (.iload_n 3, 1, 0, 0, 0), (.iaload, 1, 0, 0, 0), (.aload_n 1, 1, 0, 0, 0), (.getfield 68, 3, 3, 3, 3), (.iload 4, 2, 0, 0, 0), (.iaload, 1, 0, 0, 0), (.invokestatic 71, 3, 17, 2, 0), (.invokestatic 71, 3, 17, 2, 0), (.iastore, 1, 0, 0, 0), (.iinc 4 1, 3, 0, 0, 0), (.goto (-41), 3, 0, 0, 0)]
abbrev s_X7_beginAtEnd_57 : List Ent := [(.iinc 3 1, 3, 0, 0, 0), (.goto (-58), 3, 0, 0, 0)]
abbrev s_X7_beginAtEnd_63 : List Ent := [(.return_, 1, 0, 0, 0)]
def mt_X7_beginAtEnd : MT := ((7, 1, 2), yX7_beginAtEnd, cX7_beginAtEnd, 5, none, [], [(0, s_X7_beginAtEnd_0), (2, s_X7_beginAtEnd_2), (13, s_X7_beginAtEnd_13), (57, s_X7_beginAtEnd_57), (63, s_X7_beginAtEnd_63)])
abbrev s_X7_stepBack_0 : List Ent := [(.aload_n 1, 1, 0, 0, 0), (.getfield 39, 3, 3, 0, 0), (.istore 5, 2, 0, 0, 0), (.iload 5, 2, 0, 0, 0), (.aload_n 0, 1, 0, 0, 0), (.getfield 11, 3, 5, 0, 3), (.aload_n 1, 1, 0, 0, 0), (.getfield 74, 3, 3, 1, 3), (.aload_n 0, 1, 0, 0, 0), (.getfield 16, 3, 5, 1, 3), (.invokestatic 77, 3, 44, 4, 0), (.iload 5, 2, 0, 0, 0), (.aload_n 0, 1, 0, 0, 0), (.getfield 22, 3, 5, 3, 3), (.aload_n 1, 1, 0, 0, 0), (.getfield 74, 3, 3, 1, 3), (.aload_n 0, 1, 0, 0, 0), (.getfield 26, 3, 5, 4, 3), (.invokestatic 81, 3, 43, 4, 0), (.iconst 1, 1, 0, 0, 0), (.iload_n 3, 1, 0, 0, 0), (.invokestatic 85, 3, 18, 2, 0), (.istore 6, 2, 0, 0, 0), (.iload 5, 2, 0, 0, 0), (.aload_n 1, 1, 0, 0, 0), (.getfield 45, 3, 3, 2, 3), (.aload_n 0, 1, 0, 0, 0), (.getfield 16, 3, 5, 1, 3), (.aload 4, 2, 0, 0, 0), (.invokestatic 81, 3, 43, 4, 0), (.iconst 0, 1, 0, 0, 0), (.istore 7, 2, 0, 0, 0)]
abbrev s_X7_stepBack_65 : List Ent := [(.iload 7, 2, 0, 0, 0), (.iload 5, 2, 0, 0, 0), (.if_icmp .ge 24, 3, 0, 0, 0), (.aload 4, 2, 0, 0, 0), (.iload 7, 2, 0, 0, 0), (.iload 6, 2, 0, 0, 0), (.aload 4, 2, 0, 0, 0), (.iload 7, 2, 0, 0, 0), (.iaload, 1, 0, 0, 0), (.invokestatic 71, 3, 17, 2, 0), (.iastore, 1, 0, 0, 0), (.iinc 7 1, 3, 0, 0, 0), (.goto (-25), 3, 0, 0, 0)]
abbrev s_X7_stepBack_93 : List Ent := [(.aload_n 0, 1, 0, 0, 0), (.aload_n 1, 1, 0, 0, 0), (.iload_n 2, 1, 0, 0, 0), (.invokevirtual 35, 3, 49, 2, 5), (.iconst 0, 1, 0, 0, 0), (.istore 7, 2, 0, 0, 0)]
abbrev s_X7_stepBack_102 : List Ent := [(.iload 7, 2, 0, 0, 0), (.iload 5, 2, 0, 0, 0), (.if_icmp .ge 84, 3, 0, 0, 0), (.iconst 0, 1, 0, 0, 0), (.istore 8, 2, 0, 0, 0)]
abbrev s_X7_stepBack_112 : List Ent := [(.iload 8, 2, 0, 0, 0), (.iload 5, 2, 0, 0, 0), (.if_icmp .ge 68, 3, 0, 0, 0), (.aload_n 0, 1, 0, 0, 0), (.getfield 26, 3, 5, 4, 3), (.iload 7, 2, 0, 0, 0), (.iaload, 1, 0, 0, 0), (.aload 4, 2, 0, 0, 0), (.iload 8, 2, 0, 0, 0), (.iaload, 1, 0, 0, 0), (.invokestatic 71, 3, 17, 2, 0), (.istore 9, 2, 0, 0, 0), (.aload_n 0, 1, 0, 0, 0), (.getfield 11, 3, 5, 0, 3), (.iload 7, 2, 0, 0, 0), (.aaload, 1, 0, 0, 0), (.iload 8, 2, 0, 0, 0), (.aload_n 0, 1, 0, 0, 0), (.getfield 11, 3, 5, 0, 3), (.iload 7, 2, 0, 0, 0), (.aaload, 1, 0, 0, 0), (.iload 8, 2, 0, 0, 0), (.iaload, 1, 0, 0, 0), (.aload_n 0, 1, 0, 0, 0), (.iload 5, 2, 0, 0, 0), (.aload_n 1, 1, 0, 0, 0), (.getfield 74, 3, 3, 1, 3), (.iload 7, 2, 0, 0, 0), (.iload 8, 2, 0, 0, 0), (.invokevirtual 88, 3, 51, 4, 5), (.invokestatic 58, 3, 15, 2, 0), (.iload 9, 2, 0, 0, 0), (.invokestatic 92, 3, 16, 2, 0), (.iastore, 1, 0, 0, 0), (.iinc 8 1, 3, 0, 0, 0), (.goto (-69), 3, 0, 0, 0)]
abbrev s_X7_stepBack_184 : List Ent := [(.iinc 7 1, 3, 0, 0, 0), (.goto (-85), 3, 0, 0, 0)]
abbrev s_X7_stepBack_190 : List Ent := [(.return_, 1, 0, 0, 0)]
def mt_X7_stepBack : MT := ((7, 1, 4), yX7_stepBack, cX7_stepBack, 10, none, [], [(0, s_X7_stepBack_0), (65, s_X7_stepBack_65), (93, s_X7_stepBack_93), (102, s_X7_stepBack_102), (112, s_X7_stepBack_112), (184, s_X7_stepBack_184), (190, s_X7_stepBack_190)])
abbrev s_X7_turnedEntry_0 : List Ent := [(.iconst 0, 1, 0, 0, 0), (.istore 5, 2, 0, 0, 0), (.iconst 0, 1, 0, 0, 0), (.istore 6, 2, 0, 0, 0)]
abbrev s_X7_turnedEntry_6 : List Ent := [(.iload 6, 2, 0, 0, 0), (.iload_n 1, 1, 0, 0, 0), (.if_icmp .ge 35, 3, 0, 0, 0), (.iload 5, 2, 0, 0, 0), (.aload_n 2, 1, 0, 0, 0), (.iload 6, 2, 0, 0, 0), (.aaload, 1, 0, 0, 0), (.iload_n 3, 1, 0, 0, 0), (.iaload, 1, 0, 0, 0), (.aload_n 0, 1, 0, 0, 0), (.getfield 16, 3, 5, 1, 3), (.iload 6, 2, 0, 0, 0), (.aaload, 1, 0, 0, 0), (.iload 4, 2, 0, 0, 0), (.iaload, 1, 0, 0, 0), (.invokestatic 71, 3, 17, 2, 0), (.invokestatic 58, 3, 15, 2, 0), (.istore 5, 2, 0, 0, 0), (.iinc 6 1, 3, 0, 0, 0), (.goto (-35), 3, 0, 0, 0)]
abbrev s_X7_turnedEntry_44 : List Ent := [(.iload 5, 2, 0, 0, 0), (.ireturn, 1, 0, 0, 0)]
def mt_X7_turnedEntry : MT := ((7, 1, 4), yX7_turnedEntry, cX7_turnedEntry, 7, (some .int), [], [(0, s_X7_turnedEntry_0), (6, s_X7_turnedEntry_6), (44, s_X7_turnedEntry_44)])
abbrev s_X7_costByEnd_0 : List Ent := [(.iconst 0, 1, 0, 0, 0), (.istore_n 2, 1, 0, 0, 0), (.iconst 0, 1, 0, 0, 0), (.istore_n 3, 1, 0, 0, 0)]
abbrev s_X7_costByEnd_4 : List Ent := [(.iload_n 3, 1, 0, 0, 0), (.iload_n 1, 1, 0, 0, 0), (.if_icmp .ge 38, 3, 0, 0, 0), (.iconst 0, 1, 0, 0, 0), (.istore 4, 2, 0, 0, 0)]
abbrev s_X7_costByEnd_12 : List Ent := [(.iload 4, 2, 0, 0, 0), (.iload_n 1, 1, 0, 0, 0), (.if_icmp .ge 23, 3, 0, 0, 0), (.iload_n 2, 1, 0, 0, 0), (.aload_n 0, 1, 0, 0, 0), (.getfield 11, 3, 5, 0, 3), (.iload_n 3, 1, 0, 0, 0), (.aaload, 1, 0, 0, 0), (.iload 4, 2, 0, 0, 0), (.iaload, 1, 0, 0, 0), (.invokestatic 58, 3, 15, 2, 0), (.istore_n 2, 1, 0, 0, 0), (.iinc 4 1, 3, 0, 0, 0), (.goto (-23), 3, 0, 0, 0)]
abbrev s_X7_costByEnd_38 : List Ent := [(.iinc 3 1, 3, 0, 0, 0), (.goto (-37), 3, 0, 0, 0)]
abbrev s_X7_costByEnd_44 : List Ent := [(.iload_n 2, 1, 0, 0, 0), (.ireturn, 1, 0, 0, 0)]
def mt_X7_costByEnd : MT := ((7, 1, 1), yX7_costByEnd, cX7_costByEnd, 5, (some .int), [], [(0, s_X7_costByEnd_0), (4, s_X7_costByEnd_4), (12, s_X7_costByEnd_12), (38, s_X7_costByEnd_38), (44, s_X7_costByEnd_44)])
abbrev s_X7_costByGoing_0 : List Ent := [(.aload_n 1, 1, 0, 0, 0), (.getfield 39, 3, 3, 0, 0), (.istore 5, 2, 0, 0, 0), (.iload 5, 2, 0, 0, 0), (.aload_n 0, 1, 0, 0, 0), (.getfield 29, 3, 5, 5, 3), (.iconst 1, 1, 0, 0, 0), (.invokestatic 95, 3, 46, 3, 0), (.iconst 0, 1, 0, 0, 0), (.istore 6, 2, 0, 0, 0), (.iload 4, 2, 0, 0, 0), (.iconst 1, 1, 0, 0, 0), (.isub, 1, 0, 0, 0), (.istore 7, 2, 0, 0, 0)]
abbrev s_X7_costByGoing_25 : List Ent := [(.iload 7, 2, 0, 0, 0), (.ifCond .lt 124, 3, 0, 0, 0), (.iconst 0, 1, 0, 0, 0), (.iload 5, 2, 0, 0, 0), (.aload_n 0, 1, 0, 0, 0), (.getfield 19, 3, 5, 2, 3), (.iload 7, 2, 0, 0, 0), (.aaload, 1, 0, 0, 0), (.aload_n 0, 1, 0, 0, 0), (.getfield 29, 3, 5, 5, 3), (.invokestatic 54, 3, 41, 3, 0), (.invokestatic 92, 3, 16, 2, 0), (.istore 8, 2, 0, 0, 0), (.iload 6, 2, 0, 0, 0), (.aload_n 0, 1, 0, 0, 0), (.aload_n 1, 1, 0, 0, 0), (.iload_n 2, 1, 0, 0, 0), (.invokevirtual 99, 3, 54, 2, 5), (.invokestatic 58, 3, 15, 2, 0), (.istore 6, 2, 0, 0, 0), (.iload 6, 2, 0, 0, 0), (.iload_n 3, 1, 0, 0, 0), (.iload 8, 2, 0, 0, 0), (.iload 8, 2, 0, 0, 0), (.invokestatic 71, 3, 17, 2, 0), (.invokestatic 71, 3, 17, 2, 0), (.invokestatic 58, 3, 15, 2, 0), (.istore 6, 2, 0, 0, 0), (.iload 5, 2, 0, 0, 0), (.aload_n 1, 1, 0, 0, 0), (.getfield 74, 3, 3, 1, 3), (.aload_n 0, 1, 0, 0, 0), (.getfield 29, 3, 5, 5, 3), (.aload_n 0, 1, 0, 0, 0), (.getfield 32, 3, 5, 6, 3), (.invokestatic 48, 3, 42, 4, 0), (.iconst 0, 1, 0, 0, 0), (.istore 9, 2, 0, 0, 0)]
abbrev s_X7_costByGoing_103 : List Ent := [(.iload 9, 2, 0, 0, 0), (.iload 5, 2, 0, 0, 0), (.if_icmp .ge 38, 3, 0, 0, 0), (.aload_n 0, 1, 0, 0, 0), (.getfield 29, 3, 5, 5, 3), (.iload 9, 2, 0, 0, 0), (.aload_n 0, 1, 0, 0, 0), (.getfield 32, 3, 5, 6, 3), (.iload 9, 2, 0, 0, 0), (.iaload, 1, 0, 0, 0), (.aload_n 1, 1, 0, 0, 0), (.getfield 45, 3, 3, 2, 3), (.iload 9, 2, 0, 0, 0), (.iaload, 1, 0, 0, 0), (.iload 8, 2, 0, 0, 0), (.invokestatic 71, 3, 17, 2, 0), (.invokestatic 58, 3, 15, 2, 0), (.iastore, 1, 0, 0, 0), (.iinc 9 1, 3, 0, 0, 0), (.goto (-39), 3, 0, 0, 0)]
abbrev s_X7_costByGoing_145 : List Ent := [(.iinc 7 (-1), 3, 0, 0, 0), (.goto (-123), 3, 0, 0, 0)]
abbrev s_X7_costByGoing_151 : List Ent := [(.iload 6, 2, 0, 0, 0), (.aload_n 0, 1, 0, 0, 0), (.aload_n 1, 1, 0, 0, 0), (.iload_n 2, 1, 0, 0, 0), (.invokevirtual 99, 3, 54, 2, 5), (.invokestatic 58, 3, 15, 2, 0), (.ireturn, 1, 0, 0, 0)]
def mt_X7_costByGoing : MT := ((7, 1, 4), yX7_costByGoing, cX7_costByGoing, 10, (some .int), [], [(0, s_X7_costByGoing_0), (25, s_X7_costByGoing_25), (103, s_X7_costByGoing_103), (145, s_X7_costByGoing_145), (151, s_X7_costByGoing_151)])
abbrev s_X7_costHere_0 : List Ent := [(.aload_n 1, 1, 0, 0, 0), (.getfield 39, 3, 3, 0, 0), (.aload_n 1, 1, 0, 0, 0), (.getfield 68, 3, 3, 3, 3), (.aload_n 0, 1, 0, 0, 0), (.getfield 29, 3, 5, 5, 3), (.invokestatic 54, 3, 41, 3, 0), (.istore_n 3, 1, 0, 0, 0), (.iload_n 2, 1, 0, 0, 0), (.iload_n 3, 1, 0, 0, 0), (.iload_n 3, 1, 0, 0, 0), (.invokestatic 71, 3, 17, 2, 0), (.invokestatic 71, 3, 17, 2, 0), (.ireturn, 1, 0, 0, 0)]
def mt_X7_costHere : MT := ((7, 1, 2), yX7_costHere, cX7_costHere, 4, (some .int), [], [(0, s_X7_costHere_0)])
abbrev s_X8_init_0 : List Ent := [(.aload_n 0, 1, 0, 0, 0), (.invokespecial 3, 3, 9999, 0, 0), (.aload_n 0, 1, 0, 0, 0), (.bipush 20, 2, 0, 0, 0), (.newarray .int, 2, 0, 0, 0), (.putfield 9, 3, 6, 0, 3), (.aload_n 0, 1, 0, 0, 0), (.iload_n 1, 1, 0, 0, 0), (.putfield 15, 3, 6, 2, 2), (.return_, 1, 0, 0, 0)]
def mt_X8_init : MT := ((8, 2, 1), yX8_init, cX8_init, 2, none, [], [(0, s_X8_init_0)])
abbrev s_X8_isFull_0 : List Ent := [(.aload_n 0, 1, 0, 0, 0), (.getfield 19, 3, 6, 1, 0), (.aload_n 0, 1, 0, 0, 0), (.getfield 15, 3, 6, 2, 2), (.if_icmp .lt 7, 3, 0, 0, 0), (.iconst 1, 1, 0, 0, 0), (.goto 4, 3, 0, 0, 0)]
abbrev s_X8_isFull_15 : List Ent := [(.iconst 0, 1, 0, 0, 0)]
abbrev s_X8_isFull_16 : List Ent := [(.ireturn, 1, 1, 0, 0)]
def mt_X8_isFull : MT := ((8, 1, 0), yX8_isFull, cX8_isFull, 1, (some .boolean), [], [(0, s_X8_isFull_0), (15, s_X8_isFull_15), (16, s_X8_isFull_16)])
abbrev s_X8_add_0 : List Ent := [(.aload_n 0, 1, 0, 0, 0), (.getfield 9, 3, 6, 0, 3), (.aload_n 0, 1, 0, 0, 0), (.getfield 19, 3, 6, 1, 0), (.iload_n 1, 1, 0, 0, 0), (.iastore, 1, 0, 0, 0), (.aload_n 0, 1, 0, 0, 0), (.dup, 1, 0, 0, 0), (.getfield 19, 3, 6, 1, 0), (.iconst 1, 1, 0, 0, 0), (.iadd, 1, 0, 0, 0), (.putfield 19, 3, 6, 1, 0), (.aload_n 0, 1, 0, 0, 0), (.getfield 19, 3, 6, 1, 0), (.ireturn, 1, 0, 0, 0)]
def mt_X8_add : MT := ((8, 1, 1), yX8_add, cX8_add, 2, (some .int), [], [(0, s_X8_add_0)])
abbrev s_X9_init_0 : List Ent := [(.aload_n 0, 1, 0, 0, 0), (.invokespecial 1, 3, 9999, 0, 0), (.aload_n 0, 1, 0, 0, 0), (.bipush 12, 2, 0, 0, 0), (.anewarray 9, 3, 0, 0, 0), (.putfield 11, 3, 7, 0, 3), (.aload_n 0, 1, 0, 0, 0), (.new 15, 3, 6, 0, 0), (.dup, 1, 0, 0, 0), (.bipush 16, 2, 0, 0, 0), (.invokespecial 17, 3, 55, 1, 0), (.putfield 20, 3, 7, 2, 3), (.aload_n 0, 1, 0, 0, 0), (.new 15, 3, 6, 0, 0), (.dup, 1, 0, 0, 0), (.bipush 20, 2, 0, 0, 0), (.invokespecial 17, 3, 55, 1, 0), (.putfield 24, 3, 7, 3, 3), (.aload_n 0, 1, 0, 0, 0), (.new 9, 3, 3, 0, 0), (.dup, 1, 0, 0, 0), (.invokespecial 27, 3, 24, 0, 1), (.putfield 28, 3, 7, 4, 3), (.aload_n 0, 1, 0, 0, 0), (.new 32, 3, 2, 0, 0), (.dup, 1, 0, 0, 0), (.invokespecial 34, 3, 19, 0, 1), (.putfield 35, 3, 7, 5, 3), (.aload_n 0, 1, 0, 0, 0), (.bipush 8, 2, 0, 0, 0), (.newarray .int, 2, 0, 0, 0), (.putfield 39, 3, 7, 6, 3), (.aload_n 0, 1, 0, 0, 0), (.bipush 8, 2, 0, 0, 0), (.newarray .int, 2, 0, 0, 0), (.putfield 43, 3, 7, 7, 3), (.aload_n 0, 1, 0, 0, 0), (.new 46, 3, 4, 0, 0), (.dup, 1, 0, 0, 0), (.invokespecial 48, 3, 34, 0, 1), (.putfield 49, 3, 7, 8, 3), (.aload_n 0, 1, 0, 0, 0), (.new 53, 3, 0, 0, 0), (.dup, 1, 0, 0, 0), (.invokespecial 55, 3, 0, 0, 1), (.putfield 56, 3, 7, 9, 3), (.aload_n 0, 1, 0, 0, 0), (.new 60, 3, 5, 0, 0), (.dup, 1, 0, 0, 0), (.invokespecial 62, 3, 47, 0, 1), (.putfield 63, 3, 7, 10, 3), (.iconst 0, 1, 0, 0, 0), (.istore_n 1, 1, 0, 0, 0)]
abbrev s_X9_init_112 : List Ent := [(.iload_n 1, 1, 0, 0, 0), (.bipush 12, 2, 0, 0, 0), (.if_icmp .ge 22, 3, 0, 0, 0), (.aload_n 0, 1, 0, 0, 0), (.getfield 11, 3, 7, 0, 3), (.iload_n 1, 1, 0, 0, 0), (.new 9, 3, 3, 0, 0), (.dup, 1, 0, 0, 0), (.invokespecial 27, 3, 24, 0, 1), (.aastore, 1, 0, 0, 0), (.iinc 1 1, 3, 0, 0, 0), (.goto (-22), 3, 0, 0, 0)]
abbrev s_X9_init_137 : List Ent := [(.return_, 1, 0, 0, 0)]
def mt_X9_init : MT := ((9, 2, 0), yX9_init, cX9_init, 2, none, [], [(0, s_X9_init_0), (112, s_X9_init_112), (137, s_X9_init_137)])
abbrev s_X9_system_0 : List Ent := [(.iload_n 1, 1, 0, 0, 0), (.iconst 1, 1, 0, 0, 0), (.if_icmp .lt 8, 3, 0, 0, 0), (.iload_n 1, 1, 0, 0, 0), (.iconst 4, 1, 0, 0, 0), (.if_icmp .le 13, 3, 0, 0, 0)]
abbrev s_X9_system_10 : List Ent := [(.new 67, 3, 101, 67, 0), (.dup, 1, 0, 0, 0), (.ldc 69, 2, 0, 0, 0), (.invokespecial 71, 3, 7777, 0, 0), (.athrow, 1, 0, 0, 0)]
abbrev s_X9_system_20 : List Ent := [(.aload_n 0, 1, 0, 0, 0), (.iload_n 1, 1, 0, 0, 0), (.invokevirtual 74, 3, 83, 1, 7), (.pop, 1, 0, 0, 0), (.aload_n 0, 1, 0, 0, 0), (.getfield 78, 3, 7, 1, 0), (.iconst 1, 1, 0, 0, 0), (.isub, 1, 0, 0, 0), (.ireturn, 1, 0, 0, 0)]
def mt_X9_system : MT := ((9, 1, 1), yX9_system, cX9_system, 2, (some .int), [], [(0, s_X9_system_0), (10, s_X9_system_10), (20, s_X9_system_20)])
abbrev s_X9_set_0 : List Ent := [(.aload_n 0, 1, 0, 0, 0), (.iload_n 1, 1, 0, 0, 0), (.invokevirtual 82, 3, 82, 1, 7), (.astore 6, 2, 0, 0, 0), (.aload 6, 2, 0, 0, 0), (.iload_n 2, 1, 0, 0, 0), (.iload_n 3, 1, 0, 0, 0), (.iload 4, 2, 0, 0, 0), (.invokestatic 85, 3, 85, 4, 0), (.iload 5, 2, 0, 0, 0), (.invokestatic 89, 3, 87, 1, 0), (.aload 6, 2, 0, 0, 0), (.iload_n 2, 1, 0, 0, 0), (.iload_n 3, 1, 0, 0, 0), (.iload 4, 2, 0, 0, 0), (.invokevirtual 92, 3, 25, 3, 3), (.istore 7, 2, 0, 0, 0), (.aload 6, 2, 0, 0, 0), (.iload_n 2, 1, 0, 0, 0), (.iload_n 3, 1, 0, 0, 0), (.iload 4, 2, 0, 0, 0), (.iload 5, 2, 0, 0, 0), (.invokestatic 96, 3, 14, 1, 0), (.invokevirtual 102, 3, 26, 4, 3), (.iload 7, 2, 0, 0, 0), (.ireturn, 1, 0, 0, 0)]
def mt_X9_set : MT := ((9, 1, 5), yX9_set, cX9_set, 8, (some .int), [], [(0, s_X9_set_0)])
abbrev s_X9_join_0 : List Ent := [(.aload_n 0, 1, 0, 0, 0), (.iload_n 1, 1, 0, 0, 0), (.invokevirtual 82, 3, 82, 1, 7), (.astore 4, 2, 0, 0, 0), (.aload_n 0, 1, 0, 0, 0), (.iload_n 2, 1, 0, 0, 0), (.invokevirtual 82, 3, 82, 1, 7), (.astore 5, 2, 0, 0, 0), (.aload 4, 2, 0, 0, 0), (.getfield 106, 3, 3, 0, 0), (.aload 5, 2, 0, 0, 0), (.getfield 106, 3, 3, 0, 0), (.iadd, 1, 0, 0, 0), (.istore 6, 2, 0, 0, 0), (.iload 6, 2, 0, 0, 0), (.bipush 8, 2, 0, 0, 0), (.if_icmp .le 13, 3, 0, 0, 0), (.new 109, 3, 102, 109, 0), (.dup, 1, 0, 0, 0), (.ldc 111, 2, 0, 0, 0), (.invokespecial 113, 3, 7777, 0, 0), (.athrow, 1, 0, 0, 0)]
abbrev s_X9_join_44 : List Ent := [(.aload_n 0, 1, 0, 0, 0), (.iload 6, 2, 0, 0, 0), (.invokevirtual 74, 3, 83, 1, 7), (.astore 7, 2, 0, 0, 0), (.iload_n 3, 1, 0, 0, 0), (.ifCond .eq 15, 3, 0, 0, 0), (.aload 7, 2, 0, 0, 0), (.aload 4, 2, 0, 0, 0), (.aload 5, 2, 0, 0, 0), (.invokevirtual 114, 3, 27, 2, 3), (.goto 12, 3, 0, 0, 0)]
abbrev s_X9_join_68 : List Ent := [(.aload 7, 2, 0, 0, 0), (.aload 4, 2, 0, 0, 0), (.aload 5, 2, 0, 0, 0), (.invokevirtual 118, 3, 28, 2, 3)]
abbrev s_X9_join_77 : List Ent := [(.aload_n 0, 1, 0, 0, 0), (.getfield 78, 3, 7, 1, 0), (.iconst 1, 1, 0, 0, 0), (.isub, 1, 0, 0, 0), (.ireturn, 1, 0, 0, 0)]
def mt_X9_join : MT := ((9, 1, 3), yX9_join, cX9_join, 8, (some .int), [], [(0, s_X9_join_0), (44, s_X9_join_44), (68, s_X9_join_68), (77, s_X9_join_77)])
abbrev s_X9_loop_0 : List Ent := [(.aload_n 0, 1, 0, 0, 0), (.iload_n 1, 1, 0, 0, 0), (.invokevirtual 82, 3, 82, 1, 7), (.astore_n 3, 1, 0, 0, 0), (.iload_n 2, 1, 0, 0, 0), (.invokestatic 89, 3, 87, 1, 0), (.iload_n 2, 1, 0, 0, 0), (.invokestatic 96, 3, 14, 1, 0), (.istore 4, 2, 0, 0, 0), (.iconst 1, 1, 0, 0, 0), (.iload 4, 2, 0, 0, 0), (.aload_n 3, 1, 0, 0, 0), (.getfield 121, 3, 3, 4, 0), (.invokestatic 124, 3, 17, 2, 0), (.invokestatic 128, 3, 15, 2, 0), (.istore 5, 2, 0, 0, 0), (.iload 5, 2, 0, 0, 0), (.ifCond .ne 13, 3, 0, 0, 0), (.new 109, 3, 102, 109, 0), (.dup, 1, 0, 0, 0), (.ldc 131, 2, 0, 0, 0), (.invokespecial 113, 3, 7777, 0, 0), (.athrow, 1, 0, 0, 0)]
abbrev s_X9_loop_46 : List Ent := [(.aload_n 0, 1, 0, 0, 0), (.aload_n 3, 1, 0, 0, 0), (.getfield 106, 3, 3, 0, 0), (.invokevirtual 74, 3, 83, 1, 7), (.aload_n 3, 1, 0, 0, 0), (.iload 4, 2, 0, 0, 0), (.iload 5, 2, 0, 0, 0), (.invokevirtual 133, 3, 30, 3, 3), (.aload_n 0, 1, 0, 0, 0), (.getfield 78, 3, 7, 1, 0), (.iconst 1, 1, 0, 0, 0), (.isub, 1, 0, 0, 0), (.ireturn, 1, 0, 0, 0)]
def mt_X9_loop : MT := ((9, 1, 2), yX9_loop, cX9_loop, 6, (some .int), [], [(0, s_X9_loop_0), (46, s_X9_loop_46)])
abbrev s_X9_pole_0 : List Ent := [(.aload_n 0, 1, 0, 0, 0), (.getfield 20, 3, 7, 2, 3), (.iload_n 1, 1, 0, 0, 0), (.invokestatic 137, 3, 84, 2, 0), (.ireturn, 1, 0, 0, 0)]
def mt_X9_pole : MT := ((9, 1, 1), yX9_pole, cX9_pole, 2, (some .int), [], [(0, s_X9_pole_0)])
abbrev s_X9_input_0 : List Ent := [(.aload_n 0, 1, 0, 0, 0), (.getfield 24, 3, 7, 3, 3), (.iload_n 1, 1, 0, 0, 0), (.invokestatic 137, 3, 84, 2, 0), (.ireturn, 1, 0, 0, 0)]
def mt_X9_input : MT := ((9, 1, 1), yX9_input, cX9_input, 2, (some .int), [], [(0, s_X9_input_0)])
abbrev s_X9_clear_0 : List Ent := [(.aload_n 0, 1, 0, 0, 0), (.getfield 20, 3, 7, 2, 3), (.getfield 141, 3, 6, 1, 0), (.aload_n 0, 1, 0, 0, 0), (.getfield 24, 3, 7, 3, 3), (.getfield 141, 3, 6, 1, 0), (.iadd, 1, 0, 0, 0), (.istore_n 1, 1, 0, 0, 0), (.aload_n 0, 1, 0, 0, 0), (.getfield 20, 3, 7, 2, 3), (.iconst 0, 1, 0, 0, 0), (.putfield 141, 3, 6, 1, 0), (.aload_n 0, 1, 0, 0, 0), (.getfield 24, 3, 7, 3, 3), (.iconst 0, 1, 0, 0, 0), (.putfield 141, 3, 6, 1, 0), (.iload_n 1, 1, 0, 0, 0), (.ireturn, 1, 0, 0, 0)]
def mt_X9_clear : MT := ((9, 1, 0), yX9_clear, cX9_clear, 2, (some .int), [], [(0, s_X9_clear_0)])
abbrev s_X9_placed_0 : List Ent := [(.aload_n 0, 1, 0, 0, 0), (.iload_n 1, 1, 0, 0, 0), (.invokevirtual 82, 3, 82, 1, 7), (.astore_n 2, 1, 0, 0, 0), (.aload_n 0, 1, 0, 0, 0), (.aload_n 2, 1, 0, 0, 0), (.invokevirtual 144, 3, 90, 1, 7), (.aload_n 0, 1, 0, 0, 0), (.aload_n 2, 1, 0, 0, 0), (.getfield 106, 3, 3, 0, 0), (.invokevirtual 74, 3, 83, 1, 7), (.aload_n 2, 1, 0, 0, 0), (.aload_n 0, 1, 0, 0, 0), (.getfield 39, 3, 7, 6, 3), (.invokevirtual 148, 3, 31, 2, 3), (.aload_n 0, 1, 0, 0, 0), (.getfield 78, 3, 7, 1, 0), (.iconst 1, 1, 0, 0, 0), (.isub, 1, 0, 0, 0), (.ireturn, 1, 0, 0, 0)]
def mt_X9_placed : MT := ((9, 1, 1), yX9_placed, cX9_placed, 3, (some .int), [], [(0, s_X9_placed_0)])
abbrev s_X9_joined_0 : List Ent := [(.aload_n 0, 1, 0, 0, 0), (.iload_n 1, 1, 0, 0, 0), (.invokevirtual 82, 3, 82, 1, 7), (.astore_n 2, 1, 0, 0, 0), (.aload_n 2, 1, 0, 0, 0), (.getfield 106, 3, 3, 0, 0), (.iconst 4, 1, 0, 0, 0), (.if_icmp .gt 10, 3, 0, 0, 0), (.aload_n 2, 1, 0, 0, 0), (.getfield 121, 3, 3, 4, 0), (.ifCond .eq 13, 3, 0, 0, 0)]
abbrev s_X9_joined_21 : List Ent := [(.new 109, 3, 102, 109, 0), (.dup, 1, 0, 0, 0), (.ldc 152, 2, 0, 0, 0), (.invokespecial 113, 3, 7777, 0, 0), (.athrow, 1, 0, 0, 0)]
abbrev s_X9_joined_31 : List Ent := [(.aload_n 0, 1, 0, 0, 0), (.aload_n 2, 1, 0, 0, 0), (.invokevirtual 144, 3, 90, 1, 7), (.aload_n 0, 1, 0, 0, 0), (.aload_n 2, 1, 0, 0, 0), (.invokevirtual 154, 3, 91, 1, 7), (.aload_n 0, 1, 0, 0, 0), (.iconst 2, 1, 0, 0, 0), (.aload_n 2, 1, 0, 0, 0), (.getfield 106, 3, 3, 0, 0), (.imul, 1, 0, 0, 0), (.invokevirtual 74, 3, 83, 1, 7), (.aload_n 2, 1, 0, 0, 0), (.aload_n 0, 1, 0, 0, 0), (.getfield 39, 3, 7, 6, 3), (.aload_n 0, 1, 0, 0, 0), (.getfield 43, 3, 7, 7, 3), (.invokevirtual 157, 3, 32, 3, 3), (.aload_n 0, 1, 0, 0, 0), (.getfield 78, 3, 7, 1, 0), (.iconst 1, 1, 0, 0, 0), (.isub, 1, 0, 0, 0), (.ireturn, 1, 0, 0, 0)]
def mt_X9_joined : MT := ((9, 1, 1), yX9_joined, cX9_joined, 3, (some .int), [], [(0, s_X9_joined_0), (21, s_X9_joined_21), (31, s_X9_joined_31)])
abbrev s_X9_at_0 : List Ent := [(.aload_n 0, 1, 0, 0, 0), (.iload_n 1, 1, 0, 0, 0), (.invokevirtual 82, 3, 82, 1, 7), (.astore 5, 2, 0, 0, 0), (.aload 5, 2, 0, 0, 0), (.iload_n 2, 1, 0, 0, 0), (.iload_n 3, 1, 0, 0, 0), (.iload 4, 2, 0, 0, 0), (.invokestatic 85, 3, 85, 4, 0), (.aload 5, 2, 0, 0, 0), (.iload_n 2, 1, 0, 0, 0), (.iload_n 3, 1, 0, 0, 0), (.iload 4, 2, 0, 0, 0), (.invokevirtual 92, 3, 25, 3, 3), (.ireturn, 1, 0, 0, 0)]
def mt_X9_at : MT := ((9, 1, 4), yX9_at, cX9_at, 6, (some .int), [], [(0, s_X9_at_0)])
abbrev s_X9_order_0 : List Ent := [(.aload_n 0, 1, 0, 0, 0), (.iload_n 1, 1, 0, 0, 0), (.invokevirtual 82, 3, 82, 1, 7), (.getfield 106, 3, 3, 0, 0), (.ireturn, 1, 0, 0, 0)]
def mt_X9_order : MT := ((9, 1, 1), yX9_order, cX9_order, 2, (some .int), [], [(0, s_X9_order_0)])
abbrev s_X9_polynomial_0 : List Ent := [(.aload_n 0, 1, 0, 0, 0), (.iload_n 1, 1, 0, 0, 0), (.invokevirtual 82, 3, 82, 1, 7), (.astore 4, 2, 0, 0, 0), (.iload_n 2, 1, 0, 0, 0), (.ifCond .lt 12, 3, 0, 0, 0), (.iload_n 2, 1, 0, 0, 0), (.aload 4, 2, 0, 0, 0), (.getfield 106, 3, 3, 0, 0), (.if_icmp .le 13, 3, 0, 0, 0)]
abbrev s_X9_polynomial_20 : List Ent := [(.new 161, 3, 100, 161, 0), (.dup, 1, 0, 0, 0), (.ldc 163, 2, 0, 0, 0), (.invokespecial 165, 3, 7777, 0, 0), (.athrow, 1, 0, 0, 0)]
abbrev s_X9_polynomial_30 : List Ent := [(.aload_n 0, 1, 0, 0, 0), (.getfield 49, 3, 7, 8, 3), (.aload 4, 2, 0, 0, 0), (.invokevirtual 166, 3, 35, 1, 4), (.iload_n 3, 1, 0, 0, 0), (.ifCond .eq 15, 3, 0, 0, 0), (.aload_n 0, 1, 0, 0, 0), (.getfield 49, 3, 7, 8, 3), (.getfield 169, 3, 4, 1, 3), (.iload_n 2, 1, 0, 0, 0), (.iaload, 1, 0, 0, 0), (.goto 12, 3, 0, 0, 0)]
abbrev s_X9_polynomial_55 : List Ent := [(.aload_n 0, 1, 0, 0, 0), (.getfield 49, 3, 7, 8, 3), (.getfield 172, 3, 4, 0, 3), (.iload_n 2, 1, 0, 0, 0), (.iaload, 1, 0, 0, 0)]
abbrev s_X9_polynomial_64 : List Ent := [(.ireturn, 1, 0, 0, 0)]
def mt_X9_polynomial : MT := ((9, 1, 3), yX9_polynomial, cX9_polynomial, 5, (some .int), [], [(0, s_X9_polynomial_0), (20, s_X9_polynomial_20), (30, s_X9_polynomial_30), (55, s_X9_polynomial_55), (64, s_X9_polynomial_64)])
abbrev s_X9_rank_0 : List Ent := [(.aload_n 0, 1, 0, 0, 0), (.iload_n 1, 1, 0, 0, 0), (.invokevirtual 82, 3, 82, 1, 7), (.astore_n 3, 1, 0, 0, 0), (.iload_n 2, 1, 0, 0, 0), (.ifCond .ne 12, 3, 0, 0, 0), (.aload_n 0, 1, 0, 0, 0), (.getfield 35, 3, 7, 5, 3), (.aload_n 3, 1, 0, 0, 0), (.invokevirtual 175, 3, 20, 1, 2), (.ireturn, 1, 0, 0, 0)]
abbrev s_X9_rank_19 : List Ent := [(.aload_n 0, 1, 0, 0, 0), (.getfield 28, 3, 7, 4, 3), (.aload_n 3, 1, 0, 0, 0), (.invokevirtual 179, 3, 33, 1, 3), (.aload_n 0, 1, 0, 0, 0), (.getfield 35, 3, 7, 5, 3), (.aload_n 0, 1, 0, 0, 0), (.getfield 28, 3, 7, 4, 3), (.invokevirtual 175, 3, 20, 1, 2), (.ireturn, 1, 0, 0, 0)]
def mt_X9_rank : MT := ((9, 1, 2), yX9_rank, cX9_rank, 4, (some .int), [], [(0, s_X9_rank_0), (19, s_X9_rank_19)])
abbrev s_X9_number_0 : List Ent := [(.aload_n 0, 1, 0, 0, 0), (.iload_n 1, 1, 0, 0, 0), (.invokevirtual 82, 3, 82, 1, 7), (.astore_n 3, 1, 0, 0, 0), (.iload_n 2, 1, 0, 0, 0), (.bipush 40, 2, 0, 0, 0), (.invokestatic 182, 3, 88, 2, 0), (.aload_n 0, 1, 0, 0, 0), (.getfield 56, 3, 7, 9, 3), (.aload_n 3, 1, 0, 0, 0), (.iload_n 2, 1, 0, 0, 0), (.invokevirtual 186, 3, 1, 2, 0), (.aload_n 0, 1, 0, 0, 0), (.getfield 56, 3, 7, 9, 3), (.getfield 190, 3, 0, 0, 3), (.iload_n 2, 1, 0, 0, 0), (.iaload, 1, 0, 0, 0), (.ireturn, 1, 0, 0, 0)]
def mt_X9_number : MT := ((9, 1, 2), yX9_number, cX9_number, 4, (some .int), [], [(0, s_X9_number_0)])
abbrev s_X9_output_0 : List Ent := [(.aload_n 0, 1, 0, 0, 0), (.iload_n 1, 1, 0, 0, 0), (.invokevirtual 82, 3, 82, 1, 7), (.astore_n 3, 1, 0, 0, 0), (.iload_n 2, 1, 0, 0, 0), (.bipush 40, 2, 0, 0, 0), (.invokestatic 182, 3, 88, 2, 0), (.aload_n 0, 1, 0, 0, 0), (.getfield 56, 3, 7, 9, 3), (.aload_n 3, 1, 0, 0, 0), (.aload_n 0, 1, 0, 0, 0), (.getfield 24, 3, 7, 3, 3), (.iload_n 2, 1, 0, 0, 0), (.invokevirtual 193, 3, 2, 3, 0), (.ireturn, 1, 0, 0, 0)]
def mt_X9_output : MT := ((9, 1, 2), yX9_output, cX9_output, 4, (some .int), [], [(0, s_X9_output_0)])
abbrev s_X9_outputAnew_0 : List Ent := [(.aload_n 0, 1, 0, 0, 0), (.iload_n 1, 1, 0, 0, 0), (.invokevirtual 82, 3, 82, 1, 7), (.astore_n 3, 1, 0, 0, 0), (.iload_n 2, 1, 0, 0, 0), (.bipush 40, 2, 0, 0, 0), (.invokestatic 182, 3, 88, 2, 0), (.aload_n 0, 1, 0, 0, 0), (.getfield 56, 3, 7, 9, 3), (.aload_n 3, 1, 0, 0, 0), (.aload_n 0, 1, 0, 0, 0), (.getfield 24, 3, 7, 3, 3), (.iload_n 2, 1, 0, 0, 0), (.invokevirtual 197, 3, 3, 3, 0), (.ireturn, 1, 0, 0, 0)]
def mt_X9_outputAnew : MT := ((9, 1, 2), yX9_outputAnew, cX9_outputAnew, 4, (some .int), [], [(0, s_X9_outputAnew_0)])
abbrev s_X9_gain_0 : List Ent := [(.aload_n 0, 1, 0, 0, 0), (.iload_n 1, 1, 0, 0, 0), (.invokevirtual 82, 3, 82, 1, 7), (.astore_n 3, 1, 0, 0, 0), (.aload_n 3, 1, 0, 0, 0), (.iload_n 2, 1, 0, 0, 0), (.invokestatic 200, 3, 86, 2, 0), (.aload_n 0, 1, 0, 0, 0), (.aload_n 3, 1, 0, 0, 0), (.invokevirtual 144, 3, 90, 1, 7), (.aload_n 0, 1, 0, 0, 0), (.getfield 39, 3, 7, 6, 3), (.iload_n 2, 1, 0, 0, 0), (.iaload, 1, 0, 0, 0), (.ireturn, 1, 0, 0, 0)]
def mt_X9_gain : MT := ((9, 1, 2), yX9_gain, cX9_gain, 4, (some .int), [], [(0, s_X9_gain_0)])
abbrev s_X9_gainAnew_0 : List Ent := [(.aload_n 0, 1, 0, 0, 0), (.iload_n 1, 1, 0, 0, 0), (.invokevirtual 82, 3, 82, 1, 7), (.astore_n 3, 1, 0, 0, 0), (.aload_n 3, 1, 0, 0, 0), (.iload_n 2, 1, 0, 0, 0), (.invokestatic 200, 3, 86, 2, 0), (.aload_n 0, 1, 0, 0, 0), (.aload_n 3, 1, 0, 0, 0), (.getfield 106, 3, 3, 0, 0), (.invokevirtual 203, 3, 89, 1, 7), (.aload_n 0, 1, 0, 0, 0), (.getfield 49, 3, 7, 8, 3), (.aload_n 3, 1, 0, 0, 0), (.invokevirtual 166, 3, 35, 1, 4), (.aload_n 0, 1, 0, 0, 0), (.getfield 35, 3, 7, 5, 3), (.aload_n 3, 1, 0, 0, 0), (.aload_n 0, 1, 0, 0, 0), (.getfield 49, 3, 7, 8, 3), (.getfield 172, 3, 4, 0, 3), (.aload_n 0, 1, 0, 0, 0), (.getfield 20, 3, 7, 2, 3), (.aload_n 0, 1, 0, 0, 0), (.getfield 39, 3, 7, 6, 3), (.invokevirtual 206, 3, 22, 4, 2), (.ifCond .ne 13, 3, 0, 0, 0), (.new 109, 3, 102, 109, 0), (.dup, 1, 0, 0, 0), (.ldc 210, 2, 0, 0, 0), (.invokespecial 113, 3, 7777, 0, 0), (.athrow, 1, 0, 0, 0)]
abbrev s_X9_gainAnew_63 : List Ent := [(.aload_n 0, 1, 0, 0, 0), (.getfield 39, 3, 7, 6, 3), (.iload_n 2, 1, 0, 0, 0), (.iaload, 1, 0, 0, 0), (.ireturn, 1, 0, 0, 0)]
def mt_X9_gainAnew : MT := ((9, 1, 2), yX9_gainAnew, cX9_gainAnew, 4, (some .int), [], [(0, s_X9_gainAnew_0), (63, s_X9_gainAnew_63)])
abbrev s_X9_observer_0 : List Ent := [(.aload_n 0, 1, 0, 0, 0), (.iload_n 1, 1, 0, 0, 0), (.invokevirtual 82, 3, 82, 1, 7), (.astore_n 3, 1, 0, 0, 0), (.aload_n 3, 1, 0, 0, 0), (.iload_n 2, 1, 0, 0, 0), (.invokestatic 200, 3, 86, 2, 0), (.aload_n 0, 1, 0, 0, 0), (.aload_n 3, 1, 0, 0, 0), (.invokevirtual 154, 3, 91, 1, 7), (.aload_n 0, 1, 0, 0, 0), (.getfield 43, 3, 7, 7, 3), (.iload_n 2, 1, 0, 0, 0), (.iaload, 1, 0, 0, 0), (.ireturn, 1, 0, 0, 0)]
def mt_X9_observer : MT := ((9, 1, 2), yX9_observer, cX9_observer, 4, (some .int), [], [(0, s_X9_observer_0)])
abbrev s_X9_cost_0 : List Ent := [(.aload_n 0, 1, 0, 0, 0), (.iload_n 1, 1, 0, 0, 0), (.invokevirtual 82, 3, 82, 1, 7), (.astore 5, 2, 0, 0, 0), (.aload_n 0, 1, 0, 0, 0), (.aload 5, 2, 0, 0, 0), (.iload_n 2, 1, 0, 0, 0), (.iload_n 3, 1, 0, 0, 0), (.iload 4, 2, 0, 0, 0), (.invokevirtual 212, 3, 92, 4, 7), (.aload_n 0, 1, 0, 0, 0), (.getfield 63, 3, 7, 10, 3), (.aload 5, 2, 0, 0, 0), (.getfield 106, 3, 3, 0, 0), (.invokevirtual 215, 3, 52, 1, 5), (.ireturn, 1, 0, 0, 0)]
def mt_X9_cost : MT := ((9, 1, 4), yX9_cost, cX9_cost, 6, (some .int), [], [(0, s_X9_cost_0)])
abbrev s_X9_costAnew_0 : List Ent := [(.aload_n 0, 1, 0, 0, 0), (.iload_n 1, 1, 0, 0, 0), (.invokevirtual 82, 3, 82, 1, 7), (.astore 5, 2, 0, 0, 0), (.aload_n 0, 1, 0, 0, 0), (.aload 5, 2, 0, 0, 0), (.iload_n 2, 1, 0, 0, 0), (.iload_n 3, 1, 0, 0, 0), (.iload 4, 2, 0, 0, 0), (.invokevirtual 212, 3, 92, 4, 7), (.aload_n 0, 1, 0, 0, 0), (.getfield 63, 3, 7, 10, 3), (.aload 5, 2, 0, 0, 0), (.iload_n 2, 1, 0, 0, 0), (.iload_n 3, 1, 0, 0, 0), (.iload 4, 2, 0, 0, 0), (.invokevirtual 218, 3, 53, 4, 5), (.ireturn, 1, 0, 0, 0)]
def mt_X9_costAnew : MT := ((9, 1, 4), yX9_costAnew, cX9_costAnew, 6, (some .int), [], [(0, s_X9_costAnew_0)])
abbrev s_X9_least_0 : List Ent := [(.aload_n 0, 1, 0, 0, 0), (.iload_n 1, 1, 0, 0, 0), (.invokevirtual 82, 3, 82, 1, 7), (.astore_n 2, 1, 0, 0, 0), (.aload_n 0, 1, 0, 0, 0), (.getfield 49, 3, 7, 8, 3), (.aload_n 2, 1, 0, 0, 0), (.invokevirtual 166, 3, 35, 1, 4), (.aload_n 2, 1, 0, 0, 0), (.getfield 106, 3, 3, 0, 0), (.aload_n 0, 1, 0, 0, 0), (.getfield 49, 3, 7, 8, 3), (.aload_n 2, 1, 0, 0, 0), (.getfield 106, 3, 3, 0, 0), (.invokevirtual 222, 3, 38, 1, 4), (.isub, 1, 0, 0, 0), (.ireturn, 1, 0, 0, 0)]
def mt_X9_least : MT := ((9, 1, 1), yX9_least, cX9_least, 3, (some .int), [], [(0, s_X9_least_0)])
abbrev s_X9_leastAnew_0 : List Ent := [(.aload_n 0, 1, 0, 0, 0), (.getfield 56, 3, 7, 9, 3), (.aload_n 0, 1, 0, 0, 0), (.iload_n 1, 1, 0, 0, 0), (.invokevirtual 82, 3, 82, 1, 7), (.invokevirtual 225, 3, 5, 1, 0), (.ireturn, 1, 0, 0, 0)]
def mt_X9_leastAnew : MT := ((9, 1, 1), yX9_leastAnew, cX9_leastAnew, 2, (some .int), [], [(0, s_X9_leastAnew_0)])
abbrev s_X9_plantOf_0 : List Ent := [(.iload_n 1, 1, 0, 0, 0), (.ifCond .lt 11, 3, 0, 0, 0), (.iload_n 1, 1, 0, 0, 0), (.aload_n 0, 1, 0, 0, 0), (.getfield 78, 3, 7, 1, 0), (.if_icmp .lt 13, 3, 0, 0, 0)]
abbrev s_X9_plantOf_12 : List Ent := [(.new 161, 3, 100, 161, 0), (.dup, 1, 0, 0, 0), (.ldc 228, 2, 0, 0, 0), (.invokespecial 165, 3, 7777, 0, 0), (.athrow, 1, 0, 0, 0)]
abbrev s_X9_plantOf_22 : List Ent := [(.aload_n 0, 1, 0, 0, 0), (.getfield 11, 3, 7, 0, 3), (.iload_n 1, 1, 0, 0, 0), (.aaload, 1, 0, 0, 0), (.areturn, 1, 0, 0, 0)]
def mt_X9_plantOf : MT := ((9, 1, 1), yX9_plantOf, cX9_plantOf, 2, (some (.object "PoleShop$Plant")), [], [(0, s_X9_plantOf_0), (12, s_X9_plantOf_12), (22, s_X9_plantOf_22)])
abbrev s_X9_newPlant_0 : List Ent := [(.aload_n 0, 1, 0, 0, 0), (.getfield 78, 3, 7, 1, 0), (.bipush 12, 2, 0, 0, 0), (.if_icmp .lt 13, 3, 0, 0, 0), (.new 109, 3, 102, 109, 0), (.dup, 1, 0, 0, 0), (.ldc 230, 2, 0, 0, 0), (.invokespecial 113, 3, 7777, 0, 0), (.athrow, 1, 0, 0, 0)]
abbrev s_X9_newPlant_19 : List Ent := [(.aload_n 0, 1, 0, 0, 0), (.getfield 11, 3, 7, 0, 3), (.aload_n 0, 1, 0, 0, 0), (.getfield 78, 3, 7, 1, 0), (.aaload, 1, 0, 0, 0), (.astore_n 2, 1, 0, 0, 0), (.aload_n 2, 1, 0, 0, 0), (.iload_n 1, 1, 0, 0, 0), (.putfield 106, 3, 3, 0, 0), (.aload_n 0, 1, 0, 0, 0), (.dup, 1, 0, 0, 0), (.getfield 78, 3, 7, 1, 0), (.iconst 1, 1, 0, 0, 0), (.iadd, 1, 0, 0, 0), (.putfield 78, 3, 7, 1, 0), (.aload_n 2, 1, 0, 0, 0), (.areturn, 1, 0, 0, 0)]
def mt_X9_newPlant : MT := ((9, 1, 1), yX9_newPlant, cX9_newPlant, 3, (some (.object "PoleShop$Plant")), [], [(0, s_X9_newPlant_0), (19, s_X9_newPlant_19)])
abbrev s_X9_type_0 : List Ent := [(.iload_n 1, 1, 0, 0, 0), (.invokestatic 89, 3, 87, 1, 0), (.aload_n 0, 1, 0, 0, 0), (.invokevirtual 232, 3, 56, 0, 6), (.ifCond .eq 13, 3, 0, 0, 0), (.new 109, 3, 102, 109, 0), (.dup, 1, 0, 0, 0), (.ldc 236, 2, 0, 0, 0), (.invokespecial 113, 3, 7777, 0, 0), (.athrow, 1, 0, 0, 0)]
abbrev s_X9_type_21 : List Ent := [(.aload_n 0, 1, 0, 0, 0), (.iload_n 1, 1, 0, 0, 0), (.invokestatic 96, 3, 14, 1, 0), (.invokevirtual 238, 3, 57, 1, 6), (.ireturn, 1, 0, 0, 0)]
def mt_X9_type : MT := ((9, 0, 2), yX9_type, cX9_type, 2, (some .int), [], [(0, s_X9_type_0), (21, s_X9_type_21)])
abbrev s_X9_requireEntry_0 : List Ent := [(.iload_n 1, 1, 0, 0, 0), (.ifCond .lt 8, 3, 0, 0, 0), (.iload_n 1, 1, 0, 0, 0), (.iconst 3, 1, 0, 0, 0), (.if_icmp .le 13, 3, 0, 0, 0)]
abbrev s_X9_requireEntry_9 : List Ent := [(.new 161, 3, 100, 161, 0), (.dup, 1, 0, 0, 0), (.ldc 241, 2, 0, 0, 0), (.invokespecial 165, 3, 7777, 0, 0), (.athrow, 1, 0, 0, 0)]
abbrev s_X9_requireEntry_19 : List Ent := [(.iload_n 1, 1, 0, 0, 0), (.ifCond .eq 8, 3, 0, 0, 0), (.iload_n 1, 1, 0, 0, 0), (.iconst 1, 1, 0, 0, 0), (.if_icmp .ne 8, 3, 0, 0, 0)]
abbrev s_X9_requireEntry_28 : List Ent := [(.aload_n 0, 1, 0, 0, 0), (.iload_n 2, 1, 0, 0, 0), (.invokestatic 200, 3, 86, 2, 0)]
abbrev s_X9_requireEntry_33 : List Ent := [(.iload_n 1, 1, 0, 0, 0), (.ifCond .eq 8, 3, 0, 0, 0), (.iload_n 1, 1, 0, 0, 0), (.iconst 2, 1, 0, 0, 0), (.if_icmp .ne 8, 3, 0, 0, 0)]
abbrev s_X9_requireEntry_42 : List Ent := [(.aload_n 0, 1, 0, 0, 0), (.iload_n 3, 1, 0, 0, 0), (.invokestatic 200, 3, 86, 2, 0)]
abbrev s_X9_requireEntry_47 : List Ent := [(.return_, 1, 0, 0, 0)]
def mt_X9_requireEntry : MT := ((9, 0, 4), yX9_requireEntry, cX9_requireEntry, 4, none, [], [(0, s_X9_requireEntry_0), (9, s_X9_requireEntry_9), (19, s_X9_requireEntry_19), (28, s_X9_requireEntry_28), (33, s_X9_requireEntry_33), (42, s_X9_requireEntry_42), (47, s_X9_requireEntry_47)])
abbrev s_X9_requirePlace_0 : List Ent := [(.iload_n 1, 1, 0, 0, 0), (.ifCond .lt 11, 3, 0, 0, 0), (.iload_n 1, 1, 0, 0, 0), (.aload_n 0, 1, 0, 0, 0), (.getfield 106, 3, 3, 0, 0), (.if_icmp .lt 13, 3, 0, 0, 0)]
abbrev s_X9_requirePlace_12 : List Ent := [(.new 161, 3, 100, 161, 0), (.dup, 1, 0, 0, 0), (.ldc 243, 2, 0, 0, 0), (.invokespecial 165, 3, 7777, 0, 0), (.athrow, 1, 0, 0, 0)]
abbrev s_X9_requirePlace_22 : List Ent := [(.return_, 1, 0, 0, 0)]
def mt_X9_requirePlace : MT := ((9, 0, 2), yX9_requirePlace, cX9_requirePlace, 2, none, [], [(0, s_X9_requirePlace_0), (12, s_X9_requirePlace_12), (22, s_X9_requirePlace_22)])
abbrev s_X9_requireValue_0 : List Ent := [(.iload_n 0, 1, 0, 0, 0), (.sipush (-10007), 3, 0, 0, 0), (.if_icmp .le 10, 3, 0, 0, 0), (.iload_n 0, 1, 0, 0, 0), (.sipush 10007, 3, 0, 0, 0), (.if_icmp .lt 13, 3, 0, 0, 0)]
abbrev s_X9_requireValue_14 : List Ent := [(.new 67, 3, 101, 67, 0), (.dup, 1, 0, 0, 0), (.ldc 245, 2, 0, 0, 0), (.invokespecial 71, 3, 7777, 0, 0), (.athrow, 1, 0, 0, 0)]
abbrev s_X9_requireValue_24 : List Ent := [(.return_, 1, 0, 0, 0)]
def mt_X9_requireValue : MT := ((9, 0, 1), yX9_requireValue, cX9_requireValue, 1, none, [], [(0, s_X9_requireValue_0), (14, s_X9_requireValue_14), (24, s_X9_requireValue_24)])
abbrev s_X9_requireRange_0 : List Ent := [(.iload_n 0, 1, 0, 0, 0), (.ifCond .lt 8, 3, 0, 0, 0), (.iload_n 0, 1, 0, 0, 0), (.iload_n 1, 1, 0, 0, 0), (.if_icmp .le 13, 3, 0, 0, 0)]
abbrev s_X9_requireRange_9 : List Ent := [(.new 67, 3, 101, 67, 0), (.dup, 1, 0, 0, 0), (.ldc 247, 2, 0, 0, 0), (.invokespecial 71, 3, 7777, 0, 0), (.athrow, 1, 0, 0, 0)]
abbrev s_X9_requireRange_19 : List Ent := [(.return_, 1, 0, 0, 0)]
def mt_X9_requireRange : MT := ((9, 0, 2), yX9_requireRange, cX9_requireRange, 2, none, [], [(0, s_X9_requireRange_0), (9, s_X9_requireRange_9), (19, s_X9_requireRange_19)])
abbrev s_X9_requirePoles_0 : List Ent := [(.aload_n 0, 1, 0, 0, 0), (.getfield 20, 3, 7, 2, 3), (.getfield 141, 3, 6, 1, 0), (.iload_n 1, 1, 0, 0, 0), (.if_icmp .ge 13, 3, 0, 0, 0), (.new 109, 3, 102, 109, 0), (.dup, 1, 0, 0, 0), (.ldc 249, 2, 0, 0, 0), (.invokespecial 113, 3, 7777, 0, 0), (.athrow, 1, 0, 0, 0)]
abbrev s_X9_requirePoles_21 : List Ent := [(.return_, 1, 0, 0, 0)]
def mt_X9_requirePoles : MT := ((9, 1, 1), yX9_requirePoles, cX9_requirePoles, 2, none, [], [(0, s_X9_requirePoles_0), (21, s_X9_requirePoles_21)])
abbrev s_X9_findGains_0 : List Ent := [(.aload_n 0, 1, 0, 0, 0), (.aload_n 1, 1, 0, 0, 0), (.getfield 106, 3, 3, 0, 0), (.invokevirtual 203, 3, 89, 1, 7), (.aload_n 0, 1, 0, 0, 0), (.getfield 35, 3, 7, 5, 3), (.aload_n 1, 1, 0, 0, 0), (.aload_n 0, 1, 0, 0, 0), (.getfield 20, 3, 7, 2, 3), (.iconst 0, 1, 0, 0, 0), (.aload_n 0, 1, 0, 0, 0), (.getfield 39, 3, 7, 6, 3), (.invokevirtual 251, 3, 21, 4, 2), (.ifCond .ne 13, 3, 0, 0, 0), (.new 109, 3, 102, 109, 0), (.dup, 1, 0, 0, 0), (.ldc 210, 2, 0, 0, 0), (.invokespecial 113, 3, 7777, 0, 0), (.athrow, 1, 0, 0, 0)]
abbrev s_X9_findGains_38 : List Ent := [(.return_, 1, 0, 0, 0)]
def mt_X9_findGains : MT := ((9, 1, 1), yX9_findGains, cX9_findGains, 2, none, [], [(0, s_X9_findGains_0), (38, s_X9_findGains_38)])
abbrev s_X9_findWatch_0 : List Ent := [(.aload_n 0, 1, 0, 0, 0), (.iconst 2, 1, 0, 0, 0), (.aload_n 1, 1, 0, 0, 0), (.getfield 106, 3, 3, 0, 0), (.imul, 1, 0, 0, 0), (.invokevirtual 203, 3, 89, 1, 7), (.aload_n 0, 1, 0, 0, 0), (.getfield 28, 3, 7, 4, 3), (.aload_n 1, 1, 0, 0, 0), (.invokevirtual 179, 3, 33, 1, 3), (.aload_n 0, 1, 0, 0, 0), (.getfield 35, 3, 7, 5, 3), (.aload_n 0, 1, 0, 0, 0), (.getfield 28, 3, 7, 4, 3), (.aload_n 0, 1, 0, 0, 0), (.getfield 20, 3, 7, 2, 3), (.aload_n 1, 1, 0, 0, 0), (.getfield 106, 3, 3, 0, 0), (.aload_n 0, 1, 0, 0, 0), (.getfield 43, 3, 7, 7, 3), (.invokevirtual 251, 3, 21, 4, 2), (.ifCond .ne 13, 3, 0, 0, 0), (.new 109, 3, 102, 109, 0), (.dup, 1, 0, 0, 0), (.ldc 255, 2, 0, 0, 0), (.invokespecial 113, 3, 7777, 0, 0), (.athrow, 1, 0, 0, 0)]
abbrev s_X9_findWatch_54 : List Ent := [(.return_, 1, 0, 0, 0)]
def mt_X9_findWatch : MT := ((9, 1, 1), yX9_findWatch, cX9_findWatch, 2, none, [], [(0, s_X9_findWatch_0), (54, s_X9_findWatch_54)])
abbrev s_X9_goBack_0 : List Ent := [(.iload_n 2, 1, 0, 0, 0), (.sipush 10006, 3, 0, 0, 0), (.invokestatic 182, 3, 88, 2, 0), (.iload_n 3, 1, 0, 0, 0), (.sipush 10006, 3, 0, 0, 0), (.invokestatic 182, 3, 88, 2, 0), (.iload 4, 2, 0, 0, 0), (.bipush 20, 2, 0, 0, 0), (.invokestatic 182, 3, 88, 2, 0), (.aload_n 0, 1, 0, 0, 0), (.getfield 63, 3, 7, 10, 3), (.aload_n 1, 1, 0, 0, 0), (.iload_n 2, 1, 0, 0, 0), (.iload_n 3, 1, 0, 0, 0), (.iload 4, 2, 0, 0, 0), (.invokevirtual 257, 3, 48, 4, 5), (.ifCond .ne 14, 3, 0, 0, 0), (.new 109, 3, 102, 109, 0), (.dup, 1, 0, 0, 0), (.ldc_w 260, 3, 0, 0, 0), (.invokespecial 113, 3, 7777, 0, 0), (.athrow, 1, 0, 0, 0)]
abbrev s_X9_goBack_47 : List Ent := [(.return_, 1, 0, 0, 0)]
def mt_X9_goBack : MT := ((9, 1, 4), yX9_goBack, cX9_goBack, 5, none, [], [(0, s_X9_goBack_0), (47, s_X9_goBack_47)])
abbrev s_L_part_0 : List Ent := [(.iload_n 1, 1, 0, 0, 0), (.aload_n 0, 1, 0, 0, 0), (.arraylength, 1, 0, 0, 0), (.if_icmp .ge 9, 3, 0, 0, 0), (.aload_n 0, 1, 0, 0, 0), (.iload_n 1, 1, 0, 0, 0), (.iaload, 1, 0, 0, 0), (.goto 16, 3, 0, 0, 0)]
abbrev s_L_part_12 : List Ent := [(.sipush 937, 3, 0, 0, 0), (.iload_n 1, 1, 0, 0, 0), (.imul, 1, 0, 0, 0), (.sipush 809, 3, 0, 0, 0), (.iload_n 1, 1, 0, 0, 0), (.imul, 1, 0, 0, 0), (.iload_n 1, 1, 0, 0, 0), (.imul, 1, 0, 0, 0), (.iadd, 1, 0, 0, 0)]
abbrev s_L_part_25 : List Ent := [(.istore_n 3, 1, 0, 0, 0), (.iload_n 3, 1, 0, 0, 0), (.ldc 7, 2, 0, 0, 0), (.iand, 1, 0, 0, 0), (.iload_n 2, 1, 0, 0, 0), (.irem, 1, 0, 0, 0), (.ireturn, 1, 0, 0, 0)]
def mt_L_part : MT := ((11, 0, 3), yL_part, cL_part, 4, (some .int), [], [(0, s_L_part_0), (12, s_L_part_12), (25, s_L_part_25)])
abbrev s_L_does_0 : List Ent := [(.iload_n 1, 1, 0, 0, 0), (.ifCond .ne 11, 3, 0, 0, 0), (.aload_n 0, 1, 0, 0, 0), (.iload_n 2, 1, 0, 0, 0), (.invokevirtual 8, 3, 59, 1, 7), (.goto 264, 3, 0, 0, 0)]
abbrev s_L_does_12 : List Ent := [(.iload_n 1, 1, 0, 0, 0), (.iconst 1, 1, 0, 0, 0), (.if_icmp .ne 18, 3, 0, 0, 0), (.aload_n 0, 1, 0, 0, 0), (.iload_n 2, 1, 0, 0, 0), (.iload_n 3, 1, 0, 0, 0), (.iload 4, 2, 0, 0, 0), (.iload 5, 2, 0, 0, 0), (.iload 6, 2, 0, 0, 0), (.invokevirtual 14, 3, 60, 5, 7), (.goto 244, 3, 0, 0, 0)]
abbrev s_L_does_32 : List Ent := [(.iload_n 1, 1, 0, 0, 0), (.iconst 2, 1, 0, 0, 0), (.if_icmp .ne 23, 3, 0, 0, 0), (.aload_n 0, 1, 0, 0, 0), (.iload_n 2, 1, 0, 0, 0), (.iload_n 3, 1, 0, 0, 0), (.iload 4, 2, 0, 0, 0), (.iconst 1, 1, 0, 0, 0), (.if_icmp .ne 7, 3, 0, 0, 0), (.iconst 1, 1, 0, 0, 0), (.goto 4, 3, 0, 0, 0)]
abbrev s_L_does_50 : List Ent := [(.iconst 0, 1, 0, 0, 0)]
abbrev s_L_does_51 : List Ent := [(.invokevirtual 18, 3, 61, 3, 7), (.goto 219, 3, 0, 0, 0)]
abbrev s_L_does_57 : List Ent := [(.iload_n 1, 1, 0, 0, 0), (.iconst 3, 1, 0, 0, 0), (.if_icmp .ne 12, 3, 0, 0, 0), (.aload_n 0, 1, 0, 0, 0), (.iload_n 2, 1, 0, 0, 0), (.iload_n 3, 1, 0, 0, 0), (.invokevirtual 22, 3, 62, 2, 7), (.goto 205, 3, 0, 0, 0)]
abbrev s_L_does_71 : List Ent := [(.iload_n 1, 1, 0, 0, 0), (.iconst 4, 1, 0, 0, 0), (.if_icmp .ne 11, 3, 0, 0, 0), (.aload_n 0, 1, 0, 0, 0), (.iload_n 2, 1, 0, 0, 0), (.invokevirtual 26, 3, 63, 1, 7), (.goto 192, 3, 0, 0, 0)]
abbrev s_L_does_84 : List Ent := [(.iload_n 1, 1, 0, 0, 0), (.iconst 5, 1, 0, 0, 0), (.if_icmp .ne 11, 3, 0, 0, 0), (.aload_n 0, 1, 0, 0, 0), (.iload_n 2, 1, 0, 0, 0), (.invokevirtual 29, 3, 64, 1, 7), (.goto 179, 3, 0, 0, 0)]
abbrev s_L_does_97 : List Ent := [(.iload_n 1, 1, 0, 0, 0), (.bipush 6, 2, 0, 0, 0), (.if_icmp .ne 11, 3, 0, 0, 0), (.aload_n 0, 1, 0, 0, 0), (.iload_n 2, 1, 0, 0, 0), (.invokevirtual 32, 3, 66, 1, 7), (.goto 165, 3, 0, 0, 0)]
abbrev s_L_does_111 : List Ent := [(.iload_n 1, 1, 0, 0, 0), (.bipush 7, 2, 0, 0, 0), (.if_icmp .ne 11, 3, 0, 0, 0), (.aload_n 0, 1, 0, 0, 0), (.iload_n 2, 1, 0, 0, 0), (.invokevirtual 35, 3, 67, 1, 7), (.goto 151, 3, 0, 0, 0)]
abbrev s_L_does_125 : List Ent := [(.iload_n 1, 1, 0, 0, 0), (.bipush 8, 2, 0, 0, 0), (.if_icmp .ne 16, 3, 0, 0, 0), (.aload_n 0, 1, 0, 0, 0), (.iload_n 2, 1, 0, 0, 0), (.iload_n 3, 1, 0, 0, 0), (.iload 4, 2, 0, 0, 0), (.iload 5, 2, 0, 0, 0), (.invokevirtual 38, 3, 68, 4, 7), (.goto 132, 3, 0, 0, 0)]
abbrev s_L_does_144 : List Ent := [(.iload_n 1, 1, 0, 0, 0), (.bipush 9, 2, 0, 0, 0), (.if_icmp .ne 23, 3, 0, 0, 0), (.aload_n 0, 1, 0, 0, 0), (.iload_n 2, 1, 0, 0, 0), (.iload_n 3, 1, 0, 0, 0), (.iload 4, 2, 0, 0, 0), (.iconst 1, 1, 0, 0, 0), (.if_icmp .ne 7, 3, 0, 0, 0), (.iconst 1, 1, 0, 0, 0), (.goto 4, 3, 0, 0, 0)]
abbrev s_L_does_163 : List Ent := [(.iconst 0, 1, 0, 0, 0)]
abbrev s_L_does_164 : List Ent := [(.invokevirtual 42, 3, 70, 3, 7), (.goto 106, 3, 0, 0, 0)]
abbrev s_L_does_170 : List Ent := [(.iload_n 1, 1, 0, 0, 0), (.bipush 10, 2, 0, 0, 0), (.if_icmp .ne 12, 3, 0, 0, 0), (.aload_n 0, 1, 0, 0, 0), (.iload_n 2, 1, 0, 0, 0), (.iload_n 3, 1, 0, 0, 0), (.invokevirtual 45, 3, 75, 2, 7), (.goto 91, 3, 0, 0, 0)]
abbrev s_L_does_185 : List Ent := [(.iload_n 1, 1, 0, 0, 0), (.bipush 11, 2, 0, 0, 0), (.if_icmp .ne 12, 3, 0, 0, 0), (.aload_n 0, 1, 0, 0, 0), (.iload_n 2, 1, 0, 0, 0), (.iload_n 3, 1, 0, 0, 0), (.invokevirtual 48, 3, 76, 2, 7), (.goto 76, 3, 0, 0, 0)]
abbrev s_L_does_200 : List Ent := [(.iload_n 1, 1, 0, 0, 0), (.bipush 12, 2, 0, 0, 0), (.if_icmp .ne 12, 3, 0, 0, 0), (.aload_n 0, 1, 0, 0, 0), (.iload_n 2, 1, 0, 0, 0), (.iload_n 3, 1, 0, 0, 0), (.invokevirtual 51, 3, 77, 2, 7), (.goto 61, 3, 0, 0, 0)]
abbrev s_L_does_215 : List Ent := [(.iload_n 1, 1, 0, 0, 0), (.bipush 13, 2, 0, 0, 0), (.if_icmp .ne 16, 3, 0, 0, 0), (.aload_n 0, 1, 0, 0, 0), (.iload_n 2, 1, 0, 0, 0), (.iload_n 3, 1, 0, 0, 0), (.iload 4, 2, 0, 0, 0), (.iload 5, 2, 0, 0, 0), (.invokevirtual 54, 3, 78, 4, 7), (.goto 42, 3, 0, 0, 0)]
abbrev s_L_does_234 : List Ent := [(.iload_n 1, 1, 0, 0, 0), (.bipush 14, 2, 0, 0, 0), (.if_icmp .ne 16, 3, 0, 0, 0), (.aload_n 0, 1, 0, 0, 0), (.iload_n 2, 1, 0, 0, 0), (.iload_n 3, 1, 0, 0, 0), (.iload 4, 2, 0, 0, 0), (.iload 5, 2, 0, 0, 0), (.invokevirtual 57, 3, 79, 4, 7), (.goto 23, 3, 0, 0, 0)]
abbrev s_L_does_253 : List Ent := [(.iload_n 1, 1, 0, 0, 0), (.bipush 15, 2, 0, 0, 0), (.if_icmp .ne 12, 3, 0, 0, 0), (.aload_n 0, 1, 0, 0, 0), (.iload_n 2, 1, 0, 0, 0), (.iload_n 3, 1, 0, 0, 0), (.invokevirtual 60, 3, 72, 2, 7), (.goto 8, 3, 0, 0, 0)]
abbrev s_L_does_268 : List Ent := [(.aload_n 0, 1, 0, 0, 0), (.iload_n 2, 1, 0, 0, 0), (.invokevirtual 63, 3, 69, 1, 7)]
abbrev s_L_does_273 : List Ent := [(.ireturn, 1, 0, 0, 0)]
abbrev s_L_does_274 : List Ent := [(.astore 7, 2, 0, 0, 0), (.sipush (-3000), 3, 0, 0, 0), (.ireturn, 1, 0, 0, 0)]
abbrev s_L_does_280 : List Ent := [(.astore 7, 2, 0, 0, 0), (.sipush (-2000), 3, 0, 0, 0), (.ireturn, 1, 0, 0, 0)]
abbrev s_L_does_286 : List Ent := [(.astore 7, 2, 0, 0, 0), (.sipush (-1000), 3, 0, 0, 0), (.ireturn, 1, 0, 0, 0)]
def mt_L_does : MT := ((11, 0, 7), yL_does, cL_does, 8, (some .int), [(0, 273, 274, 66), (0, 273, 280, 68), (0, 273, 286, 70)], [(0, s_L_does_0), (12, s_L_does_12), (32, s_L_does_32), (50, s_L_does_50), (51, s_L_does_51), (57, s_L_does_57), (71, s_L_does_71), (84, s_L_does_84), (97, s_L_does_97), (111, s_L_does_111), (125, s_L_does_125), (144, s_L_does_144), (163, s_L_does_163), (164, s_L_does_164), (170, s_L_does_170), (185, s_L_does_185), (200, s_L_does_200), (215, s_L_does_215), (234, s_L_does_234), (253, s_L_does_253), (268, s_L_does_268), (273, s_L_does_273), (274, s_L_does_274), (280, s_L_does_280), (286, s_L_does_286)])
abbrev s_L_rest_0 : List Ent := [(.iload_n 0, 1, 0, 0, 0), (.sipush 10007, 3, 0, 0, 0), (.irem, 1, 0, 0, 0), (.istore_n 1, 1, 0, 0, 0), (.iload_n 1, 1, 0, 0, 0), (.ifCond .ge 11, 3, 0, 0, 0), (.iload_n 1, 1, 0, 0, 0), (.sipush 10007, 3, 0, 0, 0), (.iadd, 1, 0, 0, 0), (.goto 4, 3, 0, 0, 0)]
abbrev s_L_rest_18 : List Ent := [(.iload_n 1, 1, 0, 0, 0)]
abbrev s_L_rest_19 : List Ent := [(.ireturn, 1, 0, 0, 0)]
def mt_L_rest : MT := ((11, 0, 1), yL_rest, cL_rest, 2, (some .int), [], [(0, s_L_rest_0), (18, s_L_rest_18), (19, s_L_rest_19)])
abbrev s_L_inverse_0 : List Ent := [(.iconst 1, 1, 0, 0, 0), (.istore_n 1, 1, 0, 0, 0), (.iload_n 0, 1, 0, 0, 0), (.invokestatic 72, 3, 95, 1, 0), (.istore_n 2, 1, 0, 0, 0), (.sipush 10005, 3, 0, 0, 0), (.istore_n 3, 1, 0, 0, 0)]
abbrev s_L_inverse_11 : List Ent := [(.iload_n 3, 1, 0, 0, 0), (.ifCond .le 37, 3, 0, 0, 0), (.iload_n 3, 1, 0, 0, 0), (.iconst 2, 1, 0, 0, 0), (.irem, 1, 0, 0, 0), (.iconst 1, 1, 0, 0, 0), (.if_icmp .ne 13, 3, 0, 0, 0), (.iload_n 1, 1, 0, 0, 0), (.iload_n 2, 1, 0, 0, 0), (.imul, 1, 0, 0, 0), (.sipush 10007, 3, 0, 0, 0), (.irem, 1, 0, 0, 0), (.goto 4, 3, 0, 0, 0)]
abbrev s_L_inverse_32 : List Ent := [(.iload_n 1, 1, 0, 0, 0)]
abbrev s_L_inverse_33 : List Ent := [(.istore_n 1, 1, 0, 0, 0), (.iload_n 2, 1, 0, 0, 0), (.iload_n 2, 1, 0, 0, 0), (.imul, 1, 0, 0, 0), (.sipush 10007, 3, 0, 0, 0), (.irem, 1, 0, 0, 0), (.istore_n 2, 1, 0, 0, 0), (.iload_n 3, 1, 0, 0, 0), (.iconst 2, 1, 0, 0, 0), (.idiv, 1, 0, 0, 0), (.istore_n 3, 1, 0, 0, 0), (.goto (-35), 3, 0, 0, 0)]
abbrev s_L_inverse_49 : List Ent := [(.iload_n 1, 1, 0, 0, 0), (.ireturn, 1, 0, 0, 0)]
def mt_L_inverse : MT := ((11, 0, 1), yL_inverse, cL_inverse, 4, (some .int), [], [(0, s_L_inverse_0), (11, s_L_inverse_11), (32, s_L_inverse_32), (33, s_L_inverse_33), (49, s_L_inverse_49)])
abbrev s_L_reads_0 : List Ent := [(.aload_n 3, 1, 0, 0, 0), (.bipush 17, 2, 0, 0, 0), (.aload_n 0, 1, 0, 0, 0), (.iload_n 1, 1, 0, 0, 0), (.invokevirtual 63, 3, 69, 1, 7), (.iastore, 1, 0, 0, 0), (.iconst 0, 1, 0, 0, 0), (.istore 4, 2, 0, 0, 0)]
abbrev s_L_reads_12 : List Ent := [(.iload 4, 2, 0, 0, 0), (.aload_n 3, 1, 0, 0, 0), (.bipush 17, 2, 0, 0, 0), (.iaload, 1, 0, 0, 0), (.if_icmp .ge 77, 3, 0, 0, 0), (.iconst 0, 1, 0, 0, 0), (.istore 5, 2, 0, 0, 0)]
abbrev s_L_reads_24 : List Ent := [(.iload 5, 2, 0, 0, 0), (.aload_n 3, 1, 0, 0, 0), (.bipush 17, 2, 0, 0, 0), (.iaload, 1, 0, 0, 0), (.if_icmp .ge 29, 3, 0, 0, 0), (.aload_n 2, 1, 0, 0, 0), (.bipush 8, 2, 0, 0, 0), (.iload 4, 2, 0, 0, 0), (.imul, 1, 0, 0, 0), (.iload 5, 2, 0, 0, 0), (.iadd, 1, 0, 0, 0), (.aload_n 0, 1, 0, 0, 0), (.iload_n 1, 1, 0, 0, 0), (.iconst 0, 1, 0, 0, 0), (.iload 4, 2, 0, 0, 0), (.iload 5, 2, 0, 0, 0), (.invokevirtual 38, 3, 68, 4, 7), (.iastore, 1, 0, 0, 0), (.iinc 5 1, 3, 0, 0, 0), (.goto (-32), 3, 0, 0, 0)]
abbrev s_L_reads_59 : List Ent := [(.aload_n 3, 1, 0, 0, 0), (.iload 4, 2, 0, 0, 0), (.aload_n 0, 1, 0, 0, 0), (.iload_n 1, 1, 0, 0, 0), (.iconst 1, 1, 0, 0, 0), (.iload 4, 2, 0, 0, 0), (.iconst (-1), 1, 0, 0, 0), (.invokevirtual 38, 3, 68, 4, 7), (.iastore, 1, 0, 0, 0), (.aload_n 3, 1, 0, 0, 0), (.bipush 8, 2, 0, 0, 0), (.iload 4, 2, 0, 0, 0), (.iadd, 1, 0, 0, 0), (.aload_n 0, 1, 0, 0, 0), (.iload_n 1, 1, 0, 0, 0), (.iconst 2, 1, 0, 0, 0), (.bipush 99, 2, 0, 0, 0), (.iload 4, 2, 0, 0, 0), (.invokevirtual 38, 3, 68, 4, 7), (.iastore, 1, 0, 0, 0), (.iinc 4 1, 3, 0, 0, 0), (.goto (-80), 3, 0, 0, 0)]
abbrev s_L_reads_95 : List Ent := [(.aload_n 3, 1, 0, 0, 0), (.bipush 16, 2, 0, 0, 0), (.aload_n 0, 1, 0, 0, 0), (.iload_n 1, 1, 0, 0, 0), (.iconst 3, 1, 0, 0, 0), (.bipush (-5), 2, 0, 0, 0), (.bipush 77, 2, 0, 0, 0), (.invokevirtual 38, 3, 68, 4, 7), (.iastore, 1, 0, 0, 0), (.return_, 1, 0, 0, 0)]
def mt_L_reads : MT := ((11, 0, 4), yL_reads, cL_reads, 6, none, [], [(0, s_L_reads_0), (12, s_L_reads_12), (24, s_L_reads_24), (59, s_L_reads_59), (95, s_L_reads_95)])
abbrev s_L_determinant_0 : List Ent := [(.iconst 1, 1, 0, 0, 0), (.istore_n 2, 1, 0, 0, 0), (.iconst 0, 1, 0, 0, 0), (.istore_n 3, 1, 0, 0, 0), (.iconst 0, 1, 0, 0, 0), (.istore 4, 2, 0, 0, 0)]
abbrev s_L_determinant_7 : List Ent := [(.iload 4, 2, 0, 0, 0), (.iload_n 1, 1, 0, 0, 0), (.if_icmp .ge 239, 3, 0, 0, 0), (.iload_n 3, 1, 0, 0, 0), (.istore 5, 2, 0, 0, 0)]
abbrev s_L_determinant_16 : List Ent := [(.iload 5, 2, 0, 0, 0), (.iload_n 1, 1, 0, 0, 0), (.if_icmp .ge 22, 3, 0, 0, 0), (.aload_n 0, 1, 0, 0, 0), (.bipush 8, 2, 0, 0, 0), (.iload 5, 2, 0, 0, 0), (.imul, 1, 0, 0, 0), (.iload 4, 2, 0, 0, 0), (.iadd, 1, 0, 0, 0), (.iaload, 1, 0, 0, 0), (.ifCond .ne 9, 3, 0, 0, 0), (.iinc 5 1, 3, 0, 0, 0), (.goto (-22), 3, 0, 0, 0)]
abbrev s_L_determinant_41 : List Ent := [(.iload 5, 2, 0, 0, 0), (.iload_n 1, 1, 0, 0, 0), (.if_icmp .ne 8, 3, 0, 0, 0), (.iconst 0, 1, 0, 0, 0), (.istore_n 2, 1, 0, 0, 0), (.goto 194, 3, 0, 0, 0)]
abbrev s_L_determinant_52 : List Ent := [(.iconst 0, 1, 0, 0, 0), (.istore 6, 2, 0, 0, 0)]
abbrev s_L_determinant_55 : List Ent := [(.iload 6, 2, 0, 0, 0), (.iload_n 1, 1, 0, 0, 0), (.if_icmp .ge 61, 3, 0, 0, 0), (.iload 5, 2, 0, 0, 0), (.iload_n 3, 1, 0, 0, 0), (.if_icmp .le 55, 3, 0, 0, 0), (.aload_n 0, 1, 0, 0, 0), (.bipush 8, 2, 0, 0, 0), (.iload 5, 2, 0, 0, 0), (.imul, 1, 0, 0, 0), (.iload 6, 2, 0, 0, 0), (.iadd, 1, 0, 0, 0), (.iaload, 1, 0, 0, 0), (.istore 7, 2, 0, 0, 0), (.aload_n 0, 1, 0, 0, 0), (.bipush 8, 2, 0, 0, 0), (.iload 5, 2, 0, 0, 0), (.imul, 1, 0, 0, 0), (.iload 6, 2, 0, 0, 0), (.iadd, 1, 0, 0, 0), (.aload_n 0, 1, 0, 0, 0), (.bipush 8, 2, 0, 0, 0), (.iload_n 3, 1, 0, 0, 0), (.imul, 1, 0, 0, 0), (.iload 6, 2, 0, 0, 0), (.iadd, 1, 0, 0, 0), (.iaload, 1, 0, 0, 0), (.iastore, 1, 0, 0, 0), (.aload_n 0, 1, 0, 0, 0), (.bipush 8, 2, 0, 0, 0), (.iload_n 3, 1, 0, 0, 0), (.imul, 1, 0, 0, 0), (.iload 6, 2, 0, 0, 0), (.iadd, 1, 0, 0, 0), (.iload 7, 2, 0, 0, 0), (.ineg, 1, 0, 0, 0), (.invokestatic 72, 3, 95, 1, 0), (.iastore, 1, 0, 0, 0), (.iinc 6 1, 3, 0, 0, 0), (.goto (-61), 3, 0, 0, 0)]
abbrev s_L_determinant_119 : List Ent := [(.aload_n 0, 1, 0, 0, 0), (.bipush 8, 2, 0, 0, 0), (.iload_n 3, 1, 0, 0, 0), (.imul, 1, 0, 0, 0), (.iload 4, 2, 0, 0, 0), (.iadd, 1, 0, 0, 0), (.iaload, 1, 0, 0, 0), (.invokestatic 77, 3, 96, 1, 0), (.istore 6, 2, 0, 0, 0), (.iload_n 2, 1, 0, 0, 0), (.aload_n 0, 1, 0, 0, 0), (.bipush 8, 2, 0, 0, 0), (.iload_n 3, 1, 0, 0, 0), (.imul, 1, 0, 0, 0), (.iload 4, 2, 0, 0, 0), (.iadd, 1, 0, 0, 0), (.iaload, 1, 0, 0, 0), (.imul, 1, 0, 0, 0), (.sipush 10007, 3, 0, 0, 0), (.irem, 1, 0, 0, 0), (.istore_n 2, 1, 0, 0, 0), (.iload_n 3, 1, 0, 0, 0), (.iconst 1, 1, 0, 0, 0), (.iadd, 1, 0, 0, 0), (.istore 7, 2, 0, 0, 0)]
abbrev s_L_determinant_154 : List Ent := [(.iload 7, 2, 0, 0, 0), (.iload_n 1, 1, 0, 0, 0), (.if_icmp .ge 83, 3, 0, 0, 0), (.aload_n 0, 1, 0, 0, 0), (.bipush 8, 2, 0, 0, 0), (.iload 7, 2, 0, 0, 0), (.imul, 1, 0, 0, 0), (.iload 4, 2, 0, 0, 0), (.iadd, 1, 0, 0, 0), (.iaload, 1, 0, 0, 0), (.iload 6, 2, 0, 0, 0), (.imul, 1, 0, 0, 0), (.sipush 10007, 3, 0, 0, 0), (.irem, 1, 0, 0, 0), (.istore 8, 2, 0, 0, 0), (.iconst 0, 1, 0, 0, 0), (.istore 9, 2, 0, 0, 0)]
abbrev s_L_determinant_182 : List Ent := [(.iload 9, 2, 0, 0, 0), (.iload_n 1, 1, 0, 0, 0), (.if_icmp .ge 49, 3, 0, 0, 0), (.aload_n 0, 1, 0, 0, 0), (.bipush 8, 2, 0, 0, 0), (.iload 7, 2, 0, 0, 0), (.imul, 1, 0, 0, 0), (.iload 9, 2, 0, 0, 0), (.iadd, 1, 0, 0, 0), (.aload_n 0, 1, 0, 0, 0), (.bipush 8, 2, 0, 0, 0), (.iload 7, 2, 0, 0, 0), (.imul, 1, 0, 0, 0), (.iload 9, 2, 0, 0, 0), (.iadd, 1, 0, 0, 0), (.iaload, 1, 0, 0, 0), (.iload 8, 2, 0, 0, 0), (.aload_n 0, 1, 0, 0, 0), (.bipush 8, 2, 0, 0, 0), (.iload_n 3, 1, 0, 0, 0), (.imul, 1, 0, 0, 0), (.iload 9, 2, 0, 0, 0), (.iadd, 1, 0, 0, 0), (.iaload, 1, 0, 0, 0), (.imul, 1, 0, 0, 0), (.sipush 10007, 3, 0, 0, 0), (.irem, 1, 0, 0, 0), (.isub, 1, 0, 0, 0), (.invokestatic 72, 3, 95, 1, 0), (.iastore, 1, 0, 0, 0), (.iinc 9 1, 3, 0, 0, 0), (.goto (-49), 3, 0, 0, 0)]
abbrev s_L_determinant_234 : List Ent := [(.iinc 7 1, 3, 0, 0, 0), (.goto (-83), 3, 0, 0, 0)]
abbrev s_L_determinant_240 : List Ent := [(.iinc 3 1, 3, 0, 0, 0)]
abbrev s_L_determinant_243 : List Ent := [(.iinc 4 1, 3, 0, 0, 0), (.goto (-239), 3, 0, 0, 0)]
abbrev s_L_determinant_249 : List Ent := [(.iload_n 3, 1, 0, 0, 0), (.iload_n 1, 1, 0, 0, 0), (.if_icmp .ne 7, 3, 0, 0, 0), (.iload_n 2, 1, 0, 0, 0), (.goto 7, 3, 0, 0, 0)]
abbrev s_L_determinant_258 : List Ent := [(.iload_n 3, 1, 0, 0, 0), (.ldc 80, 2, 0, 0, 0), (.isub, 1, 0, 0, 0)]
abbrev s_L_determinant_262 : List Ent := [(.ireturn, 1, 0, 0, 0)]
def mt_L_determinant : MT := ((11, 0, 2), yL_determinant, cL_determinant, 10, (some .int), [], [(0, s_L_determinant_0), (7, s_L_determinant_7), (16, s_L_determinant_16), (41, s_L_determinant_41), (52, s_L_determinant_52), (55, s_L_determinant_55), (119, s_L_determinant_119), (154, s_L_determinant_154), (182, s_L_determinant_182), (234, s_L_determinant_234), (240, s_L_determinant_240), (243, s_L_determinant_243), (249, s_L_determinant_249), (258, s_L_determinant_258), (262, s_L_determinant_262)])
abbrev s_L_rank_0 : List Ent := [(.aload_n 0, 1, 0, 0, 0), (.iload_n 1, 1, 0, 0, 0), (.invokestatic 81, 3, 98, 2, 0), (.istore_n 2, 1, 0, 0, 0), (.iload_n 2, 1, 0, 0, 0), (.ifCond .ge 10, 3, 0, 0, 0), (.iload_n 2, 1, 0, 0, 0), (.ldc 80, 2, 0, 0, 0), (.iadd, 1, 0, 0, 0), (.goto 4, 3, 0, 0, 0)]
abbrev s_L_rank_17 : List Ent := [(.iload_n 1, 1, 0, 0, 0)]
abbrev s_L_rank_18 : List Ent := [(.ireturn, 1, 0, 0, 0)]
def mt_L_rank : MT := ((11, 0, 2), yL_rank, cL_rank, 3, (some .int), [], [(0, s_L_rank_0), (17, s_L_rank_17), (18, s_L_rank_18)])
abbrev s_L_value_0 : List Ent := [(.iconst 0, 1, 0, 0, 0), (.istore_n 3, 1, 0, 0, 0), (.iload_n 1, 1, 0, 0, 0), (.istore 4, 2, 0, 0, 0)]
abbrev s_L_value_5 : List Ent := [(.iload 4, 2, 0, 0, 0), (.ifCond .lt 22, 3, 0, 0, 0), (.iload_n 3, 1, 0, 0, 0), (.iload_n 2, 1, 0, 0, 0), (.imul, 1, 0, 0, 0), (.aload_n 0, 1, 0, 0, 0), (.iload 4, 2, 0, 0, 0), (.iaload, 1, 0, 0, 0), (.iadd, 1, 0, 0, 0), (.sipush 10007, 3, 0, 0, 0), (.irem, 1, 0, 0, 0), (.istore_n 3, 1, 0, 0, 0), (.iinc 4 (-1), 3, 0, 0, 0), (.goto (-21), 3, 0, 0, 0)]
abbrev s_L_value_29 : List Ent := [(.iload_n 3, 1, 0, 0, 0), (.ireturn, 1, 0, 0, 0)]
def mt_L_value : MT := ((11, 0, 3), yL_value, cL_value, 5, (some .int), [], [(0, s_L_value_0), (5, s_L_value_5), (29, s_L_value_29)])
abbrev s_L_at_0 : List Ent := [(.bipush 64, 2, 0, 0, 0), (.newarray .int, 2, 0, 0, 0), (.astore 4, 2, 0, 0, 0), (.aload_n 1, 1, 0, 0, 0), (.bipush 17, 2, 0, 0, 0), (.iaload, 1, 0, 0, 0), (.istore 5, 2, 0, 0, 0), (.iconst 0, 1, 0, 0, 0), (.istore 6, 2, 0, 0, 0)]
abbrev s_L_at_15 : List Ent := [(.iload 6, 2, 0, 0, 0), (.iload 5, 2, 0, 0, 0), (.if_icmp .ge 81, 3, 0, 0, 0), (.iconst 0, 1, 0, 0, 0), (.istore 7, 2, 0, 0, 0)]
abbrev s_L_at_25 : List Ent := [(.iload 7, 2, 0, 0, 0), (.iload 5, 2, 0, 0, 0), (.if_icmp .ge 65, 3, 0, 0, 0), (.aload 4, 2, 0, 0, 0), (.bipush 8, 2, 0, 0, 0), (.iload 6, 2, 0, 0, 0), (.imul, 1, 0, 0, 0), (.iload 7, 2, 0, 0, 0), (.iadd, 1, 0, 0, 0), (.iload 6, 2, 0, 0, 0), (.iload 7, 2, 0, 0, 0), (.if_icmp .ne 7, 3, 0, 0, 0), (.iload_n 2, 1, 0, 0, 0), (.goto 4, 3, 0, 0, 0)]
abbrev s_L_at_53 : List Ent := [(.iconst 0, 1, 0, 0, 0)]
abbrev s_L_at_54 : List Ent := [(.aload_n 0, 1, 0, 0, 0), (.bipush 8, 2, 0, 0, 0), (.iload 6, 2, 0, 0, 0), (.imul, 1, 0, 0, 0), (.iload 7, 2, 0, 0, 0), (.iadd, 1, 0, 0, 0), (.iaload, 1, 0, 0, 0), (.isub, 1, 0, 0, 0), (.iload_n 3, 1, 0, 0, 0), (.aload_n 1, 1, 0, 0, 0), (.iload 6, 2, 0, 0, 0), (.iaload, 1, 0, 0, 0), (.imul, 1, 0, 0, 0), (.aload_n 1, 1, 0, 0, 0), (.bipush 8, 2, 0, 0, 0), (.iload 7, 2, 0, 0, 0), (.iadd, 1, 0, 0, 0), (.iaload, 1, 0, 0, 0), (.imul, 1, 0, 0, 0), (.sipush 10007, 3, 0, 0, 0), (.irem, 1, 0, 0, 0), (.iadd, 1, 0, 0, 0), (.invokestatic 72, 3, 95, 1, 0), (.iastore, 1, 0, 0, 0), (.iinc 7 1, 3, 0, 0, 0), (.goto (-66), 3, 0, 0, 0)]
abbrev s_L_at_94 : List Ent := [(.iinc 6 1, 3, 0, 0, 0), (.goto (-82), 3, 0, 0, 0)]
abbrev s_L_at_100 : List Ent := [(.aload 4, 2, 0, 0, 0), (.iload 5, 2, 0, 0, 0), (.invokestatic 81, 3, 98, 2, 0), (.istore 6, 2, 0, 0, 0), (.iload 6, 2, 0, 0, 0), (.ifCond .ge 7, 3, 0, 0, 0), (.iconst 0, 1, 0, 0, 0), (.goto 5, 3, 0, 0, 0)]
abbrev s_L_at_118 : List Ent := [(.iload 6, 2, 0, 0, 0)]
abbrev s_L_at_120 : List Ent := [(.ireturn, 1, 0, 0, 0)]
def mt_L_at : MT := ((11, 0, 4), yL_at, cL_at, 8, (some .int), [], [(0, s_L_at_0), (15, s_L_at_15), (25, s_L_at_25), (53, s_L_at_53), (54, s_L_at_54), (94, s_L_at_94), (100, s_L_at_100), (118, s_L_at_118), (120, s_L_at_120)])
abbrev s_L_goes_0 : List Ent := [(.bipush 8, 2, 0, 0, 0), (.newarray .int, 2, 0, 0, 0), (.astore 4, 2, 0, 0, 0), (.iconst 0, 1, 0, 0, 0), (.istore 5, 2, 0, 0, 0)]
abbrev s_L_goes_9 : List Ent := [(.iload 5, 2, 0, 0, 0), (.iload_n 1, 1, 0, 0, 0), (.if_icmp .ge 71, 3, 0, 0, 0), (.iconst 0, 1, 0, 0, 0), (.istore 6, 2, 0, 0, 0)]
abbrev s_L_goes_18 : List Ent := [(.iload 6, 2, 0, 0, 0), (.iload_n 1, 1, 0, 0, 0), (.if_icmp .ge 56, 3, 0, 0, 0), (.aload 4, 2, 0, 0, 0), (.iload 5, 2, 0, 0, 0), (.aload 4, 2, 0, 0, 0), (.iload 5, 2, 0, 0, 0), (.iaload, 1, 0, 0, 0), (.aload_n 2, 1, 0, 0, 0), (.iload 6, 2, 0, 0, 0), (.iaload, 1, 0, 0, 0), (.iload_n 3, 1, 0, 0, 0), (.ifCond .eq 16, 3, 0, 0, 0), (.aload_n 0, 1, 0, 0, 0), (.bipush 8, 2, 0, 0, 0), (.iload 6, 2, 0, 0, 0), (.imul, 1, 0, 0, 0), (.iload 5, 2, 0, 0, 0), (.iadd, 1, 0, 0, 0), (.iaload, 1, 0, 0, 0), (.goto 13, 3, 0, 0, 0)]
abbrev s_L_goes_54 : List Ent := [(.aload_n 0, 1, 0, 0, 0), (.bipush 8, 2, 0, 0, 0), (.iload 5, 2, 0, 0, 0), (.imul, 1, 0, 0, 0), (.iload 6, 2, 0, 0, 0), (.iadd, 1, 0, 0, 0), (.iaload, 1, 0, 0, 0)]
abbrev s_L_goes_64 : List Ent := [(.imul, 1, 0, 0, 0), (.iadd, 1, 0, 0, 0), (.sipush 10007, 3, 0, 0, 0), (.irem, 1, 0, 0, 0), (.iastore, 1, 0, 0, 0), (.iinc 6 1, 3, 0, 0, 0), (.goto (-56), 3, 0, 0, 0)]
abbrev s_L_goes_77 : List Ent := [(.iinc 5 1, 3, 0, 0, 0), (.goto (-71), 3, 0, 0, 0)]
abbrev s_L_goes_83 : List Ent := [(.iconst 0, 1, 0, 0, 0), (.istore 5, 2, 0, 0, 0)]
abbrev s_L_goes_86 : List Ent := [(.iload 5, 2, 0, 0, 0), (.iload_n 1, 1, 0, 0, 0), (.if_icmp .ge 18, 3, 0, 0, 0), (.aload_n 2, 1, 0, 0, 0), (.iload 5, 2, 0, 0, 0), (.aload 4, 2, 0, 0, 0), (.iload 5, 2, 0, 0, 0), (.iaload, 1, 0, 0, 0), (.iastore, 1, 0, 0, 0), (.iinc 5 1, 3, 0, 0, 0), (.goto (-18), 3, 0, 0, 0)]
abbrev s_L_goes_107 : List Ent := [(.return_, 1, 0, 0, 0)]
def mt_L_goes : MT := ((11, 0, 4), yL_goes, cL_goes, 7, none, [], [(0, s_L_goes_0), (9, s_L_goes_9), (18, s_L_goes_18), (54, s_L_goes_54), (64, s_L_goes_64), (77, s_L_goes_77), (83, s_L_goes_83), (86, s_L_goes_86), (107, s_L_goes_107)])
abbrev s_L_numbers_0 : List Ent := [(.aload_n 1, 1, 0, 0, 0), (.bipush 17, 2, 0, 0, 0), (.iaload, 1, 0, 0, 0), (.istore_n 3, 1, 0, 0, 0), (.bipush 8, 2, 0, 0, 0), (.newarray .int, 2, 0, 0, 0), (.astore 4, 2, 0, 0, 0), (.iconst 0, 1, 0, 0, 0), (.istore 5, 2, 0, 0, 0)]
abbrev s_L_numbers_14 : List Ent := [(.iload 5, 2, 0, 0, 0), (.iload_n 3, 1, 0, 0, 0), (.if_icmp .ge 18, 3, 0, 0, 0), (.aload 4, 2, 0, 0, 0), (.iload 5, 2, 0, 0, 0), (.aload_n 1, 1, 0, 0, 0), (.iload 5, 2, 0, 0, 0), (.iaload, 1, 0, 0, 0), (.iastore, 1, 0, 0, 0), (.iinc 5 1, 3, 0, 0, 0), (.goto (-18), 3, 0, 0, 0)]
abbrev s_L_numbers_35 : List Ent := [(.aload_n 2, 1, 0, 0, 0), (.iconst 0, 1, 0, 0, 0), (.aload_n 1, 1, 0, 0, 0), (.bipush 16, 2, 0, 0, 0), (.iaload, 1, 0, 0, 0), (.iastore, 1, 0, 0, 0), (.iconst 1, 1, 0, 0, 0), (.istore 5, 2, 0, 0, 0)]
abbrev s_L_numbers_45 : List Ent := [(.iload 5, 2, 0, 0, 0), (.bipush 41, 2, 0, 0, 0), (.if_icmp .ge 63, 3, 0, 0, 0), (.aload_n 2, 1, 0, 0, 0), (.iload 5, 2, 0, 0, 0), (.iconst 0, 1, 0, 0, 0), (.iastore, 1, 0, 0, 0), (.iconst 0, 1, 0, 0, 0), (.istore 6, 2, 0, 0, 0)]
abbrev s_L_numbers_60 : List Ent := [(.iload 6, 2, 0, 0, 0), (.iload_n 3, 1, 0, 0, 0), (.if_icmp .ge 35, 3, 0, 0, 0), (.aload_n 2, 1, 0, 0, 0), (.iload 5, 2, 0, 0, 0), (.aload_n 2, 1, 0, 0, 0), (.iload 5, 2, 0, 0, 0), (.iaload, 1, 0, 0, 0), (.aload_n 1, 1, 0, 0, 0), (.bipush 8, 2, 0, 0, 0), (.iload 6, 2, 0, 0, 0), (.iadd, 1, 0, 0, 0), (.iaload, 1, 0, 0, 0), (.aload 4, 2, 0, 0, 0), (.iload 6, 2, 0, 0, 0), (.iaload, 1, 0, 0, 0), (.imul, 1, 0, 0, 0), (.iadd, 1, 0, 0, 0), (.sipush 10007, 3, 0, 0, 0), (.irem, 1, 0, 0, 0), (.iastore, 1, 0, 0, 0), (.iinc 6 1, 3, 0, 0, 0), (.goto (-35), 3, 0, 0, 0)]
abbrev s_L_numbers_98 : List Ent := [(.aload_n 0, 1, 0, 0, 0), (.iload_n 3, 1, 0, 0, 0), (.aload 4, 2, 0, 0, 0), (.iconst 0, 1, 0, 0, 0), (.invokestatic 85, 3, 102, 4, 0), (.iinc 5 1, 3, 0, 0, 0), (.goto (-64), 3, 0, 0, 0)]
abbrev s_L_numbers_112 : List Ent := [(.return_, 1, 0, 0, 0)]
def mt_L_numbers : MT := ((11, 0, 3), yL_numbers, cL_numbers, 7, none, [], [(0, s_L_numbers_0), (14, s_L_numbers_14), (35, s_L_numbers_35), (45, s_L_numbers_45), (60, s_L_numbers_60), (98, s_L_numbers_98), (112, s_L_numbers_112)])
abbrev s_L_rankOf_0 : List Ent := [(.aload_n 1, 1, 0, 0, 0), (.bipush 17, 2, 0, 0, 0), (.iaload, 1, 0, 0, 0), (.istore_n 3, 1, 0, 0, 0), (.bipush 64, 2, 0, 0, 0), (.newarray .int, 2, 0, 0, 0), (.astore 4, 2, 0, 0, 0), (.bipush 8, 2, 0, 0, 0), (.newarray .int, 2, 0, 0, 0), (.astore 5, 2, 0, 0, 0), (.iconst 0, 1, 0, 0, 0), (.istore 6, 2, 0, 0, 0)]
abbrev s_L_rankOf_20 : List Ent := [(.iload 6, 2, 0, 0, 0), (.iload_n 3, 1, 0, 0, 0), (.if_icmp .ge 32, 3, 0, 0, 0), (.aload 5, 2, 0, 0, 0), (.iload 6, 2, 0, 0, 0), (.iload_n 2, 1, 0, 0, 0), (.ifCond .eq 13, 3, 0, 0, 0), (.aload_n 1, 1, 0, 0, 0), (.bipush 8, 2, 0, 0, 0), (.iload 6, 2, 0, 0, 0), (.iadd, 1, 0, 0, 0), (.iaload, 1, 0, 0, 0), (.goto 7, 3, 0, 0, 0)]
abbrev s_L_rankOf_44 : List Ent := [(.aload_n 1, 1, 0, 0, 0), (.iload 6, 2, 0, 0, 0), (.iaload, 1, 0, 0, 0)]
abbrev s_L_rankOf_48 : List Ent := [(.iastore, 1, 0, 0, 0), (.iinc 6 1, 3, 0, 0, 0), (.goto (-32), 3, 0, 0, 0)]
abbrev s_L_rankOf_55 : List Ent := [(.iconst 0, 1, 0, 0, 0), (.istore 6, 2, 0, 0, 0)]
abbrev s_L_rankOf_58 : List Ent := [(.iload 6, 2, 0, 0, 0), (.iload_n 3, 1, 0, 0, 0), (.if_icmp .ge 48, 3, 0, 0, 0), (.iconst 0, 1, 0, 0, 0), (.istore 7, 2, 0, 0, 0)]
abbrev s_L_rankOf_67 : List Ent := [(.iload 7, 2, 0, 0, 0), (.iload_n 3, 1, 0, 0, 0), (.if_icmp .ge 25, 3, 0, 0, 0), (.aload 4, 2, 0, 0, 0), (.bipush 8, 2, 0, 0, 0), (.iload 6, 2, 0, 0, 0), (.imul, 1, 0, 0, 0), (.iload 7, 2, 0, 0, 0), (.iadd, 1, 0, 0, 0), (.aload 5, 2, 0, 0, 0), (.iload 7, 2, 0, 0, 0), (.iaload, 1, 0, 0, 0), (.iastore, 1, 0, 0, 0), (.iinc 7 1, 3, 0, 0, 0), (.goto (-25), 3, 0, 0, 0)]
abbrev s_L_rankOf_95 : List Ent := [(.aload_n 0, 1, 0, 0, 0), (.iload_n 3, 1, 0, 0, 0), (.aload 5, 2, 0, 0, 0), (.iload_n 2, 1, 0, 0, 0), (.invokestatic 85, 3, 102, 4, 0), (.iinc 6 1, 3, 0, 0, 0), (.goto (-48), 3, 0, 0, 0)]
abbrev s_L_rankOf_109 : List Ent := [(.aload 4, 2, 0, 0, 0), (.iload_n 3, 1, 0, 0, 0), (.invokestatic 89, 3, 99, 2, 0), (.ireturn, 1, 0, 0, 0)]
def mt_L_rankOf : MT := ((11, 0, 3), yL_rankOf, cL_rankOf, 8, (some .int), [], [(0, s_L_rankOf_0), (20, s_L_rankOf_20), (44, s_L_rankOf_44), (48, s_L_rankOf_48), (55, s_L_rankOf_55), (58, s_L_rankOf_58), (67, s_L_rankOf_67), (95, s_L_rankOf_95), (109, s_L_rankOf_109)])
abbrev s_L_areGains_0 : List Ent := [(.aload_n 2, 1, 0, 0, 0), (.bipush 17, 2, 0, 0, 0), (.iaload, 1, 0, 0, 0), (.istore 6, 2, 0, 0, 0), (.aload 4, 2, 0, 0, 0), (.iconst 1, 1, 0, 0, 0), (.iaload, 1, 0, 0, 0), (.iload 6, 2, 0, 0, 0), (.if_icmp .lt 18, 3, 0, 0, 0), (.aload_n 1, 1, 0, 0, 0), (.aload_n 2, 1, 0, 0, 0), (.iconst 0, 1, 0, 0, 0), (.invokestatic 92, 3, 104, 3, 0), (.iload 6, 2, 0, 0, 0), (.if_icmp .ne 7, 3, 0, 0, 0), (.iconst 1, 1, 0, 0, 0), (.goto 4, 3, 0, 0, 0)]
abbrev s_L_areGains_30 : List Ent := [(.iconst 0, 1, 0, 0, 0)]
abbrev s_L_areGains_31 : List Ent := [(.istore 7, 2, 0, 0, 0), (.aload 4, 2, 0, 0, 0), (.iconst 1, 1, 0, 0, 0), (.iaload, 1, 0, 0, 0), (.iconst 2, 1, 0, 0, 0), (.iload 6, 2, 0, 0, 0), (.imul, 1, 0, 0, 0), (.if_icmp .lt 18, 3, 0, 0, 0), (.aload_n 1, 1, 0, 0, 0), (.aload_n 2, 1, 0, 0, 0), (.iconst 1, 1, 0, 0, 0), (.invokestatic 92, 3, 104, 3, 0), (.iload 6, 2, 0, 0, 0), (.if_icmp .ne 7, 3, 0, 0, 0), (.iconst 1, 1, 0, 0, 0), (.goto 4, 3, 0, 0, 0)]
abbrev s_L_areGains_59 : List Ent := [(.iconst 0, 1, 0, 0, 0)]
abbrev s_L_areGains_60 : List Ent := [(.istore 8, 2, 0, 0, 0), (.aload_n 0, 1, 0, 0, 0), (.bipush 10, 2, 0, 0, 0), (.iload 5, 2, 0, 0, 0), (.iload 6, 2, 0, 0, 0), (.iconst 0, 1, 0, 0, 0), (.iconst 0, 1, 0, 0, 0), (.iconst 0, 1, 0, 0, 0), (.invokestatic 96, 3, 94, 7, 0), (.sipush (-3000), 3, 0, 0, 0), (.if_icmp .ne 25, 3, 0, 0, 0), (.aload_n 0, 1, 0, 0, 0), (.bipush 12, 2, 0, 0, 0), (.iload 5, 2, 0, 0, 0), (.iconst (-1), 1, 0, 0, 0), (.iconst 0, 1, 0, 0, 0), (.iconst 0, 1, 0, 0, 0), (.iconst 0, 1, 0, 0, 0), (.invokestatic 96, 3, 94, 7, 0), (.sipush (-3000), 3, 0, 0, 0), (.if_icmp .ne 7, 3, 0, 0, 0), (.iconst 1, 1, 0, 0, 0), (.goto 4, 3, 0, 0, 0)]
abbrev s_L_areGains_103 : List Ent := [(.iconst 0, 1, 0, 0, 0)]
abbrev s_L_areGains_104 : List Ent := [(.istore 9, 2, 0, 0, 0), (.bipush 18, 2, 0, 0, 0), (.newarray .int, 2, 0, 0, 0), (.astore 10, 2, 0, 0, 0), (.bipush 18, 2, 0, 0, 0), (.newarray .int, 2, 0, 0, 0), (.astore 11, 2, 0, 0, 0), (.iconst 0, 1, 0, 0, 0), (.istore 12, 2, 0, 0, 0)]
abbrev s_L_areGains_121 : List Ent := [(.iload 12, 2, 0, 0, 0), (.iload 6, 2, 0, 0, 0), (.if_icmp .ge 168, 3, 0, 0, 0), (.iload 9, 2, 0, 0, 0), (.ifCond .eq 163, 3, 0, 0, 0), (.aload 10, 2, 0, 0, 0), (.iload 12, 2, 0, 0, 0), (.aload_n 2, 1, 0, 0, 0), (.iload 12, 2, 0, 0, 0), (.iaload, 1, 0, 0, 0), (.iastore, 1, 0, 0, 0), (.aload 10, 2, 0, 0, 0), (.bipush 8, 2, 0, 0, 0), (.iload 12, 2, 0, 0, 0), (.iadd, 1, 0, 0, 0), (.aload_n 0, 1, 0, 0, 0), (.bipush 10, 2, 0, 0, 0), (.iload 5, 2, 0, 0, 0), (.iload 12, 2, 0, 0, 0), (.iconst 0, 1, 0, 0, 0), (.iconst 0, 1, 0, 0, 0), (.iconst 0, 1, 0, 0, 0), (.invokestatic 96, 3, 94, 7, 0), (.iastore, 1, 0, 0, 0), (.aload 11, 2, 0, 0, 0), (.iload 12, 2, 0, 0, 0), (.aload_n 0, 1, 0, 0, 0), (.bipush 12, 2, 0, 0, 0), (.iload 5, 2, 0, 0, 0), (.iload 12, 2, 0, 0, 0), (.iconst 0, 1, 0, 0, 0), (.iconst 0, 1, 0, 0, 0), (.iconst 0, 1, 0, 0, 0), (.invokestatic 96, 3, 94, 7, 0), (.iastore, 1, 0, 0, 0), (.aload 11, 2, 0, 0, 0), (.bipush 8, 2, 0, 0, 0), (.iload 12, 2, 0, 0, 0), (.iadd, 1, 0, 0, 0), (.aload_n 2, 1, 0, 0, 0), (.bipush 8, 2, 0, 0, 0), (.iload 12, 2, 0, 0, 0), (.iadd, 1, 0, 0, 0), (.iaload, 1, 0, 0, 0), (.iastore, 1, 0, 0, 0), (.aload 10, 2, 0, 0, 0), (.bipush 8, 2, 0, 0, 0), (.iload 12, 2, 0, 0, 0), (.iadd, 1, 0, 0, 0), (.iaload, 1, 0, 0, 0), (.aload_n 0, 1, 0, 0, 0), (.bipush 11, 2, 0, 0, 0), (.iload 5, 2, 0, 0, 0), (.iload 12, 2, 0, 0, 0), (.iconst 0, 1, 0, 0, 0), (.iconst 0, 1, 0, 0, 0), (.iconst 0, 1, 0, 0, 0), (.invokestatic 96, 3, 94, 7, 0), (.if_icmp .ne 67, 3, 0, 0, 0), (.iload 7, 2, 0, 0, 0), (.ifCond .eq 17, 3, 0, 0, 0), (.aload 10, 2, 0, 0, 0), (.bipush 8, 2, 0, 0, 0), (.iload 12, 2, 0, 0, 0), (.iadd, 1, 0, 0, 0), (.iaload, 1, 0, 0, 0), (.ifCond .lt 51, 3, 0, 0, 0), (.goto 17, 3, 0, 0, 0)]
abbrev s_L_areGains_239 : List Ent := [(.aload 10, 2, 0, 0, 0), (.bipush 8, 2, 0, 0, 0), (.iload 12, 2, 0, 0, 0), (.iadd, 1, 0, 0, 0), (.iaload, 1, 0, 0, 0), (.sipush (-1000), 3, 0, 0, 0), (.if_icmp .ne 34, 3, 0, 0, 0)]
abbrev s_L_areGains_253 : List Ent := [(.iload 8, 2, 0, 0, 0), (.ifCond .eq 14, 3, 0, 0, 0), (.aload 11, 2, 0, 0, 0), (.iload 12, 2, 0, 0, 0), (.iaload, 1, 0, 0, 0), (.ifCond .lt 21, 3, 0, 0, 0), (.goto 14, 3, 0, 0, 0)]
abbrev s_L_areGains_269 : List Ent := [(.aload 11, 2, 0, 0, 0), (.iload 12, 2, 0, 0, 0), (.iaload, 1, 0, 0, 0), (.sipush (-1000), 3, 0, 0, 0), (.if_icmp .ne 7, 3, 0, 0, 0)]
abbrev s_L_areGains_280 : List Ent := [(.iconst 1, 1, 0, 0, 0), (.goto 4, 3, 0, 0, 0)]
abbrev s_L_areGains_284 : List Ent := [(.iconst 0, 1, 0, 0, 0)]
abbrev s_L_areGains_285 : List Ent := [(.istore 9, 2, 0, 0, 0), (.iinc 12 1, 3, 0, 0, 0), (.goto (-169), 3, 0, 0, 0)]
abbrev s_L_areGains_293 : List Ent := [(.aload 10, 2, 0, 0, 0), (.bipush 17, 2, 0, 0, 0), (.iload 6, 2, 0, 0, 0), (.iastore, 1, 0, 0, 0), (.aload 11, 2, 0, 0, 0), (.bipush 17, 2, 0, 0, 0), (.iload 6, 2, 0, 0, 0), (.iastore, 1, 0, 0, 0), (.iconst 0, 1, 0, 0, 0), (.istore 12, 2, 0, 0, 0)]
abbrev s_L_areGains_310 : List Ent := [(.iload 12, 2, 0, 0, 0), (.iload 6, 2, 0, 0, 0), (.if_icmp .gt 122, 3, 0, 0, 0), (.iload 9, 2, 0, 0, 0), (.ifCond .eq 117, 3, 0, 0, 0), (.iconst 1, 1, 0, 0, 0), (.istore 13, 2, 0, 0, 0), (.iconst 1, 1, 0, 0, 0), (.istore 14, 2, 0, 0, 0), (.iconst 0, 1, 0, 0, 0), (.istore 15, 2, 0, 0, 0)]
abbrev s_L_areGains_331 : List Ent := [(.iload 15, 2, 0, 0, 0), (.iload 6, 2, 0, 0, 0), (.if_icmp .ge 50, 3, 0, 0, 0), (.iload 13, 2, 0, 0, 0), (.iload 12, 2, 0, 0, 0), (.aload_n 3, 1, 0, 0, 0), (.iload 15, 2, 0, 0, 0), (.iaload, 1, 0, 0, 0), (.isub, 1, 0, 0, 0), (.invokestatic 72, 3, 95, 1, 0), (.imul, 1, 0, 0, 0), (.sipush 10007, 3, 0, 0, 0), (.irem, 1, 0, 0, 0), (.istore 13, 2, 0, 0, 0), (.iload 14, 2, 0, 0, 0), (.iload 12, 2, 0, 0, 0), (.aload_n 3, 1, 0, 0, 0), (.iload 6, 2, 0, 0, 0), (.iload 15, 2, 0, 0, 0), (.iadd, 1, 0, 0, 0), (.iaload, 1, 0, 0, 0), (.isub, 1, 0, 0, 0), (.invokestatic 72, 3, 95, 1, 0), (.imul, 1, 0, 0, 0), (.sipush 10007, 3, 0, 0, 0), (.irem, 1, 0, 0, 0), (.istore 14, 2, 0, 0, 0), (.iinc 15 1, 3, 0, 0, 0), (.goto (-51), 3, 0, 0, 0)]
abbrev s_L_areGains_385 : List Ent := [(.iload 7, 2, 0, 0, 0), (.ifCond .eq 17, 3, 0, 0, 0), (.aload_n 1, 1, 0, 0, 0), (.aload 10, 2, 0, 0, 0), (.iload 12, 2, 0, 0, 0), (.iconst 1, 1, 0, 0, 0), (.invokestatic 100, 3, 101, 4, 0), (.iload 13, 2, 0, 0, 0), (.if_icmp .ne 26, 3, 0, 0, 0)]
abbrev s_L_areGains_404 : List Ent := [(.iload 8, 2, 0, 0, 0), (.ifCond .eq 17, 3, 0, 0, 0), (.aload_n 1, 1, 0, 0, 0), (.aload 11, 2, 0, 0, 0), (.iload 12, 2, 0, 0, 0), (.iconst 1, 1, 0, 0, 0), (.invokestatic 100, 3, 101, 4, 0), (.iload 14, 2, 0, 0, 0), (.if_icmp .ne 7, 3, 0, 0, 0)]
abbrev s_L_areGains_423 : List Ent := [(.iconst 1, 1, 0, 0, 0), (.goto 4, 3, 0, 0, 0)]
abbrev s_L_areGains_427 : List Ent := [(.iconst 0, 1, 0, 0, 0)]
abbrev s_L_areGains_428 : List Ent := [(.istore 9, 2, 0, 0, 0), (.iinc 12 1, 3, 0, 0, 0), (.goto (-123), 3, 0, 0, 0)]
abbrev s_L_areGains_436 : List Ent := [(.iload 9, 2, 0, 0, 0), (.ireturn, 1, 1, 0, 0)]
def mt_L_areGains : MT := ((11, 0, 6), yL_areGains, cL_areGains, 16, (some .boolean), [], [(0, s_L_areGains_0), (30, s_L_areGains_30), (31, s_L_areGains_31), (59, s_L_areGains_59), (60, s_L_areGains_60), (103, s_L_areGains_103), (104, s_L_areGains_104), (121, s_L_areGains_121), (239, s_L_areGains_239), (253, s_L_areGains_253), (269, s_L_areGains_269), (280, s_L_areGains_280), (284, s_L_areGains_284), (285, s_L_areGains_285), (293, s_L_areGains_293), (310, s_L_areGains_310), (331, s_L_areGains_331), (385, s_L_areGains_385), (404, s_L_areGains_404), (423, s_L_areGains_423), (427, s_L_areGains_427), (428, s_L_areGains_428), (436, s_L_areGains_436)])
abbrev s_L_costs_0 : List Ent := [(.aload_n 1, 1, 0, 0, 0), (.bipush 17, 2, 0, 0, 0), (.iaload, 1, 0, 0, 0), (.istore 5, 2, 0, 0, 0), (.bipush 64, 2, 0, 0, 0), (.newarray .int, 2, 0, 0, 0), (.astore 6, 2, 0, 0, 0), (.bipush 64, 2, 0, 0, 0), (.newarray .int, 2, 0, 0, 0), (.astore 7, 2, 0, 0, 0), (.bipush 8, 2, 0, 0, 0), (.newarray .int, 2, 0, 0, 0), (.astore 8, 2, 0, 0, 0), (.bipush 8, 2, 0, 0, 0), (.newarray .int, 2, 0, 0, 0), (.astore 9, 2, 0, 0, 0), (.iconst 0, 1, 0, 0, 0), (.istore 10, 2, 0, 0, 0)]
abbrev s_L_costs_33 : List Ent := [(.iload 10, 2, 0, 0, 0), (.iload 4, 2, 0, 0, 0), (.if_icmp .gt 431, 3, 0, 0, 0), (.iload_n 3, 1, 0, 0, 0), (.istore 11, 2, 0, 0, 0), (.iconst 0, 1, 0, 0, 0), (.istore 12, 2, 0, 0, 0)]
abbrev s_L_costs_46 : List Ent := [(.iload 12, 2, 0, 0, 0), (.iload 5, 2, 0, 0, 0), (.if_icmp .ge 86, 3, 0, 0, 0), (.iload 10, 2, 0, 0, 0), (.ifCond .le 81, 3, 0, 0, 0), (.aload 8, 2, 0, 0, 0), (.iload 12, 2, 0, 0, 0), (.iconst 0, 1, 0, 0, 0), (.iastore, 1, 0, 0, 0), (.iconst 0, 1, 0, 0, 0), (.istore 13, 2, 0, 0, 0)]
abbrev s_L_costs_67 : List Ent := [(.iload 13, 2, 0, 0, 0), (.iload 5, 2, 0, 0, 0), (.if_icmp .ge 40, 3, 0, 0, 0), (.aload 8, 2, 0, 0, 0), (.iload 12, 2, 0, 0, 0), (.aload 8, 2, 0, 0, 0), (.iload 12, 2, 0, 0, 0), (.iaload, 1, 0, 0, 0), (.aload 6, 2, 0, 0, 0), (.bipush 8, 2, 0, 0, 0), (.iload 12, 2, 0, 0, 0), (.imul, 1, 0, 0, 0), (.iload 13, 2, 0, 0, 0), (.iadd, 1, 0, 0, 0), (.iaload, 1, 0, 0, 0), (.aload_n 1, 1, 0, 0, 0), (.iload 13, 2, 0, 0, 0), (.iaload, 1, 0, 0, 0), (.imul, 1, 0, 0, 0), (.iadd, 1, 0, 0, 0), (.sipush 10007, 3, 0, 0, 0), (.irem, 1, 0, 0, 0), (.iastore, 1, 0, 0, 0), (.iinc 13 1, 3, 0, 0, 0), (.goto (-41), 3, 0, 0, 0)]
abbrev s_L_costs_111 : List Ent := [(.iload 11, 2, 0, 0, 0), (.aload_n 1, 1, 0, 0, 0), (.iload 12, 2, 0, 0, 0), (.iaload, 1, 0, 0, 0), (.aload 8, 2, 0, 0, 0), (.iload 12, 2, 0, 0, 0), (.iaload, 1, 0, 0, 0), (.imul, 1, 0, 0, 0), (.iadd, 1, 0, 0, 0), (.sipush 10007, 3, 0, 0, 0), (.irem, 1, 0, 0, 0), (.istore 11, 2, 0, 0, 0), (.iinc 12 1, 3, 0, 0, 0), (.goto (-87), 3, 0, 0, 0)]
abbrev s_L_costs_136 : List Ent := [(.iload 10, 2, 0, 0, 0), (.ifCond .le 12, 3, 0, 0, 0), (.iload 11, 2, 0, 0, 0), (.ifCond .ne 7, 3, 0, 0, 0), (.sipush (-1000), 3, 0, 0, 0), (.ireturn, 1, 0, 0, 0)]
abbrev s_L_costs_150 : List Ent := [(.iconst 0, 1, 0, 0, 0), (.istore 12, 2, 0, 0, 0)]
abbrev s_L_costs_153 : List Ent := [(.iload 12, 2, 0, 0, 0), (.iload 5, 2, 0, 0, 0), (.if_icmp .ge 139, 3, 0, 0, 0), (.aload 9, 2, 0, 0, 0), (.iload 12, 2, 0, 0, 0), (.iconst 0, 1, 0, 0, 0), (.iastore, 1, 0, 0, 0), (.iconst 0, 1, 0, 0, 0), (.istore 13, 2, 0, 0, 0)]
abbrev s_L_costs_169 : List Ent := [(.iload 13, 2, 0, 0, 0), (.iload 5, 2, 0, 0, 0), (.if_icmp .ge 117, 3, 0, 0, 0), (.aload 9, 2, 0, 0, 0), (.iload 12, 2, 0, 0, 0), (.aload 9, 2, 0, 0, 0), (.iload 12, 2, 0, 0, 0), (.iaload, 1, 0, 0, 0), (.aload 8, 2, 0, 0, 0), (.iload 13, 2, 0, 0, 0), (.iaload, 1, 0, 0, 0), (.aload_n 0, 1, 0, 0, 0), (.bipush 8, 2, 0, 0, 0), (.iload 13, 2, 0, 0, 0), (.imul, 1, 0, 0, 0), (.iload 12, 2, 0, 0, 0), (.iadd, 1, 0, 0, 0), (.iaload, 1, 0, 0, 0), (.imul, 1, 0, 0, 0), (.iadd, 1, 0, 0, 0), (.sipush 10007, 3, 0, 0, 0), (.irem, 1, 0, 0, 0), (.iastore, 1, 0, 0, 0), (.aload 7, 2, 0, 0, 0), (.bipush 8, 2, 0, 0, 0), (.iload 13, 2, 0, 0, 0), (.imul, 1, 0, 0, 0), (.iload 12, 2, 0, 0, 0), (.iadd, 1, 0, 0, 0), (.iconst 0, 1, 0, 0, 0), (.iastore, 1, 0, 0, 0), (.iconst 0, 1, 0, 0, 0), (.istore 14, 2, 0, 0, 0)]
abbrev s_L_costs_222 : List Ent := [(.iload 14, 2, 0, 0, 0), (.iload 5, 2, 0, 0, 0), (.if_icmp .ge 58, 3, 0, 0, 0), (.aload 7, 2, 0, 0, 0), (.bipush 8, 2, 0, 0, 0), (.iload 13, 2, 0, 0, 0), (.imul, 1, 0, 0, 0), (.iload 12, 2, 0, 0, 0), (.iadd, 1, 0, 0, 0), (.aload 7, 2, 0, 0, 0), (.bipush 8, 2, 0, 0, 0), (.iload 13, 2, 0, 0, 0), (.imul, 1, 0, 0, 0), (.iload 12, 2, 0, 0, 0), (.iadd, 1, 0, 0, 0), (.iaload, 1, 0, 0, 0), (.aload 6, 2, 0, 0, 0), (.bipush 8, 2, 0, 0, 0), (.iload 13, 2, 0, 0, 0), (.imul, 1, 0, 0, 0), (.iload 14, 2, 0, 0, 0), (.iadd, 1, 0, 0, 0), (.iaload, 1, 0, 0, 0), (.aload_n 0, 1, 0, 0, 0), (.bipush 8, 2, 0, 0, 0), (.iload 14, 2, 0, 0, 0), (.imul, 1, 0, 0, 0), (.iload 12, 2, 0, 0, 0), (.iadd, 1, 0, 0, 0), (.iaload, 1, 0, 0, 0), (.imul, 1, 0, 0, 0), (.iadd, 1, 0, 0, 0), (.sipush 10007, 3, 0, 0, 0), (.irem, 1, 0, 0, 0), (.iastore, 1, 0, 0, 0), (.iinc 14 1, 3, 0, 0, 0), (.goto (-59), 3, 0, 0, 0)]
abbrev s_L_costs_284 : List Ent := [(.iinc 13 1, 3, 0, 0, 0), (.goto (-118), 3, 0, 0, 0)]
abbrev s_L_costs_290 : List Ent := [(.iinc 12 1, 3, 0, 0, 0), (.goto (-140), 3, 0, 0, 0)]
abbrev s_L_costs_296 : List Ent := [(.iload 10, 2, 0, 0, 0), (.ifCond .le 11, 3, 0, 0, 0), (.iload 11, 2, 0, 0, 0), (.invokestatic 77, 3, 96, 1, 0), (.goto 4, 3, 0, 0, 0)]
abbrev s_L_costs_309 : List Ent := [(.iconst 0, 1, 0, 0, 0)]
abbrev s_L_costs_310 : List Ent := [(.istore 12, 2, 0, 0, 0), (.iconst 0, 1, 0, 0, 0), (.istore 13, 2, 0, 0, 0)]
abbrev s_L_costs_315 : List Ent := [(.iload 13, 2, 0, 0, 0), (.iload 5, 2, 0, 0, 0), (.if_icmp .ge 143, 3, 0, 0, 0), (.iconst 0, 1, 0, 0, 0), (.istore 14, 2, 0, 0, 0)]
abbrev s_L_costs_325 : List Ent := [(.iload 14, 2, 0, 0, 0), (.iload 5, 2, 0, 0, 0), (.if_icmp .ge 127, 3, 0, 0, 0), (.iload_n 2, 1, 0, 0, 0), (.aload_n 1, 1, 0, 0, 0), (.bipush 8, 2, 0, 0, 0), (.iload 13, 2, 0, 0, 0), (.iadd, 1, 0, 0, 0), (.iaload, 1, 0, 0, 0), (.imul, 1, 0, 0, 0), (.sipush 10007, 3, 0, 0, 0), (.irem, 1, 0, 0, 0), (.aload_n 1, 1, 0, 0, 0), (.bipush 8, 2, 0, 0, 0), (.iload 14, 2, 0, 0, 0), (.iadd, 1, 0, 0, 0), (.iaload, 1, 0, 0, 0), (.imul, 1, 0, 0, 0), (.sipush 10007, 3, 0, 0, 0), (.irem, 1, 0, 0, 0), (.istore 15, 2, 0, 0, 0), (.iconst 0, 1, 0, 0, 0), (.istore 16, 2, 0, 0, 0)]
abbrev s_L_costs_362 : List Ent := [(.iload 16, 2, 0, 0, 0), (.iload 5, 2, 0, 0, 0), (.if_icmp .ge 45, 3, 0, 0, 0), (.iload 10, 2, 0, 0, 0), (.ifCond .le 40, 3, 0, 0, 0), (.iload 15, 2, 0, 0, 0), (.aload_n 0, 1, 0, 0, 0), (.bipush 8, 2, 0, 0, 0), (.iload 16, 2, 0, 0, 0), (.imul, 1, 0, 0, 0), (.iload 13, 2, 0, 0, 0), (.iadd, 1, 0, 0, 0), (.iaload, 1, 0, 0, 0), (.aload 7, 2, 0, 0, 0), (.bipush 8, 2, 0, 0, 0), (.iload 16, 2, 0, 0, 0), (.imul, 1, 0, 0, 0), (.iload 14, 2, 0, 0, 0), (.iadd, 1, 0, 0, 0), (.iaload, 1, 0, 0, 0), (.imul, 1, 0, 0, 0), (.iadd, 1, 0, 0, 0), (.sipush 10007, 3, 0, 0, 0), (.irem, 1, 0, 0, 0), (.istore 15, 2, 0, 0, 0), (.iinc 16 1, 3, 0, 0, 0), (.goto (-46), 3, 0, 0, 0)]
abbrev s_L_costs_411 : List Ent := [(.aload 6, 2, 0, 0, 0), (.bipush 8, 2, 0, 0, 0), (.iload 13, 2, 0, 0, 0), (.imul, 1, 0, 0, 0), (.iload 14, 2, 0, 0, 0), (.iadd, 1, 0, 0, 0), (.iload 15, 2, 0, 0, 0), (.aload 9, 2, 0, 0, 0), (.iload 13, 2, 0, 0, 0), (.iaload, 1, 0, 0, 0), (.aload 9, 2, 0, 0, 0), (.iload 14, 2, 0, 0, 0), (.iaload, 1, 0, 0, 0), (.imul, 1, 0, 0, 0), (.sipush 10007, 3, 0, 0, 0), (.irem, 1, 0, 0, 0), (.iload 12, 2, 0, 0, 0), (.imul, 1, 0, 0, 0), (.sipush 10007, 3, 0, 0, 0), (.irem, 1, 0, 0, 0), (.isub, 1, 0, 0, 0), (.invokestatic 72, 3, 95, 1, 0), (.iastore, 1, 0, 0, 0), (.iinc 14 1, 3, 0, 0, 0), (.goto (-128), 3, 0, 0, 0)]
abbrev s_L_costs_456 : List Ent := [(.iinc 13 1, 3, 0, 0, 0), (.goto (-144), 3, 0, 0, 0)]
abbrev s_L_costs_462 : List Ent := [(.iinc 10 1, 3, 0, 0, 0), (.goto (-432), 3, 0, 0, 0)]
abbrev s_L_costs_468 : List Ent := [(.iconst 0, 1, 0, 0, 0), (.istore 10, 2, 0, 0, 0), (.iconst 0, 1, 0, 0, 0), (.istore 11, 2, 0, 0, 0)]
abbrev s_L_costs_474 : List Ent := [(.iload 11, 2, 0, 0, 0), (.bipush 64, 2, 0, 0, 0), (.if_icmp .ge 19, 3, 0, 0, 0), (.iload 10, 2, 0, 0, 0), (.aload 6, 2, 0, 0, 0), (.iload 11, 2, 0, 0, 0), (.iaload, 1, 0, 0, 0), (.iadd, 1, 0, 0, 0), (.istore 10, 2, 0, 0, 0), (.iinc 11 1, 3, 0, 0, 0), (.goto (-20), 3, 0, 0, 0)]
abbrev s_L_costs_497 : List Ent := [(.iload 10, 2, 0, 0, 0), (.sipush 10007, 3, 0, 0, 0), (.irem, 1, 0, 0, 0), (.ireturn, 1, 0, 0, 0)]
def mt_L_costs : MT := ((11, 0, 5), yL_costs, cL_costs, 17, (some .int), [], [(0, s_L_costs_0), (33, s_L_costs_33), (46, s_L_costs_46), (67, s_L_costs_67), (111, s_L_costs_111), (136, s_L_costs_136), (150, s_L_costs_150), (153, s_L_costs_153), (169, s_L_costs_169), (222, s_L_costs_222), (284, s_L_costs_284), (290, s_L_costs_290), (296, s_L_costs_296), (309, s_L_costs_309), (310, s_L_costs_310), (315, s_L_costs_315), (325, s_L_costs_325), (362, s_L_costs_362), (411, s_L_costs_411), (456, s_L_costs_456), (462, s_L_costs_462), (468, s_L_costs_468), (474, s_L_costs_474), (497, s_L_costs_497)])
abbrev s_L_isSo_0 : List Ent := [(.bipush 64, 2, 0, 0, 0), (.newarray .int, 2, 0, 0, 0), (.astore 7, 2, 0, 0, 0), (.bipush 18, 2, 0, 0, 0), (.newarray .int, 2, 0, 0, 0), (.astore 8, 2, 0, 0, 0), (.bipush 41, 2, 0, 0, 0), (.newarray .int, 2, 0, 0, 0), (.astore 9, 2, 0, 0, 0), (.aload_n 0, 1, 0, 0, 0), (.iload 4, 2, 0, 0, 0), (.aload 7, 2, 0, 0, 0), (.aload 8, 2, 0, 0, 0), (.invokestatic 103, 3, 97, 4, 0), (.aload 8, 2, 0, 0, 0), (.bipush 17, 2, 0, 0, 0), (.iaload, 1, 0, 0, 0), (.istore 10, 2, 0, 0, 0), (.aload 7, 2, 0, 0, 0), (.aload 8, 2, 0, 0, 0), (.aload 9, 2, 0, 0, 0), (.invokestatic 107, 3, 103, 3, 0), (.aload_n 0, 1, 0, 0, 0), (.iload 4, 2, 0, 0, 0), (.iconst 0, 1, 0, 0, 0), (.invokevirtual 111, 3, 71, 2, 7), (.aload 7, 2, 0, 0, 0), (.aload 8, 2, 0, 0, 0), (.iconst 0, 1, 0, 0, 0), (.invokestatic 92, 3, 104, 3, 0), (.if_icmp .ne 90, 3, 0, 0, 0), (.aload_n 0, 1, 0, 0, 0), (.iload 4, 2, 0, 0, 0), (.iconst 1, 1, 0, 0, 0), (.invokevirtual 111, 3, 71, 2, 7), (.aload 7, 2, 0, 0, 0), (.aload 8, 2, 0, 0, 0), (.iconst 1, 1, 0, 0, 0), (.invokestatic 92, 3, 104, 3, 0), (.if_icmp .ne 72, 3, 0, 0, 0), (.aload_n 0, 1, 0, 0, 0), (.iload 4, 2, 0, 0, 0), (.iload 10, 2, 0, 0, 0), (.iconst 0, 1, 0, 0, 0), (.invokevirtual 42, 3, 70, 3, 7), (.iconst 1, 1, 0, 0, 0), (.if_icmp .ne 59, 3, 0, 0, 0), (.aload_n 0, 1, 0, 0, 0), (.iload 4, 2, 0, 0, 0), (.iload 10, 2, 0, 0, 0), (.iconst 1, 1, 0, 0, 0), (.invokevirtual 42, 3, 70, 3, 7), (.ifCond .ne 47, 3, 0, 0, 0), (.aload_n 0, 1, 0, 0, 0), (.bipush 9, 2, 0, 0, 0), (.iload 4, 2, 0, 0, 0), (.iload 10, 2, 0, 0, 0), (.iconst 1, 1, 0, 0, 0), (.iadd, 1, 0, 0, 0), (.iconst 0, 1, 0, 0, 0), (.iconst 0, 1, 0, 0, 0), (.iconst 0, 1, 0, 0, 0), (.invokestatic 96, 3, 94, 7, 0), (.sipush (-3000), 3, 0, 0, 0), (.if_icmp .ne 26, 3, 0, 0, 0), (.aload_n 0, 1, 0, 0, 0), (.bipush 15, 2, 0, 0, 0), (.iload 4, 2, 0, 0, 0), (.bipush 41, 2, 0, 0, 0), (.iconst 0, 1, 0, 0, 0), (.iconst 0, 1, 0, 0, 0), (.iconst 0, 1, 0, 0, 0), (.invokestatic 96, 3, 94, 7, 0), (.sipush (-2000), 3, 0, 0, 0), (.if_icmp .ne 7, 3, 0, 0, 0), (.iconst 1, 1, 0, 0, 0), (.goto 4, 3, 0, 0, 0)]
abbrev s_L_isSo_149 : List Ent := [(.iconst 0, 1, 0, 0, 0)]
abbrev s_L_isSo_150 : List Ent := [(.istore 11, 2, 0, 0, 0), (.bipush 9, 2, 0, 0, 0), (.newarray .int, 2, 0, 0, 0), (.astore 12, 2, 0, 0, 0), (.bipush 9, 2, 0, 0, 0), (.newarray .int, 2, 0, 0, 0), (.astore 13, 2, 0, 0, 0), (.iconst 0, 1, 0, 0, 0), (.istore 14, 2, 0, 0, 0)]
abbrev s_L_isSo_167 : List Ent := [(.iload 14, 2, 0, 0, 0), (.iload 10, 2, 0, 0, 0), (.if_icmp .gt 87, 3, 0, 0, 0), (.iload 11, 2, 0, 0, 0), (.ifCond .eq 82, 3, 0, 0, 0), (.aload 12, 2, 0, 0, 0), (.iload 14, 2, 0, 0, 0), (.aload_n 0, 1, 0, 0, 0), (.iload 4, 2, 0, 0, 0), (.iload 14, 2, 0, 0, 0), (.iconst 0, 1, 0, 0, 0), (.invokevirtual 42, 3, 70, 3, 7), (.iastore, 1, 0, 0, 0), (.aload 13, 2, 0, 0, 0), (.iload 14, 2, 0, 0, 0), (.aload_n 0, 1, 0, 0, 0), (.iload 4, 2, 0, 0, 0), (.iload 14, 2, 0, 0, 0), (.iconst 1, 1, 0, 0, 0), (.invokevirtual 42, 3, 70, 3, 7), (.iastore, 1, 0, 0, 0), (.aload 12, 2, 0, 0, 0), (.iload 14, 2, 0, 0, 0), (.iaload, 1, 0, 0, 0), (.ifCond .lt 37, 3, 0, 0, 0), (.aload 12, 2, 0, 0, 0), (.iload 14, 2, 0, 0, 0), (.iaload, 1, 0, 0, 0), (.sipush 10007, 3, 0, 0, 0), (.if_icmp .ge 26, 3, 0, 0, 0), (.aload 13, 2, 0, 0, 0), (.iload 14, 2, 0, 0, 0), (.iaload, 1, 0, 0, 0), (.ifCond .lt 18, 3, 0, 0, 0), (.aload 13, 2, 0, 0, 0), (.iload 14, 2, 0, 0, 0), (.iaload, 1, 0, 0, 0), (.sipush 10007, 3, 0, 0, 0), (.if_icmp .ge 7, 3, 0, 0, 0), (.iconst 1, 1, 0, 0, 0), (.goto 4, 3, 0, 0, 0)]
abbrev s_L_isSo_249 : List Ent := [(.iconst 0, 1, 0, 0, 0)]
abbrev s_L_isSo_250 : List Ent := [(.istore 11, 2, 0, 0, 0), (.iinc 14 1, 3, 0, 0, 0), (.goto (-88), 3, 0, 0, 0)]
abbrev s_L_isSo_258 : List Ent := [(.iconst 0, 1, 0, 0, 0), (.istore 14, 2, 0, 0, 0)]
abbrev s_L_isSo_261 : List Ent := [(.iload 14, 2, 0, 0, 0), (.iload 10, 2, 0, 0, 0), (.if_icmp .gt 75, 3, 0, 0, 0), (.iload 11, 2, 0, 0, 0), (.ifCond .eq 70, 3, 0, 0, 0), (.aload 7, 2, 0, 0, 0), (.aload 8, 2, 0, 0, 0), (.iload 14, 2, 0, 0, 0), (.iconst 0, 1, 0, 0, 0), (.invokestatic 100, 3, 101, 4, 0), (.istore 15, 2, 0, 0, 0), (.aload 12, 2, 0, 0, 0), (.iload 10, 2, 0, 0, 0), (.iload 14, 2, 0, 0, 0), (.invokestatic 114, 3, 100, 3, 0), (.iload 15, 2, 0, 0, 0), (.if_icmp .ne 35, 3, 0, 0, 0), (.aload 13, 2, 0, 0, 0), (.iload 10, 2, 0, 0, 0), (.iload 14, 2, 0, 0, 0), (.invokestatic 114, 3, 100, 3, 0), (.aload 7, 2, 0, 0, 0), (.aload 8, 2, 0, 0, 0), (.iload 14, 2, 0, 0, 0), (.iconst 1, 1, 0, 0, 0), (.invokestatic 100, 3, 101, 4, 0), (.iload 15, 2, 0, 0, 0), (.isub, 1, 0, 0, 0), (.invokestatic 72, 3, 95, 1, 0), (.if_icmp .ne 7, 3, 0, 0, 0), (.iconst 1, 1, 0, 0, 0), (.goto 4, 3, 0, 0, 0)]
abbrev s_L_isSo_331 : List Ent := [(.iconst 0, 1, 0, 0, 0)]
abbrev s_L_isSo_332 : List Ent := [(.istore 11, 2, 0, 0, 0), (.iinc 14 1, 3, 0, 0, 0), (.goto (-76), 3, 0, 0, 0)]
abbrev s_L_isSo_340 : List Ent := [(.iload 5, 2, 0, 0, 0), (.iconst 3, 1, 0, 0, 0), (.irem, 1, 0, 0, 0), (.istore 14, 2, 0, 0, 0)]
abbrev s_L_isSo_346 : List Ent := [(.iload 14, 2, 0, 0, 0), (.bipush 41, 2, 0, 0, 0), (.if_icmp .ge 126, 3, 0, 0, 0), (.iload 11, 2, 0, 0, 0), (.ifCond .eq 121, 3, 0, 0, 0), (.iconst 0, 1, 0, 0, 0), (.istore 15, 2, 0, 0, 0), (.iconst 0, 1, 0, 0, 0), (.istore 16, 2, 0, 0, 0)]
abbrev s_L_isSo_364 : List Ent := [(.iload 16, 2, 0, 0, 0), (.iload 14, 2, 0, 0, 0), (.if_icmp .gt 46, 3, 0, 0, 0), (.iload 15, 2, 0, 0, 0), (.aload 9, 2, 0, 0, 0), (.iload 16, 2, 0, 0, 0), (.iaload, 1, 0, 0, 0), (.iload 14, 2, 0, 0, 0), (.iload 16, 2, 0, 0, 0), (.isub, 1, 0, 0, 0), (.aload_n 3, 1, 0, 0, 0), (.iconst 2, 1, 0, 0, 0), (.iaload, 1, 0, 0, 0), (.if_icmp .ge 13, 3, 0, 0, 0), (.aload_n 2, 1, 0, 0, 0), (.iload 14, 2, 0, 0, 0), (.iload 16, 2, 0, 0, 0), (.isub, 1, 0, 0, 0), (.iaload, 1, 0, 0, 0), (.goto 4, 3, 0, 0, 0)]
abbrev s_L_isSo_399 : List Ent := [(.iconst 0, 1, 0, 0, 0)]
abbrev s_L_isSo_400 : List Ent := [(.imul, 1, 0, 0, 0), (.iadd, 1, 0, 0, 0), (.sipush 10007, 3, 0, 0, 0), (.irem, 1, 0, 0, 0), (.istore 15, 2, 0, 0, 0), (.iinc 16 1, 3, 0, 0, 0), (.goto (-47), 3, 0, 0, 0)]
abbrev s_L_isSo_414 : List Ent := [(.aload_n 0, 1, 0, 0, 0), (.iload 4, 2, 0, 0, 0), (.iload 14, 2, 0, 0, 0), (.invokevirtual 60, 3, 72, 2, 7), (.aload 9, 2, 0, 0, 0), (.iload 14, 2, 0, 0, 0), (.iaload, 1, 0, 0, 0), (.if_icmp .ne 40, 3, 0, 0, 0), (.aload_n 0, 1, 0, 0, 0), (.iload 4, 2, 0, 0, 0), (.iload 14, 2, 0, 0, 0), (.invokevirtual 118, 3, 73, 2, 7), (.iload 15, 2, 0, 0, 0), (.if_icmp .ne 27, 3, 0, 0, 0), (.iload 14, 2, 0, 0, 0), (.iconst 5, 1, 0, 0, 0), (.irem, 1, 0, 0, 0), (.ifCond .gt 16, 3, 0, 0, 0), (.aload_n 0, 1, 0, 0, 0), (.iload 4, 2, 0, 0, 0), (.iload 14, 2, 0, 0, 0), (.invokevirtual 121, 3, 74, 2, 7), (.iload 15, 2, 0, 0, 0), (.if_icmp .ne 7, 3, 0, 0, 0)]
abbrev s_L_isSo_463 : List Ent := [(.iconst 1, 1, 0, 0, 0), (.goto 4, 3, 0, 0, 0)]
abbrev s_L_isSo_467 : List Ent := [(.iconst 0, 1, 0, 0, 0)]
abbrev s_L_isSo_468 : List Ent := [(.istore 11, 2, 0, 0, 0), (.iinc 14 3, 3, 0, 0, 0), (.goto (-127), 3, 0, 0, 0)]
abbrev s_L_isSo_476 : List Ent := [(.bipush 64, 2, 0, 0, 0), (.newarray .int, 2, 0, 0, 0), (.astore 14, 2, 0, 0, 0), (.iconst 0, 1, 0, 0, 0), (.istore 15, 2, 0, 0, 0)]
abbrev s_L_isSo_485 : List Ent := [(.iload 15, 2, 0, 0, 0), (.iload 10, 2, 0, 0, 0), (.if_icmp .ge 46, 3, 0, 0, 0), (.iconst 0, 1, 0, 0, 0), (.istore 16, 2, 0, 0, 0)]
abbrev s_L_isSo_495 : List Ent := [(.iload 16, 2, 0, 0, 0), (.iload 10, 2, 0, 0, 0), (.if_icmp .ge 30, 3, 0, 0, 0), (.aload 14, 2, 0, 0, 0), (.bipush 8, 2, 0, 0, 0), (.iload 15, 2, 0, 0, 0), (.imul, 1, 0, 0, 0), (.iload 16, 2, 0, 0, 0), (.iadd, 1, 0, 0, 0), (.aload 9, 2, 0, 0, 0), (.iload 15, 2, 0, 0, 0), (.iload 16, 2, 0, 0, 0), (.iadd, 1, 0, 0, 0), (.iconst 1, 1, 0, 0, 0), (.iadd, 1, 0, 0, 0), (.iaload, 1, 0, 0, 0), (.iastore, 1, 0, 0, 0), (.iinc 16 1, 3, 0, 0, 0), (.goto (-31), 3, 0, 0, 0)]
abbrev s_L_isSo_529 : List Ent := [(.iinc 15 1, 3, 0, 0, 0), (.goto (-47), 3, 0, 0, 0)]
abbrev s_L_isSo_535 : List Ent := [(.aload 14, 2, 0, 0, 0), (.iload 10, 2, 0, 0, 0), (.invokestatic 89, 3, 99, 2, 0), (.istore 15, 2, 0, 0, 0), (.iload 6, 2, 0, 0, 0), (.iconst 3, 1, 0, 0, 0), (.irem, 1, 0, 0, 0), (.ifCond .ne 7, 3, 0, 0, 0), (.iconst 0, 1, 0, 0, 0), (.goto 9, 3, 0, 0, 0)]
abbrev s_L_isSo_555 : List Ent := [(.iload 6, 2, 0, 0, 0), (.sipush 10007, 3, 0, 0, 0), (.irem, 1, 0, 0, 0)]
abbrev s_L_isSo_561 : List Ent := [(.istore 16, 2, 0, 0, 0), (.iload 5, 2, 0, 0, 0), (.iconst 3, 1, 0, 0, 0), (.irem, 1, 0, 0, 0), (.ifCond .ne 7, 3, 0, 0, 0), (.iconst 0, 1, 0, 0, 0), (.goto 9, 3, 0, 0, 0)]
abbrev s_L_isSo_574 : List Ent := [(.iload 5, 2, 0, 0, 0), (.sipush 10007, 3, 0, 0, 0), (.irem, 1, 0, 0, 0)]
abbrev s_L_isSo_580 : List Ent := [(.istore 17, 2, 0, 0, 0), (.aload 7, 2, 0, 0, 0), (.aload 8, 2, 0, 0, 0), (.iload 16, 2, 0, 0, 0), (.iload 17, 2, 0, 0, 0), (.iload 6, 2, 0, 0, 0), (.bipush 8, 2, 0, 0, 0), (.irem, 1, 0, 0, 0), (.invokestatic 124, 3, 106, 5, 0), (.istore 18, 2, 0, 0, 0), (.iload 11, 2, 0, 0, 0), (.ifCond .eq 90, 3, 0, 0, 0), (.aload_n 0, 1, 0, 0, 0), (.iload 4, 2, 0, 0, 0), (.invokevirtual 128, 3, 80, 1, 7), (.iload 15, 2, 0, 0, 0), (.if_icmp .ne 79, 3, 0, 0, 0), (.aload_n 0, 1, 0, 0, 0), (.iload 4, 2, 0, 0, 0), (.invokevirtual 131, 3, 81, 1, 7), (.iload 15, 2, 0, 0, 0), (.if_icmp .ne 68, 3, 0, 0, 0), (.aload_n 0, 1, 0, 0, 0), (.bipush 13, 2, 0, 0, 0), (.iload 4, 2, 0, 0, 0), (.iload 16, 2, 0, 0, 0), (.iload 17, 2, 0, 0, 0), (.iload 6, 2, 0, 0, 0), (.bipush 8, 2, 0, 0, 0), (.irem, 1, 0, 0, 0), (.iconst 0, 1, 0, 0, 0), (.invokestatic 96, 3, 94, 7, 0), (.iload 18, 2, 0, 0, 0), (.if_icmp .ne 45, 3, 0, 0, 0), (.aload_n 0, 1, 0, 0, 0), (.bipush 14, 2, 0, 0, 0), (.iload 4, 2, 0, 0, 0), (.iload 16, 2, 0, 0, 0), (.iload 17, 2, 0, 0, 0), (.iload 6, 2, 0, 0, 0), (.bipush 8, 2, 0, 0, 0), (.irem, 1, 0, 0, 0), (.iconst 0, 1, 0, 0, 0), (.invokestatic 96, 3, 94, 7, 0), (.iload 18, 2, 0, 0, 0), (.if_icmp .ne 22, 3, 0, 0, 0), (.aload_n 0, 1, 0, 0, 0), (.aload 7, 2, 0, 0, 0), (.aload 8, 2, 0, 0, 0), (.aload_n 1, 1, 0, 0, 0), (.aload_n 3, 1, 0, 0, 0), (.iload 4, 2, 0, 0, 0), (.invokestatic 134, 3, 105, 6, 0), (.ifCond .eq 7, 3, 0, 0, 0), (.iconst 1, 1, 0, 0, 0), (.goto 4, 3, 0, 0, 0)]
abbrev s_L_isSo_692 : List Ent := [(.iconst 0, 1, 0, 0, 0)]
abbrev s_L_isSo_693 : List Ent := [(.ireturn, 1, 1, 0, 0)]
def mt_L_isSo : MT := ((11, 0, 7), yL_isSo, cL_isSo, 19, (some .boolean), [], [(0, s_L_isSo_0), (149, s_L_isSo_149), (150, s_L_isSo_150), (167, s_L_isSo_167), (249, s_L_isSo_249), (250, s_L_isSo_250), (258, s_L_isSo_258), (261, s_L_isSo_261), (331, s_L_isSo_331), (332, s_L_isSo_332), (340, s_L_isSo_340), (346, s_L_isSo_346), (364, s_L_isSo_364), (399, s_L_isSo_399), (400, s_L_isSo_400), (414, s_L_isSo_414), (463, s_L_isSo_463), (467, s_L_isSo_467), (468, s_L_isSo_468), (476, s_L_isSo_476), (485, s_L_isSo_485), (495, s_L_isSo_495), (529, s_L_isSo_529), (535, s_L_isSo_535), (555, s_L_isSo_555), (561, s_L_isSo_561), (574, s_L_isSo_574), (580, s_L_isSo_580), (692, s_L_isSo_692), (693, s_L_isSo_693)])
abbrev s_L_isMade_0 : List Ent := [(.bipush 64, 2, 0, 0, 0), (.newarray .int, 2, 0, 0, 0), (.astore 6, 2, 0, 0, 0), (.bipush 18, 2, 0, 0, 0), (.newarray .int, 2, 0, 0, 0), (.astore 7, 2, 0, 0, 0), (.bipush 64, 2, 0, 0, 0), (.newarray .int, 2, 0, 0, 0), (.astore 8, 2, 0, 0, 0), (.bipush 18, 2, 0, 0, 0), (.newarray .int, 2, 0, 0, 0), (.astore 9, 2, 0, 0, 0), (.bipush 64, 2, 0, 0, 0), (.newarray .int, 2, 0, 0, 0), (.astore 10, 2, 0, 0, 0), (.bipush 18, 2, 0, 0, 0), (.newarray .int, 2, 0, 0, 0), (.astore 11, 2, 0, 0, 0), (.aload_n 0, 1, 0, 0, 0), (.iload_n 2, 1, 0, 0, 0), (.aload 6, 2, 0, 0, 0), (.aload 7, 2, 0, 0, 0), (.invokestatic 103, 3, 97, 4, 0), (.aload_n 0, 1, 0, 0, 0), (.iload_n 3, 1, 0, 0, 0), (.aload 8, 2, 0, 0, 0), (.aload 9, 2, 0, 0, 0), (.invokestatic 103, 3, 97, 4, 0), (.aload_n 0, 1, 0, 0, 0), (.iload_n 1, 1, 0, 0, 0), (.aload 10, 2, 0, 0, 0), (.aload 11, 2, 0, 0, 0), (.invokestatic 103, 3, 97, 4, 0), (.aload 7, 2, 0, 0, 0), (.bipush 17, 2, 0, 0, 0), (.iaload, 1, 0, 0, 0), (.istore 12, 2, 0, 0, 0), (.iload 4, 2, 0, 0, 0), (.iconst 2, 1, 0, 0, 0), (.if_icmp .ne 227, 3, 0, 0, 0), (.iconst 1, 1, 0, 0, 0), (.iload 5, 2, 0, 0, 0), (.invokestatic 72, 3, 95, 1, 0), (.aload 7, 2, 0, 0, 0), (.bipush 16, 2, 0, 0, 0), (.iaload, 1, 0, 0, 0), (.imul, 1, 0, 0, 0), (.iadd, 1, 0, 0, 0), (.invokestatic 77, 3, 96, 1, 0), (.istore 13, 2, 0, 0, 0), (.aload 11, 2, 0, 0, 0), (.bipush 17, 2, 0, 0, 0), (.iaload, 1, 0, 0, 0), (.iload 12, 2, 0, 0, 0), (.if_icmp .ne 27, 3, 0, 0, 0), (.aload 11, 2, 0, 0, 0), (.bipush 16, 2, 0, 0, 0), (.iaload, 1, 0, 0, 0), (.aload 7, 2, 0, 0, 0), (.bipush 16, 2, 0, 0, 0), (.iaload, 1, 0, 0, 0), (.iload 13, 2, 0, 0, 0), (.imul, 1, 0, 0, 0), (.sipush 10007, 3, 0, 0, 0), (.irem, 1, 0, 0, 0), (.if_icmp .ne 7, 3, 0, 0, 0), (.iconst 1, 1, 0, 0, 0), (.goto 4, 3, 0, 0, 0)]
abbrev s_L_isMade_128 : List Ent := [(.iconst 0, 1, 0, 0, 0)]
abbrev s_L_isMade_129 : List Ent := [(.istore 14, 2, 0, 0, 0), (.iconst 0, 1, 0, 0, 0), (.istore 15, 2, 0, 0, 0)]
abbrev s_L_isMade_134 : List Ent := [(.iload 15, 2, 0, 0, 0), (.iload 12, 2, 0, 0, 0), (.if_icmp .ge 159, 3, 0, 0, 0), (.iload 14, 2, 0, 0, 0), (.ifCond .eq 53, 3, 0, 0, 0), (.aload 11, 2, 0, 0, 0), (.iload 15, 2, 0, 0, 0), (.iaload, 1, 0, 0, 0), (.aload 7, 2, 0, 0, 0), (.iload 15, 2, 0, 0, 0), (.iaload, 1, 0, 0, 0), (.iload 13, 2, 0, 0, 0), (.imul, 1, 0, 0, 0), (.sipush 10007, 3, 0, 0, 0), (.irem, 1, 0, 0, 0), (.if_icmp .ne 33, 3, 0, 0, 0), (.aload 11, 2, 0, 0, 0), (.bipush 8, 2, 0, 0, 0), (.iload 15, 2, 0, 0, 0), (.iadd, 1, 0, 0, 0), (.iaload, 1, 0, 0, 0), (.aload 7, 2, 0, 0, 0), (.bipush 8, 2, 0, 0, 0), (.iload 15, 2, 0, 0, 0), (.iadd, 1, 0, 0, 0), (.iaload, 1, 0, 0, 0), (.iload 13, 2, 0, 0, 0), (.imul, 1, 0, 0, 0), (.sipush 10007, 3, 0, 0, 0), (.irem, 1, 0, 0, 0), (.if_icmp .ne 7, 3, 0, 0, 0), (.iconst 1, 1, 0, 0, 0), (.goto 4, 3, 0, 0, 0)]
abbrev s_L_isMade_196 : List Ent := [(.iconst 0, 1, 0, 0, 0)]
abbrev s_L_isMade_197 : List Ent := [(.istore 14, 2, 0, 0, 0), (.iconst 0, 1, 0, 0, 0), (.istore 16, 2, 0, 0, 0)]
abbrev s_L_isMade_202 : List Ent := [(.iload 16, 2, 0, 0, 0), (.iload 12, 2, 0, 0, 0), (.if_icmp .ge 85, 3, 0, 0, 0), (.iload 14, 2, 0, 0, 0), (.ifCond .eq 71, 3, 0, 0, 0), (.aload 10, 2, 0, 0, 0), (.bipush 8, 2, 0, 0, 0), (.iload 15, 2, 0, 0, 0), (.imul, 1, 0, 0, 0), (.iload 16, 2, 0, 0, 0), (.iadd, 1, 0, 0, 0), (.iaload, 1, 0, 0, 0), (.aload 6, 2, 0, 0, 0), (.bipush 8, 2, 0, 0, 0), (.iload 15, 2, 0, 0, 0), (.imul, 1, 0, 0, 0), (.iload 16, 2, 0, 0, 0), (.iadd, 1, 0, 0, 0), (.iaload, 1, 0, 0, 0), (.aload 7, 2, 0, 0, 0), (.iload 15, 2, 0, 0, 0), (.iaload, 1, 0, 0, 0), (.aload 7, 2, 0, 0, 0), (.bipush 8, 2, 0, 0, 0), (.iload 16, 2, 0, 0, 0), (.iadd, 1, 0, 0, 0), (.iaload, 1, 0, 0, 0), (.imul, 1, 0, 0, 0), (.sipush 10007, 3, 0, 0, 0), (.irem, 1, 0, 0, 0), (.iload 5, 2, 0, 0, 0), (.invokestatic 72, 3, 95, 1, 0), (.imul, 1, 0, 0, 0), (.sipush 10007, 3, 0, 0, 0), (.irem, 1, 0, 0, 0), (.iload 13, 2, 0, 0, 0), (.imul, 1, 0, 0, 0), (.sipush 10007, 3, 0, 0, 0), (.irem, 1, 0, 0, 0), (.isub, 1, 0, 0, 0), (.invokestatic 72, 3, 95, 1, 0), (.if_icmp .ne 7, 3, 0, 0, 0), (.iconst 1, 1, 0, 0, 0), (.goto 4, 3, 0, 0, 0)]
abbrev s_L_isMade_282 : List Ent := [(.iconst 0, 1, 0, 0, 0)]
abbrev s_L_isMade_283 : List Ent := [(.istore 14, 2, 0, 0, 0), (.iinc 16 1, 3, 0, 0, 0), (.goto (-86), 3, 0, 0, 0)]
abbrev s_L_isMade_291 : List Ent := [(.iinc 15 1, 3, 0, 0, 0), (.goto (-160), 3, 0, 0, 0)]
abbrev s_L_isMade_297 : List Ent := [(.iload 14, 2, 0, 0, 0), (.ireturn, 1, 1, 0, 0)]
abbrev s_L_isMade_300 : List Ent := [(.iload 4, 2, 0, 0, 0), (.iconst 1, 1, 0, 0, 0), (.if_icmp .ne 7, 3, 0, 0, 0), (.iconst 1, 1, 0, 0, 0), (.goto 4, 3, 0, 0, 0)]
abbrev s_L_isMade_310 : List Ent := [(.iconst 0, 1, 0, 0, 0)]
abbrev s_L_isMade_311 : List Ent := [(.istore 13, 2, 0, 0, 0), (.aload 11, 2, 0, 0, 0), (.bipush 17, 2, 0, 0, 0), (.iaload, 1, 0, 0, 0), (.iload 12, 2, 0, 0, 0), (.aload 9, 2, 0, 0, 0), (.bipush 17, 2, 0, 0, 0), (.iaload, 1, 0, 0, 0), (.iadd, 1, 0, 0, 0), (.if_icmp .ne 53, 3, 0, 0, 0), (.aload 11, 2, 0, 0, 0), (.bipush 16, 2, 0, 0, 0), (.iaload, 1, 0, 0, 0), (.iload 13, 2, 0, 0, 0), (.ifCond .eq 21, 3, 0, 0, 0), (.aload 7, 2, 0, 0, 0), (.bipush 16, 2, 0, 0, 0), (.iaload, 1, 0, 0, 0), (.aload 9, 2, 0, 0, 0), (.bipush 16, 2, 0, 0, 0), (.iaload, 1, 0, 0, 0), (.imul, 1, 0, 0, 0), (.sipush 10007, 3, 0, 0, 0), (.irem, 1, 0, 0, 0), (.goto 18, 3, 0, 0, 0)]
abbrev s_L_isMade_357 : List Ent := [(.aload 7, 2, 0, 0, 0), (.bipush 16, 2, 0, 0, 0), (.iaload, 1, 0, 0, 0), (.aload 9, 2, 0, 0, 0), (.bipush 16, 2, 0, 0, 0), (.iaload, 1, 0, 0, 0), (.iadd, 1, 0, 0, 0), (.sipush 10007, 3, 0, 0, 0), (.irem, 1, 0, 0, 0)]
abbrev s_L_isMade_372 : List Ent := [(.if_icmp .ne 7, 3, 0, 0, 0), (.iconst 1, 1, 0, 0, 0), (.goto 4, 3, 0, 0, 0)]
abbrev s_L_isMade_379 : List Ent := [(.iconst 0, 1, 0, 0, 0)]
abbrev s_L_isMade_380 : List Ent := [(.istore 14, 2, 0, 0, 0), (.iconst 0, 1, 0, 0, 0), (.istore 15, 2, 0, 0, 0)]
abbrev s_L_isMade_385 : List Ent := [(.iload 15, 2, 0, 0, 0), (.aload 11, 2, 0, 0, 0), (.bipush 17, 2, 0, 0, 0), (.iaload, 1, 0, 0, 0), (.if_icmp .ge 276, 3, 0, 0, 0), (.iload 15, 2, 0, 0, 0), (.iload 12, 2, 0, 0, 0), (.if_icmp .ge 7, 3, 0, 0, 0), (.iconst 1, 1, 0, 0, 0), (.goto 4, 3, 0, 0, 0)]
abbrev s_L_isMade_406 : List Ent := [(.iconst 0, 1, 0, 0, 0)]
abbrev s_L_isMade_407 : List Ent := [(.istore 16, 2, 0, 0, 0), (.iload 14, 2, 0, 0, 0), (.ifCond .eq 112, 3, 0, 0, 0), (.aload 11, 2, 0, 0, 0), (.iload 15, 2, 0, 0, 0), (.iaload, 1, 0, 0, 0), (.iload 16, 2, 0, 0, 0), (.ifCond .eq 11, 3, 0, 0, 0), (.aload 7, 2, 0, 0, 0), (.iload 15, 2, 0, 0, 0), (.iaload, 1, 0, 0, 0), (.goto 30, 3, 0, 0, 0)]
abbrev s_L_isMade_432 : List Ent := [(.aload 9, 2, 0, 0, 0), (.iload 15, 2, 0, 0, 0), (.iload 12, 2, 0, 0, 0), (.isub, 1, 0, 0, 0), (.iaload, 1, 0, 0, 0), (.iload 13, 2, 0, 0, 0), (.ifCond .eq 11, 3, 0, 0, 0), (.aload 7, 2, 0, 0, 0), (.bipush 16, 2, 0, 0, 0), (.iaload, 1, 0, 0, 0), (.goto 4, 3, 0, 0, 0)]
abbrev s_L_isMade_453 : List Ent := [(.iconst 1, 1, 0, 0, 0)]
abbrev s_L_isMade_454 : List Ent := [(.imul, 1, 0, 0, 0), (.sipush 10007, 3, 0, 0, 0), (.irem, 1, 0, 0, 0)]
abbrev s_L_isMade_459 : List Ent := [(.if_icmp .ne 64, 3, 0, 0, 0), (.aload 11, 2, 0, 0, 0), (.bipush 8, 2, 0, 0, 0), (.iload 15, 2, 0, 0, 0), (.iadd, 1, 0, 0, 0), (.iaload, 1, 0, 0, 0), (.iload 16, 2, 0, 0, 0), (.ifCond .eq 33, 3, 0, 0, 0), (.aload 7, 2, 0, 0, 0), (.bipush 8, 2, 0, 0, 0), (.iload 15, 2, 0, 0, 0), (.iadd, 1, 0, 0, 0), (.iaload, 1, 0, 0, 0), (.iload 13, 2, 0, 0, 0), (.ifCond .eq 11, 3, 0, 0, 0), (.aload 9, 2, 0, 0, 0), (.bipush 16, 2, 0, 0, 0), (.iaload, 1, 0, 0, 0), (.goto 4, 3, 0, 0, 0)]
abbrev s_L_isMade_496 : List Ent := [(.iconst 1, 1, 0, 0, 0)]
abbrev s_L_isMade_497 : List Ent := [(.imul, 1, 0, 0, 0), (.sipush 10007, 3, 0, 0, 0), (.irem, 1, 0, 0, 0), (.goto 14, 3, 0, 0, 0)]
abbrev s_L_isMade_505 : List Ent := [(.aload 9, 2, 0, 0, 0), (.bipush 8, 2, 0, 0, 0), (.iload 15, 2, 0, 0, 0), (.iadd, 1, 0, 0, 0), (.iload 12, 2, 0, 0, 0), (.isub, 1, 0, 0, 0), (.iaload, 1, 0, 0, 0)]
abbrev s_L_isMade_516 : List Ent := [(.if_icmp .ne 7, 3, 0, 0, 0), (.iconst 1, 1, 0, 0, 0), (.goto 4, 3, 0, 0, 0)]
abbrev s_L_isMade_523 : List Ent := [(.iconst 0, 1, 0, 0, 0)]
abbrev s_L_isMade_524 : List Ent := [(.istore 14, 2, 0, 0, 0), (.iconst 0, 1, 0, 0, 0), (.istore 17, 2, 0, 0, 0)]
abbrev s_L_isMade_529 : List Ent := [(.iload 17, 2, 0, 0, 0), (.aload 11, 2, 0, 0, 0), (.bipush 17, 2, 0, 0, 0), (.iaload, 1, 0, 0, 0), (.if_icmp .ge 126, 3, 0, 0, 0), (.iload 16, 2, 0, 0, 0), (.ifCond .eq 28, 3, 0, 0, 0), (.iload 17, 2, 0, 0, 0), (.iload 12, 2, 0, 0, 0), (.if_icmp .ge 17, 3, 0, 0, 0), (.aload 6, 2, 0, 0, 0), (.bipush 8, 2, 0, 0, 0), (.iload 15, 2, 0, 0, 0), (.imul, 1, 0, 0, 0), (.iload 17, 2, 0, 0, 0), (.iadd, 1, 0, 0, 0), (.iaload, 1, 0, 0, 0), (.goto 64, 3, 0, 0, 0)]
abbrev s_L_isMade_565 : List Ent := [(.iconst 0, 1, 0, 0, 0), (.goto 60, 3, 0, 0, 0)]
abbrev s_L_isMade_569 : List Ent := [(.iload 17, 2, 0, 0, 0), (.iload 12, 2, 0, 0, 0), (.if_icmp .lt 23, 3, 0, 0, 0), (.aload 8, 2, 0, 0, 0), (.bipush 8, 2, 0, 0, 0), (.iload 15, 2, 0, 0, 0), (.iload 12, 2, 0, 0, 0), (.isub, 1, 0, 0, 0), (.imul, 1, 0, 0, 0), (.iload 17, 2, 0, 0, 0), (.iadd, 1, 0, 0, 0), (.iload 12, 2, 0, 0, 0), (.isub, 1, 0, 0, 0), (.iaload, 1, 0, 0, 0), (.goto 33, 3, 0, 0, 0)]
abbrev s_L_isMade_596 : List Ent := [(.iload 13, 2, 0, 0, 0), (.ifCond .eq 27, 3, 0, 0, 0), (.aload 9, 2, 0, 0, 0), (.iload 15, 2, 0, 0, 0), (.iload 12, 2, 0, 0, 0), (.isub, 1, 0, 0, 0), (.iaload, 1, 0, 0, 0), (.aload 7, 2, 0, 0, 0), (.bipush 8, 2, 0, 0, 0), (.iload 17, 2, 0, 0, 0), (.iadd, 1, 0, 0, 0), (.iaload, 1, 0, 0, 0), (.imul, 1, 0, 0, 0), (.sipush 10007, 3, 0, 0, 0), (.irem, 1, 0, 0, 0), (.goto 4, 3, 0, 0, 0)]
abbrev s_L_isMade_625 : List Ent := [(.iconst 0, 1, 0, 0, 0)]
abbrev s_L_isMade_626 : List Ent := [(.istore 18, 2, 0, 0, 0), (.iload 14, 2, 0, 0, 0), (.ifCond .eq 23, 3, 0, 0, 0), (.aload 10, 2, 0, 0, 0), (.bipush 8, 2, 0, 0, 0), (.iload 15, 2, 0, 0, 0), (.imul, 1, 0, 0, 0), (.iload 17, 2, 0, 0, 0), (.iadd, 1, 0, 0, 0), (.iaload, 1, 0, 0, 0), (.iload 18, 2, 0, 0, 0), (.if_icmp .ne 7, 3, 0, 0, 0), (.iconst 1, 1, 0, 0, 0), (.goto 4, 3, 0, 0, 0)]
abbrev s_L_isMade_653 : List Ent := [(.iconst 0, 1, 0, 0, 0)]
abbrev s_L_isMade_654 : List Ent := [(.istore 14, 2, 0, 0, 0), (.iinc 17 1, 3, 0, 0, 0), (.goto (-130), 3, 0, 0, 0)]
abbrev s_L_isMade_662 : List Ent := [(.iinc 15 1, 3, 0, 0, 0), (.goto (-280), 3, 0, 0, 0)]
abbrev s_L_isMade_668 : List Ent := [(.iload 14, 2, 0, 0, 0), (.ireturn, 1, 1, 0, 0)]
def mt_L_isMade : MT := ((11, 0, 6), yL_isMade, cL_isMade, 19, (some .boolean), [], [(0, s_L_isMade_0), (128, s_L_isMade_128), (129, s_L_isMade_129), (134, s_L_isMade_134), (196, s_L_isMade_196), (197, s_L_isMade_197), (202, s_L_isMade_202), (282, s_L_isMade_282), (283, s_L_isMade_283), (291, s_L_isMade_291), (297, s_L_isMade_297), (300, s_L_isMade_300), (310, s_L_isMade_310), (311, s_L_isMade_311), (357, s_L_isMade_357), (372, s_L_isMade_372), (379, s_L_isMade_379), (380, s_L_isMade_380), (385, s_L_isMade_385), (406, s_L_isMade_406), (407, s_L_isMade_407), (432, s_L_isMade_432), (453, s_L_isMade_453), (454, s_L_isMade_454), (459, s_L_isMade_459), (496, s_L_isMade_496), (497, s_L_isMade_497), (505, s_L_isMade_505), (516, s_L_isMade_516), (523, s_L_isMade_523), (524, s_L_isMade_524), (529, s_L_isMade_529), (565, s_L_isMade_565), (569, s_L_isMade_569), (596, s_L_isMade_596), (625, s_L_isMade_625), (626, s_L_isMade_626), (653, s_L_isMade_653), (654, s_L_isMade_654), (662, s_L_isMade_662), (668, s_L_isMade_668)])
abbrev s_L_arePlaced_0 : List Ent := [(.bipush 64, 2, 0, 0, 0), (.newarray .int, 2, 0, 0, 0), (.astore 4, 2, 0, 0, 0), (.bipush 18, 2, 0, 0, 0), (.newarray .int, 2, 0, 0, 0), (.astore 5, 2, 0, 0, 0), (.bipush 64, 2, 0, 0, 0), (.newarray .int, 2, 0, 0, 0), (.astore 6, 2, 0, 0, 0), (.bipush 18, 2, 0, 0, 0), (.newarray .int, 2, 0, 0, 0), (.astore 7, 2, 0, 0, 0), (.aload_n 0, 1, 0, 0, 0), (.iload_n 2, 1, 0, 0, 0), (.aload 4, 2, 0, 0, 0), (.aload 5, 2, 0, 0, 0), (.invokestatic 103, 3, 97, 4, 0), (.aload_n 0, 1, 0, 0, 0), (.iload_n 1, 1, 0, 0, 0), (.aload 6, 2, 0, 0, 0), (.aload 7, 2, 0, 0, 0), (.invokestatic 103, 3, 97, 4, 0), (.aload 5, 2, 0, 0, 0), (.bipush 17, 2, 0, 0, 0), (.iaload, 1, 0, 0, 0), (.istore 8, 2, 0, 0, 0), (.aload 7, 2, 0, 0, 0), (.bipush 17, 2, 0, 0, 0), (.iaload, 1, 0, 0, 0), (.iload_n 3, 1, 0, 0, 0), (.ifCond .eq 10, 3, 0, 0, 0), (.iconst 2, 1, 0, 0, 0), (.iload 8, 2, 0, 0, 0), (.imul, 1, 0, 0, 0), (.goto 5, 3, 0, 0, 0)]
abbrev s_L_arePlaced_65 : List Ent := [(.iload 8, 2, 0, 0, 0)]
abbrev s_L_arePlaced_67 : List Ent := [(.if_icmp .ne 20, 3, 0, 0, 0), (.aload 7, 2, 0, 0, 0), (.bipush 16, 2, 0, 0, 0), (.iaload, 1, 0, 0, 0), (.aload 5, 2, 0, 0, 0), (.bipush 16, 2, 0, 0, 0), (.iaload, 1, 0, 0, 0), (.if_icmp .ne 7, 3, 0, 0, 0), (.iconst 1, 1, 0, 0, 0), (.goto 4, 3, 0, 0, 0)]
abbrev s_L_arePlaced_87 : List Ent := [(.iconst 0, 1, 0, 0, 0)]
abbrev s_L_arePlaced_88 : List Ent := [(.istore 9, 2, 0, 0, 0), (.iconst 0, 1, 0, 0, 0), (.istore 10, 2, 0, 0, 0)]
abbrev s_L_arePlaced_93 : List Ent := [(.iload 10, 2, 0, 0, 0), (.iload 8, 2, 0, 0, 0), (.if_icmp .ge 308, 3, 0, 0, 0), (.iload 9, 2, 0, 0, 0), (.ifCond .eq 303, 3, 0, 0, 0), (.aload 7, 2, 0, 0, 0), (.iload 10, 2, 0, 0, 0), (.iaload, 1, 0, 0, 0), (.aload 5, 2, 0, 0, 0), (.iload 10, 2, 0, 0, 0), (.iaload, 1, 0, 0, 0), (.if_icmp .ne 60, 3, 0, 0, 0), (.aload 7, 2, 0, 0, 0), (.bipush 8, 2, 0, 0, 0), (.iload 10, 2, 0, 0, 0), (.iadd, 1, 0, 0, 0), (.iaload, 1, 0, 0, 0), (.aload 5, 2, 0, 0, 0), (.bipush 8, 2, 0, 0, 0), (.iload 10, 2, 0, 0, 0), (.iadd, 1, 0, 0, 0), (.iaload, 1, 0, 0, 0), (.if_icmp .ne 41, 3, 0, 0, 0), (.iload_n 3, 1, 0, 0, 0), (.ifCond .eq 33, 3, 0, 0, 0), (.aload 7, 2, 0, 0, 0), (.iload 8, 2, 0, 0, 0), (.iload 10, 2, 0, 0, 0), (.iadd, 1, 0, 0, 0), (.iaload, 1, 0, 0, 0), (.aload 5, 2, 0, 0, 0), (.iload 10, 2, 0, 0, 0), (.iaload, 1, 0, 0, 0), (.if_icmp .ne 21, 3, 0, 0, 0), (.aload 7, 2, 0, 0, 0), (.bipush 8, 2, 0, 0, 0), (.iload 8, 2, 0, 0, 0), (.iadd, 1, 0, 0, 0), (.iload 10, 2, 0, 0, 0), (.iadd, 1, 0, 0, 0), (.iaload, 1, 0, 0, 0), (.ifCond .ne 7, 3, 0, 0, 0)]
abbrev s_L_arePlaced_171 : List Ent := [(.iconst 1, 1, 0, 0, 0), (.goto 4, 3, 0, 0, 0)]
abbrev s_L_arePlaced_175 : List Ent := [(.iconst 0, 1, 0, 0, 0)]
abbrev s_L_arePlaced_176 : List Ent := [(.istore 9, 2, 0, 0, 0), (.iconst 0, 1, 0, 0, 0), (.istore 11, 2, 0, 0, 0)]
abbrev s_L_arePlaced_181 : List Ent := [(.iload 11, 2, 0, 0, 0), (.iload 8, 2, 0, 0, 0), (.if_icmp .ge 214, 3, 0, 0, 0), (.iload 9, 2, 0, 0, 0), (.ifCond .eq 209, 3, 0, 0, 0), (.aload 5, 2, 0, 0, 0), (.iload 10, 2, 0, 0, 0), (.iaload, 1, 0, 0, 0), (.aload_n 0, 1, 0, 0, 0), (.iload_n 2, 1, 0, 0, 0), (.iload 11, 2, 0, 0, 0), (.invokevirtual 45, 3, 75, 2, 7), (.imul, 1, 0, 0, 0), (.sipush 10007, 3, 0, 0, 0), (.irem, 1, 0, 0, 0), (.istore 12, 2, 0, 0, 0), (.iload_n 3, 1, 0, 0, 0), (.ifCond .eq 142, 3, 0, 0, 0), (.aload_n 0, 1, 0, 0, 0), (.iload_n 2, 1, 0, 0, 0), (.iload 10, 2, 0, 0, 0), (.invokevirtual 51, 3, 77, 2, 7), (.aload 5, 2, 0, 0, 0), (.bipush 8, 2, 0, 0, 0), (.iload 11, 2, 0, 0, 0), (.iadd, 1, 0, 0, 0), (.iaload, 1, 0, 0, 0), (.imul, 1, 0, 0, 0), (.sipush 10007, 3, 0, 0, 0), (.irem, 1, 0, 0, 0), (.istore 13, 2, 0, 0, 0), (.aload 6, 2, 0, 0, 0), (.bipush 8, 2, 0, 0, 0), (.iload 10, 2, 0, 0, 0), (.imul, 1, 0, 0, 0), (.iload 11, 2, 0, 0, 0), (.iadd, 1, 0, 0, 0), (.iaload, 1, 0, 0, 0), (.aload 4, 2, 0, 0, 0), (.bipush 8, 2, 0, 0, 0), (.iload 10, 2, 0, 0, 0), (.imul, 1, 0, 0, 0), (.iload 11, 2, 0, 0, 0), (.iadd, 1, 0, 0, 0), (.iaload, 1, 0, 0, 0), (.if_icmp .ne 89, 3, 0, 0, 0), (.aload 6, 2, 0, 0, 0), (.bipush 8, 2, 0, 0, 0), (.iload 10, 2, 0, 0, 0), (.imul, 1, 0, 0, 0), (.iload 8, 2, 0, 0, 0), (.iadd, 1, 0, 0, 0), (.iload 11, 2, 0, 0, 0), (.iadd, 1, 0, 0, 0), (.iaload, 1, 0, 0, 0), (.iload 12, 2, 0, 0, 0), (.ineg, 1, 0, 0, 0), (.invokestatic 72, 3, 95, 1, 0), (.if_icmp .ne 66, 3, 0, 0, 0), (.aload 6, 2, 0, 0, 0), (.bipush 8, 2, 0, 0, 0), (.iload 8, 2, 0, 0, 0), (.iload 10, 2, 0, 0, 0), (.iadd, 1, 0, 0, 0), (.imul, 1, 0, 0, 0), (.iload 11, 2, 0, 0, 0), (.iadd, 1, 0, 0, 0), (.iaload, 1, 0, 0, 0), (.iload 13, 2, 0, 0, 0), (.if_icmp .ne 47, 3, 0, 0, 0), (.aload 6, 2, 0, 0, 0), (.bipush 8, 2, 0, 0, 0), (.iload 8, 2, 0, 0, 0), (.iload 10, 2, 0, 0, 0), (.iadd, 1, 0, 0, 0), (.imul, 1, 0, 0, 0), (.iload 8, 2, 0, 0, 0), (.iadd, 1, 0, 0, 0), (.iload 11, 2, 0, 0, 0), (.iadd, 1, 0, 0, 0), (.iaload, 1, 0, 0, 0), (.aload 4, 2, 0, 0, 0), (.bipush 8, 2, 0, 0, 0), (.iload 10, 2, 0, 0, 0), (.imul, 1, 0, 0, 0), (.iload 11, 2, 0, 0, 0), (.iadd, 1, 0, 0, 0), (.iaload, 1, 0, 0, 0), (.iload 12, 2, 0, 0, 0), (.isub, 1, 0, 0, 0), (.iload 13, 2, 0, 0, 0), (.isub, 1, 0, 0, 0), (.invokestatic 72, 3, 95, 1, 0), (.if_icmp .ne 7, 3, 0, 0, 0), (.iconst 1, 1, 0, 0, 0), (.goto 4, 3, 0, 0, 0)]
abbrev s_L_arePlaced_349 : List Ent := [(.iconst 0, 1, 0, 0, 0)]
abbrev s_L_arePlaced_350 : List Ent := [(.istore 9, 2, 0, 0, 0), (.goto 41, 3, 0, 0, 0)]
abbrev s_L_arePlaced_355 : List Ent := [(.aload 6, 2, 0, 0, 0), (.bipush 8, 2, 0, 0, 0), (.iload 10, 2, 0, 0, 0), (.imul, 1, 0, 0, 0), (.iload 11, 2, 0, 0, 0), (.iadd, 1, 0, 0, 0), (.iaload, 1, 0, 0, 0), (.aload 4, 2, 0, 0, 0), (.bipush 8, 2, 0, 0, 0), (.iload 10, 2, 0, 0, 0), (.imul, 1, 0, 0, 0), (.iload 11, 2, 0, 0, 0), (.iadd, 1, 0, 0, 0), (.iaload, 1, 0, 0, 0), (.iload 12, 2, 0, 0, 0), (.isub, 1, 0, 0, 0), (.invokestatic 72, 3, 95, 1, 0), (.if_icmp .ne 7, 3, 0, 0, 0), (.iconst 1, 1, 0, 0, 0), (.goto 4, 3, 0, 0, 0)]
abbrev s_L_arePlaced_390 : List Ent := [(.iconst 0, 1, 0, 0, 0)]
abbrev s_L_arePlaced_391 : List Ent := [(.istore 9, 2, 0, 0, 0)]
abbrev s_L_arePlaced_393 : List Ent := [(.iinc 11 1, 3, 0, 0, 0), (.goto (-215), 3, 0, 0, 0)]
abbrev s_L_arePlaced_399 : List Ent := [(.iinc 10 1, 3, 0, 0, 0), (.goto (-309), 3, 0, 0, 0)]
abbrev s_L_arePlaced_405 : List Ent := [(.iload 9, 2, 0, 0, 0), (.ireturn, 1, 1, 0, 0)]
def mt_L_arePlaced : MT := ((11, 0, 4), yL_arePlaced, cL_arePlaced, 14, (some .boolean), [], [(0, s_L_arePlaced_0), (65, s_L_arePlaced_65), (67, s_L_arePlaced_67), (87, s_L_arePlaced_87), (88, s_L_arePlaced_88), (93, s_L_arePlaced_93), (171, s_L_arePlaced_171), (175, s_L_arePlaced_175), (176, s_L_arePlaced_176), (181, s_L_arePlaced_181), (349, s_L_arePlaced_349), (350, s_L_arePlaced_350), (355, s_L_arePlaced_355), (390, s_L_arePlaced_390), (391, s_L_arePlaced_391), (393, s_L_arePlaced_393), (399, s_L_arePlaced_399), (405, s_L_arePlaced_405)])
abbrev s_L_isAct_0 : List Ent := [(.iload 5, 2, 0, 0, 0), (.aload_n 3, 1, 0, 0, 0), (.iconst 0, 1, 0, 0, 0), (.iaload, 1, 0, 0, 0), (.iconst 1, 1, 0, 0, 0), (.iadd, 1, 0, 0, 0), (.irem, 1, 0, 0, 0), (.istore 7, 2, 0, 0, 0), (.iload 6, 2, 0, 0, 0), (.aload_n 3, 1, 0, 0, 0), (.iconst 0, 1, 0, 0, 0), (.iaload, 1, 0, 0, 0), (.iconst 1, 1, 0, 0, 0), (.iadd, 1, 0, 0, 0), (.irem, 1, 0, 0, 0), (.istore 8, 2, 0, 0, 0), (.iload 4, 2, 0, 0, 0), (.ifCond .ne 111, 3, 0, 0, 0), (.iload 6, 2, 0, 0, 0), (.bipush 6, 2, 0, 0, 0), (.irem, 1, 0, 0, 0), (.istore 9, 2, 0, 0, 0), (.iload 9, 2, 0, 0, 0), (.ifCond .le 13, 3, 0, 0, 0), (.iload 9, 2, 0, 0, 0), (.iconst 5, 1, 0, 0, 0), (.if_icmp .ge 7, 3, 0, 0, 0), (.iconst 1, 1, 0, 0, 0), (.goto 4, 3, 0, 0, 0)]
abbrev s_L_isAct_47 : List Ent := [(.iconst 0, 1, 0, 0, 0)]
abbrev s_L_isAct_48 : List Ent := [(.istore 10, 2, 0, 0, 0), (.iload 10, 2, 0, 0, 0), (.ifCond .eq 15, 3, 0, 0, 0), (.aload_n 3, 1, 0, 0, 0), (.iconst 0, 1, 0, 0, 0), (.iaload, 1, 0, 0, 0), (.bipush 12, 2, 0, 0, 0), (.if_icmp .ge 7, 3, 0, 0, 0), (.iconst 1, 1, 0, 0, 0), (.goto 4, 3, 0, 0, 0)]
abbrev s_L_isAct_67 : List Ent := [(.iconst 0, 1, 0, 0, 0)]
abbrev s_L_isAct_68 : List Ent := [(.istore 11, 2, 0, 0, 0), (.aload_n 3, 1, 0, 0, 0), (.iconst 0, 1, 0, 0, 0), (.dup2, 1, 0, 0, 0), (.iaload, 1, 0, 0, 0), (.iload 11, 2, 0, 0, 0), (.ifCond .eq 7, 3, 0, 0, 0), (.iconst 1, 1, 0, 0, 0), (.goto 4, 3, 0, 0, 0)]
abbrev s_L_isAct_83 : List Ent := [(.iconst 0, 1, 0, 0, 0)]
abbrev s_L_isAct_84 : List Ent := [(.iadd, 1, 0, 0, 0), (.iastore, 1, 0, 0, 0), (.aload_n 0, 1, 0, 0, 0), (.iconst 0, 1, 0, 0, 0), (.iload 9, 2, 0, 0, 0), (.iconst 0, 1, 0, 0, 0), (.iconst 0, 1, 0, 0, 0), (.iconst 0, 1, 0, 0, 0), (.iconst 0, 1, 0, 0, 0), (.invokestatic 96, 3, 94, 7, 0), (.iload 10, 2, 0, 0, 0), (.ifCond .ne 9, 3, 0, 0, 0), (.sipush (-2000), 3, 0, 0, 0), (.goto 19, 3, 0, 0, 0)]
abbrev s_L_isAct_108 : List Ent := [(.iload 11, 2, 0, 0, 0), (.ifCond .eq 11, 3, 0, 0, 0), (.aload_n 3, 1, 0, 0, 0), (.iconst 0, 1, 0, 0, 0), (.iaload, 1, 0, 0, 0), (.iconst 1, 1, 0, 0, 0), (.isub, 1, 0, 0, 0), (.goto 6, 3, 0, 0, 0)]
abbrev s_L_isAct_121 : List Ent := [(.sipush (-1000), 3, 0, 0, 0)]
abbrev s_L_isAct_124 : List Ent := [(.if_icmp .ne 7, 3, 0, 0, 0), (.iconst 1, 1, 0, 0, 0), (.goto 4, 3, 0, 0, 0)]
abbrev s_L_isAct_131 : List Ent := [(.iconst 0, 1, 0, 0, 0)]
abbrev s_L_isAct_132 : List Ent := [(.ireturn, 1, 1, 0, 0)]
abbrev s_L_isAct_133 : List Ent := [(.iload 4, 2, 0, 0, 0), (.iconst 3, 1, 0, 0, 0), (.if_icmp .ge 176, 3, 0, 0, 0), (.aload_n 3, 1, 0, 0, 0), (.iconst 0, 1, 0, 0, 0), (.iaload, 1, 0, 0, 0), (.ifCond .le 170, 3, 0, 0, 0), (.iload 7, 2, 0, 0, 0), (.aload_n 3, 1, 0, 0, 0), (.iconst 0, 1, 0, 0, 0), (.iaload, 1, 0, 0, 0), (.if_icmp .ge 15, 3, 0, 0, 0), (.iload 8, 2, 0, 0, 0), (.aload_n 3, 1, 0, 0, 0), (.iconst 0, 1, 0, 0, 0), (.iaload, 1, 0, 0, 0), (.if_icmp .ge 7, 3, 0, 0, 0), (.iconst 1, 1, 0, 0, 0), (.goto 4, 3, 0, 0, 0)]
abbrev s_L_isAct_165 : List Ent := [(.iconst 0, 1, 0, 0, 0)]
abbrev s_L_isAct_166 : List Ent := [(.istore 9, 2, 0, 0, 0), (.iload 9, 2, 0, 0, 0), (.ifCond .eq 19, 3, 0, 0, 0), (.aload_n 0, 1, 0, 0, 0), (.iload 7, 2, 0, 0, 0), (.invokevirtual 63, 3, 69, 1, 7), (.aload_n 0, 1, 0, 0, 0), (.iload 8, 2, 0, 0, 0), (.invokevirtual 63, 3, 69, 1, 7), (.iadd, 1, 0, 0, 0), (.goto 4, 3, 0, 0, 0)]
abbrev s_L_isAct_189 : List Ent := [(.iconst 0, 1, 0, 0, 0)]
abbrev s_L_isAct_190 : List Ent := [(.istore 10, 2, 0, 0, 0), (.iload 9, 2, 0, 0, 0), (.ifCond .eq 22, 3, 0, 0, 0), (.iload 10, 2, 0, 0, 0), (.bipush 9, 2, 0, 0, 0), (.if_icmp .ge 15, 3, 0, 0, 0), (.aload_n 3, 1, 0, 0, 0), (.iconst 0, 1, 0, 0, 0), (.iaload, 1, 0, 0, 0), (.bipush 12, 2, 0, 0, 0), (.if_icmp .ge 7, 3, 0, 0, 0), (.iconst 1, 1, 0, 0, 0), (.goto 4, 3, 0, 0, 0)]
abbrev s_L_isAct_216 : List Ent := [(.iconst 0, 1, 0, 0, 0)]
abbrev s_L_isAct_217 : List Ent := [(.istore 11, 2, 0, 0, 0), (.aload_n 3, 1, 0, 0, 0), (.iconst 0, 1, 0, 0, 0), (.dup2, 1, 0, 0, 0), (.iaload, 1, 0, 0, 0), (.iload 11, 2, 0, 0, 0), (.ifCond .eq 7, 3, 0, 0, 0), (.iconst 1, 1, 0, 0, 0), (.goto 4, 3, 0, 0, 0)]
abbrev s_L_isAct_232 : List Ent := [(.iconst 0, 1, 0, 0, 0)]
abbrev s_L_isAct_233 : List Ent := [(.iadd, 1, 0, 0, 0), (.iastore, 1, 0, 0, 0), (.aload_n 0, 1, 0, 0, 0), (.iconst 2, 1, 0, 0, 0), (.iload 7, 2, 0, 0, 0), (.iload 8, 2, 0, 0, 0), (.iload 4, 2, 0, 0, 0), (.iconst 1, 1, 0, 0, 0), (.isub, 1, 0, 0, 0), (.iconst 0, 1, 0, 0, 0), (.iconst 0, 1, 0, 0, 0), (.invokestatic 96, 3, 94, 7, 0), (.iload 9, 2, 0, 0, 0), (.ifCond .ne 9, 3, 0, 0, 0), (.sipush (-3000), 3, 0, 0, 0), (.goto 19, 3, 0, 0, 0)]
abbrev s_L_isAct_261 : List Ent := [(.iload 11, 2, 0, 0, 0), (.ifCond .eq 11, 3, 0, 0, 0), (.aload_n 3, 1, 0, 0, 0), (.iconst 0, 1, 0, 0, 0), (.iaload, 1, 0, 0, 0), (.iconst 1, 1, 0, 0, 0), (.isub, 1, 0, 0, 0), (.goto 6, 3, 0, 0, 0)]
abbrev s_L_isAct_274 : List Ent := [(.sipush (-1000), 3, 0, 0, 0)]
abbrev s_L_isAct_277 : List Ent := [(.if_icmp .ne 33, 3, 0, 0, 0), (.iload 11, 2, 0, 0, 0), (.ifCond .eq 24, 3, 0, 0, 0), (.aload_n 0, 1, 0, 0, 0), (.aload_n 3, 1, 0, 0, 0), (.iconst 0, 1, 0, 0, 0), (.iaload, 1, 0, 0, 0), (.iconst 1, 1, 0, 0, 0), (.isub, 1, 0, 0, 0), (.iload 7, 2, 0, 0, 0), (.iload 8, 2, 0, 0, 0), (.iload 4, 2, 0, 0, 0), (.iconst 1, 1, 0, 0, 0), (.isub, 1, 0, 0, 0), (.iconst 0, 1, 0, 0, 0), (.invokestatic 138, 3, 108, 6, 0), (.ifCond .eq 7, 3, 0, 0, 0)]
abbrev s_L_isAct_306 : List Ent := [(.iconst 1, 1, 0, 0, 0), (.goto 4, 3, 0, 0, 0)]
abbrev s_L_isAct_310 : List Ent := [(.iconst 0, 1, 0, 0, 0)]
abbrev s_L_isAct_311 : List Ent := [(.ireturn, 1, 1, 0, 0)]
abbrev s_L_isAct_312 : List Ent := [(.iload 4, 2, 0, 0, 0), (.iconst 3, 1, 0, 0, 0), (.if_icmp .ne 223, 3, 0, 0, 0), (.aload_n 3, 1, 0, 0, 0), (.iconst 0, 1, 0, 0, 0), (.iaload, 1, 0, 0, 0), (.ifCond .le 217, 3, 0, 0, 0), (.iload 6, 2, 0, 0, 0), (.sipush 20015, 3, 0, 0, 0), (.irem, 1, 0, 0, 0), (.sipush 10007, 3, 0, 0, 0), (.isub, 1, 0, 0, 0), (.istore 9, 2, 0, 0, 0), (.iload 7, 2, 0, 0, 0), (.aload_n 3, 1, 0, 0, 0), (.iconst 0, 1, 0, 0, 0), (.iaload, 1, 0, 0, 0), (.if_icmp .ge 7, 3, 0, 0, 0), (.iconst 1, 1, 0, 0, 0), (.goto 4, 3, 0, 0, 0)]
abbrev s_L_isAct_348 : List Ent := [(.iconst 0, 1, 0, 0, 0)]
abbrev s_L_isAct_349 : List Ent := [(.istore 10, 2, 0, 0, 0), (.iload 9, 2, 0, 0, 0), (.sipush (-10007), 3, 0, 0, 0), (.if_icmp .le 15, 3, 0, 0, 0), (.iload 9, 2, 0, 0, 0), (.sipush 10007, 3, 0, 0, 0), (.if_icmp .ge 7, 3, 0, 0, 0), (.iconst 1, 1, 0, 0, 0), (.goto 4, 3, 0, 0, 0)]
abbrev s_L_isAct_371 : List Ent := [(.iconst 0, 1, 0, 0, 0)]
abbrev s_L_isAct_372 : List Ent := [(.istore 11, 2, 0, 0, 0), (.iload 10, 2, 0, 0, 0), (.ifCond .eq 15, 3, 0, 0, 0), (.aload_n 0, 1, 0, 0, 0), (.iload 7, 2, 0, 0, 0), (.iconst 3, 1, 0, 0, 0), (.iconst 0, 1, 0, 0, 0), (.iconst 0, 1, 0, 0, 0), (.invokevirtual 38, 3, 68, 4, 7), (.goto 4, 3, 0, 0, 0)]
abbrev s_L_isAct_391 : List Ent := [(.iconst 0, 1, 0, 0, 0)]
abbrev s_L_isAct_392 : List Ent := [(.istore 12, 2, 0, 0, 0), (.iload 10, 2, 0, 0, 0), (.ifCond .eq 40, 3, 0, 0, 0), (.iload 11, 2, 0, 0, 0), (.ifCond .eq 35, 3, 0, 0, 0), (.iconst 1, 1, 0, 0, 0), (.iload 9, 2, 0, 0, 0), (.invokestatic 72, 3, 95, 1, 0), (.iload 12, 2, 0, 0, 0), (.imul, 1, 0, 0, 0), (.sipush 10007, 3, 0, 0, 0), (.irem, 1, 0, 0, 0), (.iadd, 1, 0, 0, 0), (.invokestatic 72, 3, 95, 1, 0), (.ifCond .le 15, 3, 0, 0, 0), (.aload_n 3, 1, 0, 0, 0), (.iconst 0, 1, 0, 0, 0), (.iaload, 1, 0, 0, 0), (.bipush 12, 2, 0, 0, 0), (.if_icmp .ge 7, 3, 0, 0, 0), (.iconst 1, 1, 0, 0, 0), (.goto 4, 3, 0, 0, 0)]
abbrev s_L_isAct_436 : List Ent := [(.iconst 0, 1, 0, 0, 0)]
abbrev s_L_isAct_437 : List Ent := [(.istore 13, 2, 0, 0, 0), (.aload_n 3, 1, 0, 0, 0), (.iconst 0, 1, 0, 0, 0), (.dup2, 1, 0, 0, 0), (.iaload, 1, 0, 0, 0), (.iload 13, 2, 0, 0, 0), (.ifCond .eq 7, 3, 0, 0, 0), (.iconst 1, 1, 0, 0, 0), (.goto 4, 3, 0, 0, 0)]
abbrev s_L_isAct_452 : List Ent := [(.iconst 0, 1, 0, 0, 0)]
abbrev s_L_isAct_453 : List Ent := [(.iadd, 1, 0, 0, 0), (.iastore, 1, 0, 0, 0), (.aload_n 0, 1, 0, 0, 0), (.iconst 3, 1, 0, 0, 0), (.iload 7, 2, 0, 0, 0), (.iload 9, 2, 0, 0, 0), (.iconst 0, 1, 0, 0, 0), (.iconst 0, 1, 0, 0, 0), (.iconst 0, 1, 0, 0, 0), (.invokestatic 96, 3, 94, 7, 0), (.iload 10, 2, 0, 0, 0), (.ifCond .ne 9, 3, 0, 0, 0), (.sipush (-3000), 3, 0, 0, 0), (.goto 30, 3, 0, 0, 0)]
abbrev s_L_isAct_478 : List Ent := [(.iload 11, 2, 0, 0, 0), (.ifCond .ne 9, 3, 0, 0, 0), (.sipush (-2000), 3, 0, 0, 0), (.goto 19, 3, 0, 0, 0)]
abbrev s_L_isAct_489 : List Ent := [(.iload 13, 2, 0, 0, 0), (.ifCond .eq 11, 3, 0, 0, 0), (.aload_n 3, 1, 0, 0, 0), (.iconst 0, 1, 0, 0, 0), (.iaload, 1, 0, 0, 0), (.iconst 1, 1, 0, 0, 0), (.isub, 1, 0, 0, 0), (.goto 6, 3, 0, 0, 0)]
abbrev s_L_isAct_502 : List Ent := [(.sipush (-1000), 3, 0, 0, 0)]
abbrev s_L_isAct_505 : List Ent := [(.if_icmp .ne 31, 3, 0, 0, 0), (.iload 13, 2, 0, 0, 0), (.ifCond .eq 22, 3, 0, 0, 0), (.aload_n 0, 1, 0, 0, 0), (.aload_n 3, 1, 0, 0, 0), (.iconst 0, 1, 0, 0, 0), (.iaload, 1, 0, 0, 0), (.iconst 1, 1, 0, 0, 0), (.isub, 1, 0, 0, 0), (.iload 7, 2, 0, 0, 0), (.iload 7, 2, 0, 0, 0), (.iconst 2, 1, 0, 0, 0), (.iload 9, 2, 0, 0, 0), (.invokestatic 138, 3, 108, 6, 0), (.ifCond .eq 7, 3, 0, 0, 0)]
abbrev s_L_isAct_532 : List Ent := [(.iconst 1, 1, 0, 0, 0), (.goto 4, 3, 0, 0, 0)]
abbrev s_L_isAct_536 : List Ent := [(.iconst 0, 1, 0, 0, 0)]
abbrev s_L_isAct_537 : List Ent := [(.ireturn, 1, 1, 0, 0)]
abbrev s_L_isAct_538 : List Ent := [(.iload 4, 2, 0, 0, 0), (.bipush 6, 2, 0, 0, 0), (.if_icmp .ge 221, 3, 0, 0, 0), (.iload 4, 2, 0, 0, 0), (.iconst 4, 1, 0, 0, 0), (.if_icmp .ne 7, 3, 0, 0, 0), (.iconst 1, 1, 0, 0, 0), (.goto 4, 3, 0, 0, 0)]
abbrev s_L_isAct_555 : List Ent := [(.iconst 0, 1, 0, 0, 0)]
abbrev s_L_isAct_556 : List Ent := [(.istore 9, 2, 0, 0, 0), (.iload 9, 2, 0, 0, 0), (.ifCond .eq 7, 3, 0, 0, 0), (.iconst 1, 1, 0, 0, 0), (.goto 4, 3, 0, 0, 0)]
abbrev s_L_isAct_567 : List Ent := [(.iconst 2, 1, 0, 0, 0)]
abbrev s_L_isAct_568 : List Ent := [(.istore 10, 2, 0, 0, 0), (.iload 5, 2, 0, 0, 0), (.iconst 4, 1, 0, 0, 0), (.irem, 1, 0, 0, 0), (.ifCond .ne 16, 3, 0, 0, 0), (.iload 6, 2, 0, 0, 0), (.sipush 20015, 3, 0, 0, 0), (.irem, 1, 0, 0, 0), (.sipush 10007, 3, 0, 0, 0), (.isub, 1, 0, 0, 0), (.goto 10, 3, 0, 0, 0)]
abbrev s_L_isAct_590 : List Ent := [(.iload 6, 2, 0, 0, 0), (.bipush 7, 2, 0, 0, 0), (.irem, 1, 0, 0, 0), (.iconst 3, 1, 0, 0, 0), (.isub, 1, 0, 0, 0)]
abbrev s_L_isAct_597 : List Ent := [(.istore 11, 2, 0, 0, 0), (.iload 11, 2, 0, 0, 0), (.sipush (-10007), 3, 0, 0, 0), (.if_icmp .le 15, 3, 0, 0, 0), (.iload 11, 2, 0, 0, 0), (.sipush 10007, 3, 0, 0, 0), (.if_icmp .ge 7, 3, 0, 0, 0), (.iconst 1, 1, 0, 0, 0), (.goto 4, 3, 0, 0, 0)]
abbrev s_L_isAct_619 : List Ent := [(.iconst 0, 1, 0, 0, 0)]
abbrev s_L_isAct_620 : List Ent := [(.istore 12, 2, 0, 0, 0), (.iload 12, 2, 0, 0, 0), (.ifCond .eq 26, 3, 0, 0, 0), (.aload_n 3, 1, 0, 0, 0), (.iload 10, 2, 0, 0, 0), (.iaload, 1, 0, 0, 0), (.iload 9, 2, 0, 0, 0), (.ifCond .eq 8, 3, 0, 0, 0), (.bipush 16, 2, 0, 0, 0), (.goto 5, 3, 0, 0, 0)]
abbrev s_L_isAct_641 : List Ent := [(.bipush 20, 2, 0, 0, 0)]
abbrev s_L_isAct_643 : List Ent := [(.if_icmp .ge 7, 3, 0, 0, 0), (.iconst 1, 1, 0, 0, 0), (.goto 4, 3, 0, 0, 0)]
abbrev s_L_isAct_650 : List Ent := [(.iconst 0, 1, 0, 0, 0)]
abbrev s_L_isAct_651 : List Ent := [(.istore 13, 2, 0, 0, 0), (.iload 13, 2, 0, 0, 0), (.ifCond .eq 21, 3, 0, 0, 0), (.iload 9, 2, 0, 0, 0), (.ifCond .eq 16, 3, 0, 0, 0), (.aload_n 1, 1, 0, 0, 0), (.aload_n 3, 1, 0, 0, 0), (.iconst 1, 1, 0, 0, 0), (.iaload, 1, 0, 0, 0), (.iload 11, 2, 0, 0, 0), (.invokestatic 72, 3, 95, 1, 0), (.iastore, 1, 0, 0, 0), (.goto 18, 3, 0, 0, 0)]
abbrev s_L_isAct_676 : List Ent := [(.iload 13, 2, 0, 0, 0), (.ifCond .eq 13, 3, 0, 0, 0), (.aload_n 2, 1, 0, 0, 0), (.aload_n 3, 1, 0, 0, 0), (.iconst 2, 1, 0, 0, 0), (.iaload, 1, 0, 0, 0), (.iload 11, 2, 0, 0, 0), (.invokestatic 72, 3, 95, 1, 0), (.iastore, 1, 0, 0, 0)]
abbrev s_L_isAct_691 : List Ent := [(.aload_n 3, 1, 0, 0, 0), (.iload 10, 2, 0, 0, 0), (.dup2, 1, 0, 0, 0), (.iaload, 1, 0, 0, 0), (.iload 13, 2, 0, 0, 0), (.ifCond .eq 7, 3, 0, 0, 0), (.iconst 1, 1, 0, 0, 0), (.goto 4, 3, 0, 0, 0)]
abbrev s_L_isAct_705 : List Ent := [(.iconst 0, 1, 0, 0, 0)]
abbrev s_L_isAct_706 : List Ent := [(.iadd, 1, 0, 0, 0), (.iastore, 1, 0, 0, 0), (.aload_n 0, 1, 0, 0, 0), (.iload 9, 2, 0, 0, 0), (.ifCond .eq 7, 3, 0, 0, 0), (.iconst 4, 1, 0, 0, 0), (.goto 4, 3, 0, 0, 0)]
abbrev s_L_isAct_718 : List Ent := [(.iconst 5, 1, 0, 0, 0)]
abbrev s_L_isAct_719 : List Ent := [(.iload 11, 2, 0, 0, 0), (.iconst 0, 1, 0, 0, 0), (.iconst 0, 1, 0, 0, 0), (.iconst 0, 1, 0, 0, 0), (.iconst 0, 1, 0, 0, 0), (.invokestatic 96, 3, 94, 7, 0), (.iload 12, 2, 0, 0, 0), (.ifCond .ne 9, 3, 0, 0, 0), (.sipush (-2000), 3, 0, 0, 0), (.goto 18, 3, 0, 0, 0)]
abbrev s_L_isAct_739 : List Ent := [(.iload 13, 2, 0, 0, 0), (.ifCond .eq 10, 3, 0, 0, 0), (.aload_n 3, 1, 0, 0, 0), (.iload 10, 2, 0, 0, 0), (.iaload, 1, 0, 0, 0), (.goto 6, 3, 0, 0, 0)]
abbrev s_L_isAct_751 : List Ent := [(.sipush (-1000), 3, 0, 0, 0)]
abbrev s_L_isAct_754 : List Ent := [(.if_icmp .ne 7, 3, 0, 0, 0), (.iconst 1, 1, 0, 0, 0), (.goto 4, 3, 0, 0, 0)]
abbrev s_L_isAct_761 : List Ent := [(.iconst 0, 1, 0, 0, 0)]
abbrev s_L_isAct_762 : List Ent := [(.ireturn, 1, 1, 0, 0)]
abbrev s_L_isAct_763 : List Ent := [(.iload 4, 2, 0, 0, 0), (.bipush 6, 2, 0, 0, 0), (.if_icmp .ne 71, 3, 0, 0, 0), (.aload_n 3, 1, 0, 0, 0), (.iconst 1, 1, 0, 0, 0), (.iaload, 1, 0, 0, 0), (.aload_n 3, 1, 0, 0, 0), (.iconst 2, 1, 0, 0, 0), (.iaload, 1, 0, 0, 0), (.iadd, 1, 0, 0, 0), (.istore 9, 2, 0, 0, 0), (.aload_n 3, 1, 0, 0, 0), (.iconst 1, 1, 0, 0, 0), (.iload 5, 2, 0, 0, 0), (.bipush 9, 2, 0, 0, 0), (.irem, 1, 0, 0, 0), (.ifCond .ne 7, 3, 0, 0, 0), (.iconst 0, 1, 0, 0, 0), (.goto 6, 3, 0, 0, 0)]
abbrev s_L_isAct_793 : List Ent := [(.aload_n 3, 1, 0, 0, 0), (.iconst 1, 1, 0, 0, 0), (.iaload, 1, 0, 0, 0)]
abbrev s_L_isAct_796 : List Ent := [(.iastore, 1, 0, 0, 0), (.aload_n 3, 1, 0, 0, 0), (.iconst 2, 1, 0, 0, 0), (.iload 5, 2, 0, 0, 0), (.bipush 9, 2, 0, 0, 0), (.irem, 1, 0, 0, 0), (.ifCond .ne 7, 3, 0, 0, 0), (.iconst 0, 1, 0, 0, 0), (.goto 6, 3, 0, 0, 0)]
abbrev s_L_isAct_811 : List Ent := [(.aload_n 3, 1, 0, 0, 0), (.iconst 2, 1, 0, 0, 0), (.iaload, 1, 0, 0, 0)]
abbrev s_L_isAct_814 : List Ent := [(.iastore, 1, 0, 0, 0), (.iload 5, 2, 0, 0, 0), (.bipush 9, 2, 0, 0, 0), (.irem, 1, 0, 0, 0), (.ifCond .gt 12, 3, 0, 0, 0), (.aload_n 0, 1, 0, 0, 0), (.invokevirtual 142, 3, 65, 0, 7), (.iload 9, 2, 0, 0, 0), (.if_icmp .ne 7, 3, 0, 0, 0)]
abbrev s_L_isAct_832 : List Ent := [(.iconst 1, 1, 0, 0, 0), (.goto 4, 3, 0, 0, 0)]
abbrev s_L_isAct_836 : List Ent := [(.iconst 0, 1, 0, 0, 0)]
abbrev s_L_isAct_837 : List Ent := [(.ireturn, 1, 1, 0, 0)]
abbrev s_L_isAct_838 : List Ent := [(.iload 4, 2, 0, 0, 0), (.bipush 9, 2, 0, 0, 0), (.if_icmp .ge 243, 3, 0, 0, 0), (.iload 4, 2, 0, 0, 0), (.bipush 8, 2, 0, 0, 0), (.if_icmp .ne 7, 3, 0, 0, 0), (.iconst 1, 1, 0, 0, 0), (.goto 4, 3, 0, 0, 0)]
abbrev s_L_isAct_856 : List Ent := [(.iconst 0, 1, 0, 0, 0)]
abbrev s_L_isAct_857 : List Ent := [(.istore 9, 2, 0, 0, 0), (.iload 7, 2, 0, 0, 0), (.aload_n 3, 1, 0, 0, 0), (.iconst 0, 1, 0, 0, 0), (.iaload, 1, 0, 0, 0), (.if_icmp .ge 7, 3, 0, 0, 0), (.iconst 1, 1, 0, 0, 0), (.goto 4, 3, 0, 0, 0)]
abbrev s_L_isAct_871 : List Ent := [(.iconst 0, 1, 0, 0, 0)]
abbrev s_L_isAct_872 : List Ent := [(.istore 10, 2, 0, 0, 0), (.iload 10, 2, 0, 0, 0), (.ifCond .eq 12, 3, 0, 0, 0), (.aload_n 0, 1, 0, 0, 0), (.iload 7, 2, 0, 0, 0), (.invokevirtual 63, 3, 69, 1, 7), (.goto 4, 3, 0, 0, 0)]
abbrev s_L_isAct_888 : List Ent := [(.iconst 0, 1, 0, 0, 0)]
abbrev s_L_isAct_889 : List Ent := [(.istore 11, 2, 0, 0, 0), (.iload 10, 2, 0, 0, 0), (.ifCond .eq 47, 3, 0, 0, 0), (.aload_n 3, 1, 0, 0, 0), (.iconst 1, 1, 0, 0, 0), (.iaload, 1, 0, 0, 0), (.iload 9, 2, 0, 0, 0), (.ifCond .eq 10, 3, 0, 0, 0), (.iconst 2, 1, 0, 0, 0), (.iload 11, 2, 0, 0, 0), (.imul, 1, 0, 0, 0), (.goto 5, 3, 0, 0, 0)]
abbrev s_L_isAct_911 : List Ent := [(.iload 11, 2, 0, 0, 0)]
abbrev s_L_isAct_913 : List Ent := [(.if_icmp .lt 27, 3, 0, 0, 0), (.aload_n 0, 1, 0, 0, 0), (.iload 7, 2, 0, 0, 0), (.iconst 0, 1, 0, 0, 0), (.invokevirtual 111, 3, 71, 2, 7), (.iload 11, 2, 0, 0, 0), (.if_icmp .ne 15, 3, 0, 0, 0), (.aload_n 3, 1, 0, 0, 0), (.iconst 0, 1, 0, 0, 0), (.iaload, 1, 0, 0, 0), (.bipush 12, 2, 0, 0, 0), (.if_icmp .ge 7, 3, 0, 0, 0), (.iconst 1, 1, 0, 0, 0), (.goto 4, 3, 0, 0, 0)]
abbrev s_L_isAct_940 : List Ent := [(.iconst 0, 1, 0, 0, 0)]
abbrev s_L_isAct_941 : List Ent := [(.istore 12, 2, 0, 0, 0), (.iload 12, 2, 0, 0, 0), (.ifCond .eq 42, 3, 0, 0, 0), (.iload 9, 2, 0, 0, 0), (.ifCond .eq 33, 3, 0, 0, 0), (.iload 11, 2, 0, 0, 0), (.iconst 5, 1, 0, 0, 0), (.if_icmp .ge 31, 3, 0, 0, 0), (.aload_n 0, 1, 0, 0, 0), (.iload 7, 2, 0, 0, 0), (.iconst 1, 1, 0, 0, 0), (.invokevirtual 111, 3, 71, 2, 7), (.iload 11, 2, 0, 0, 0), (.if_icmp .ne 19, 3, 0, 0, 0), (.aload_n 0, 1, 0, 0, 0), (.iload 7, 2, 0, 0, 0), (.iconst 3, 1, 0, 0, 0), (.iconst 0, 1, 0, 0, 0), (.iconst 0, 1, 0, 0, 0), (.invokevirtual 38, 3, 68, 4, 7), (.ifCond .ne 7, 3, 0, 0, 0)]
abbrev s_L_isAct_983 : List Ent := [(.iconst 1, 1, 0, 0, 0), (.goto 4, 3, 0, 0, 0)]
abbrev s_L_isAct_987 : List Ent := [(.iconst 0, 1, 0, 0, 0)]
abbrev s_L_isAct_988 : List Ent := [(.istore 12, 2, 0, 0, 0), (.aload_n 3, 1, 0, 0, 0), (.iconst 0, 1, 0, 0, 0), (.dup2, 1, 0, 0, 0), (.iaload, 1, 0, 0, 0), (.iload 12, 2, 0, 0, 0), (.ifCond .eq 7, 3, 0, 0, 0), (.iconst 1, 1, 0, 0, 0), (.goto 4, 3, 0, 0, 0)]
abbrev s_L_isAct_1003 : List Ent := [(.iconst 0, 1, 0, 0, 0)]
abbrev s_L_isAct_1004 : List Ent := [(.iadd, 1, 0, 0, 0), (.iastore, 1, 0, 0, 0), (.aload_n 0, 1, 0, 0, 0), (.iload 9, 2, 0, 0, 0), (.ifCond .eq 8, 3, 0, 0, 0), (.bipush 7, 2, 0, 0, 0), (.goto 5, 3, 0, 0, 0)]
abbrev s_L_isAct_1017 : List Ent := [(.bipush 6, 2, 0, 0, 0)]
abbrev s_L_isAct_1019 : List Ent := [(.iload 7, 2, 0, 0, 0), (.iconst 0, 1, 0, 0, 0), (.iconst 0, 1, 0, 0, 0), (.iconst 0, 1, 0, 0, 0), (.iconst 0, 1, 0, 0, 0), (.invokestatic 96, 3, 94, 7, 0), (.iload 10, 2, 0, 0, 0), (.ifCond .ne 9, 3, 0, 0, 0), (.sipush (-3000), 3, 0, 0, 0), (.goto 19, 3, 0, 0, 0)]
abbrev s_L_isAct_1039 : List Ent := [(.iload 12, 2, 0, 0, 0), (.ifCond .eq 11, 3, 0, 0, 0), (.aload_n 3, 1, 0, 0, 0), (.iconst 0, 1, 0, 0, 0), (.iaload, 1, 0, 0, 0), (.iconst 1, 1, 0, 0, 0), (.isub, 1, 0, 0, 0), (.goto 6, 3, 0, 0, 0)]
abbrev s_L_isAct_1052 : List Ent := [(.sipush (-1000), 3, 0, 0, 0)]
abbrev s_L_isAct_1055 : List Ent := [(.if_icmp .ne 28, 3, 0, 0, 0), (.iload 12, 2, 0, 0, 0), (.ifCond .eq 19, 3, 0, 0, 0), (.aload_n 0, 1, 0, 0, 0), (.aload_n 3, 1, 0, 0, 0), (.iconst 0, 1, 0, 0, 0), (.iaload, 1, 0, 0, 0), (.iconst 1, 1, 0, 0, 0), (.isub, 1, 0, 0, 0), (.iload 7, 2, 0, 0, 0), (.iload 9, 2, 0, 0, 0), (.invokestatic 146, 3, 109, 4, 0), (.ifCond .eq 7, 3, 0, 0, 0)]
abbrev s_L_isAct_1079 : List Ent := [(.iconst 1, 1, 0, 0, 0), (.goto 4, 3, 0, 0, 0)]
abbrev s_L_isAct_1083 : List Ent := [(.iconst 0, 1, 0, 0, 0)]
abbrev s_L_isAct_1084 : List Ent := [(.ireturn, 1, 1, 0, 0)]
abbrev s_L_isAct_1085 : List Ent := [(.iload 7, 2, 0, 0, 0), (.aload_n 3, 1, 0, 0, 0), (.iconst 0, 1, 0, 0, 0), (.iaload, 1, 0, 0, 0), (.if_icmp .ge 12, 3, 0, 0, 0), (.aload_n 0, 1, 0, 0, 0), (.iload 7, 2, 0, 0, 0), (.invokevirtual 63, 3, 69, 1, 7), (.goto 4, 3, 0, 0, 0)]
abbrev s_L_isAct_1102 : List Ent := [(.iconst 0, 1, 0, 0, 0)]
abbrev s_L_isAct_1103 : List Ent := [(.istore 9, 2, 0, 0, 0), (.iload 5, 2, 0, 0, 0), (.bipush 13, 2, 0, 0, 0), (.idiv, 1, 0, 0, 0), (.iconst 5, 1, 0, 0, 0), (.irem, 1, 0, 0, 0), (.istore 10, 2, 0, 0, 0), (.iload 6, 2, 0, 0, 0), (.iload 9, 2, 0, 0, 0), (.iconst 1, 1, 0, 0, 0), (.iadd, 1, 0, 0, 0), (.irem, 1, 0, 0, 0), (.istore 11, 2, 0, 0, 0), (.iload 6, 2, 0, 0, 0), (.bipush 9, 2, 0, 0, 0), (.idiv, 1, 0, 0, 0), (.iload 9, 2, 0, 0, 0), (.iconst 1, 1, 0, 0, 0), (.iadd, 1, 0, 0, 0), (.irem, 1, 0, 0, 0), (.istore 12, 2, 0, 0, 0), (.iload 7, 2, 0, 0, 0), (.aload_n 3, 1, 0, 0, 0), (.iconst 0, 1, 0, 0, 0), (.iaload, 1, 0, 0, 0), (.if_icmp .ge 51, 3, 0, 0, 0), (.iload 10, 2, 0, 0, 0), (.iconst 4, 1, 0, 0, 0), (.if_icmp .ge 45, 3, 0, 0, 0), (.iload 10, 2, 0, 0, 0), (.iconst 3, 1, 0, 0, 0), (.if_icmp .eq 16, 3, 0, 0, 0), (.iload 10, 2, 0, 0, 0), (.iconst 2, 1, 0, 0, 0), (.if_icmp .eq 10, 3, 0, 0, 0), (.iload 11, 2, 0, 0, 0), (.iload 9, 2, 0, 0, 0), (.if_icmp .ge 26, 3, 0, 0, 0)]
abbrev s_L_isAct_1168 : List Ent := [(.iload 10, 2, 0, 0, 0), (.iconst 3, 1, 0, 0, 0), (.if_icmp .eq 16, 3, 0, 0, 0), (.iload 10, 2, 0, 0, 0), (.iconst 1, 1, 0, 0, 0), (.if_icmp .eq 10, 3, 0, 0, 0), (.iload 12, 2, 0, 0, 0), (.iload 9, 2, 0, 0, 0), (.if_icmp .ge 7, 3, 0, 0, 0)]
abbrev s_L_isAct_1187 : List Ent := [(.iconst 1, 1, 0, 0, 0), (.goto 4, 3, 0, 0, 0)]
abbrev s_L_isAct_1191 : List Ent := [(.iconst 0, 1, 0, 0, 0)]
abbrev s_L_isAct_1192 : List Ent := [(.istore 13, 2, 0, 0, 0), (.iload 5, 2, 0, 0, 0), (.iconst 3, 1, 0, 0, 0), (.irem, 1, 0, 0, 0), (.ifCond .ne 16, 3, 0, 0, 0), (.iload 6, 2, 0, 0, 0), (.sipush 20015, 3, 0, 0, 0), (.irem, 1, 0, 0, 0), (.sipush 10007, 3, 0, 0, 0), (.isub, 1, 0, 0, 0), (.goto 13, 3, 0, 0, 0)]
abbrev s_L_isAct_1214 : List Ent := [(.iload 5, 2, 0, 0, 0), (.bipush 65, 2, 0, 0, 0), (.idiv, 1, 0, 0, 0), (.bipush 9, 2, 0, 0, 0), (.irem, 1, 0, 0, 0), (.iconst 4, 1, 0, 0, 0), (.isub, 1, 0, 0, 0)]
abbrev s_L_isAct_1224 : List Ent := [(.istore 14, 2, 0, 0, 0), (.iload 14, 2, 0, 0, 0), (.sipush (-10007), 3, 0, 0, 0), (.if_icmp .le 15, 3, 0, 0, 0), (.iload 14, 2, 0, 0, 0), (.sipush 10007, 3, 0, 0, 0), (.if_icmp .ge 7, 3, 0, 0, 0), (.iconst 1, 1, 0, 0, 0), (.goto 4, 3, 0, 0, 0)]
abbrev s_L_isAct_1246 : List Ent := [(.iconst 0, 1, 0, 0, 0)]
abbrev s_L_isAct_1247 : List Ent := [(.istore 15, 2, 0, 0, 0), (.iload 13, 2, 0, 0, 0), (.ifCond .eq 18, 3, 0, 0, 0), (.aload_n 0, 1, 0, 0, 0), (.iload 7, 2, 0, 0, 0), (.iload 10, 2, 0, 0, 0), (.iload 11, 2, 0, 0, 0), (.iload 12, 2, 0, 0, 0), (.invokevirtual 38, 3, 68, 4, 7), (.goto 4, 3, 0, 0, 0)]
abbrev s_L_isAct_1269 : List Ent := [(.iconst 0, 1, 0, 0, 0)]
abbrev s_L_isAct_1270 : List Ent := [(.istore 16, 2, 0, 0, 0), (.aload_n 0, 1, 0, 0, 0), (.iconst 1, 1, 0, 0, 0), (.iload 7, 2, 0, 0, 0), (.iload 10, 2, 0, 0, 0), (.iload 11, 2, 0, 0, 0), (.iload 12, 2, 0, 0, 0), (.iload 14, 2, 0, 0, 0), (.invokestatic 96, 3, 94, 7, 0), (.iload 13, 2, 0, 0, 0), (.ifCond .ne 9, 3, 0, 0, 0), (.sipush (-3000), 3, 0, 0, 0), (.goto 16, 3, 0, 0, 0)]
abbrev s_L_isAct_1298 : List Ent := [(.iload 15, 2, 0, 0, 0), (.ifCond .eq 8, 3, 0, 0, 0), (.iload 16, 2, 0, 0, 0), (.goto 6, 3, 0, 0, 0)]
abbrev s_L_isAct_1308 : List Ent := [(.sipush (-2000), 3, 0, 0, 0)]
abbrev s_L_isAct_1311 : List Ent := [(.if_icmp .ne 42, 3, 0, 0, 0), (.iload 13, 2, 0, 0, 0), (.ifCond .eq 33, 3, 0, 0, 0), (.aload_n 0, 1, 0, 0, 0), (.iload 7, 2, 0, 0, 0), (.iload 10, 2, 0, 0, 0), (.iload 11, 2, 0, 0, 0), (.iload 12, 2, 0, 0, 0), (.invokevirtual 38, 3, 68, 4, 7), (.iload 15, 2, 0, 0, 0), (.ifCond .eq 11, 3, 0, 0, 0), (.iload 14, 2, 0, 0, 0), (.invokestatic 72, 3, 95, 1, 0), (.goto 5, 3, 0, 0, 0)]
abbrev s_L_isAct_1344 : List Ent := [(.iload 16, 2, 0, 0, 0)]
abbrev s_L_isAct_1346 : List Ent := [(.if_icmp .ne 7, 3, 0, 0, 0)]
abbrev s_L_isAct_1349 : List Ent := [(.iconst 1, 1, 0, 0, 0), (.goto 4, 3, 0, 0, 0)]
abbrev s_L_isAct_1353 : List Ent := [(.iconst 0, 1, 0, 0, 0)]
abbrev s_L_isAct_1354 : List Ent := [(.ireturn, 1, 1, 0, 0)]
def mt_L_isAct : MT := ((11, 0, 7), yL_isAct, cL_isAct, 17, (some .boolean), [], [(0, s_L_isAct_0), (47, s_L_isAct_47), (48, s_L_isAct_48), (67, s_L_isAct_67), (68, s_L_isAct_68), (83, s_L_isAct_83), (84, s_L_isAct_84), (108, s_L_isAct_108), (121, s_L_isAct_121), (124, s_L_isAct_124), (131, s_L_isAct_131), (132, s_L_isAct_132), (133, s_L_isAct_133), (165, s_L_isAct_165), (166, s_L_isAct_166), (189, s_L_isAct_189), (190, s_L_isAct_190), (216, s_L_isAct_216), (217, s_L_isAct_217), (232, s_L_isAct_232), (233, s_L_isAct_233), (261, s_L_isAct_261), (274, s_L_isAct_274), (277, s_L_isAct_277), (306, s_L_isAct_306), (310, s_L_isAct_310), (311, s_L_isAct_311), (312, s_L_isAct_312), (348, s_L_isAct_348), (349, s_L_isAct_349), (371, s_L_isAct_371), (372, s_L_isAct_372), (391, s_L_isAct_391), (392, s_L_isAct_392), (436, s_L_isAct_436), (437, s_L_isAct_437), (452, s_L_isAct_452), (453, s_L_isAct_453), (478, s_L_isAct_478), (489, s_L_isAct_489), (502, s_L_isAct_502), (505, s_L_isAct_505), (532, s_L_isAct_532), (536, s_L_isAct_536), (537, s_L_isAct_537), (538, s_L_isAct_538), (555, s_L_isAct_555), (556, s_L_isAct_556), (567, s_L_isAct_567), (568, s_L_isAct_568), (590, s_L_isAct_590), (597, s_L_isAct_597), (619, s_L_isAct_619), (620, s_L_isAct_620), (641, s_L_isAct_641), (643, s_L_isAct_643), (650, s_L_isAct_650), (651, s_L_isAct_651), (676, s_L_isAct_676), (691, s_L_isAct_691), (705, s_L_isAct_705), (706, s_L_isAct_706), (718, s_L_isAct_718), (719, s_L_isAct_719), (739, s_L_isAct_739), (751, s_L_isAct_751), (754, s_L_isAct_754), (761, s_L_isAct_761), (762, s_L_isAct_762), (763, s_L_isAct_763), (793, s_L_isAct_793), (796, s_L_isAct_796), (811, s_L_isAct_811), (814, s_L_isAct_814), (832, s_L_isAct_832), (836, s_L_isAct_836), (837, s_L_isAct_837), (838, s_L_isAct_838), (856, s_L_isAct_856), (857, s_L_isAct_857), (871, s_L_isAct_871), (872, s_L_isAct_872), (888, s_L_isAct_888), (889, s_L_isAct_889), (911, s_L_isAct_911), (913, s_L_isAct_913), (940, s_L_isAct_940), (941, s_L_isAct_941), (983, s_L_isAct_983), (987, s_L_isAct_987), (988, s_L_isAct_988), (1003, s_L_isAct_1003), (1004, s_L_isAct_1004), (1017, s_L_isAct_1017), (1019, s_L_isAct_1019), (1039, s_L_isAct_1039), (1052, s_L_isAct_1052), (1055, s_L_isAct_1055), (1079, s_L_isAct_1079), (1083, s_L_isAct_1083), (1084, s_L_isAct_1084), (1085, s_L_isAct_1085), (1102, s_L_isAct_1102), (1103, s_L_isAct_1103), (1168, s_L_isAct_1168), (1187, s_L_isAct_1187), (1191, s_L_isAct_1191), (1192, s_L_isAct_1192), (1214, s_L_isAct_1214), (1224, s_L_isAct_1224), (1246, s_L_isAct_1246), (1247, s_L_isAct_1247), (1269, s_L_isAct_1269), (1270, s_L_isAct_1270), (1298, s_L_isAct_1298), (1308, s_L_isAct_1308), (1311, s_L_isAct_1311), (1344, s_L_isAct_1344), (1346, s_L_isAct_1346), (1349, s_L_isAct_1349), (1353, s_L_isAct_1353), (1354, s_L_isAct_1354)])
abbrev s_L_law_0 : List Ent := [(.new 9, 3, 7, 0, 0), (.dup, 1, 0, 0, 0), (.invokespecial 150, 3, 58, 0, 0), (.astore_n 1, 1, 0, 0, 0), (.bipush 32, 2, 0, 0, 0), (.newarray .int, 2, 0, 0, 0), (.astore_n 2, 1, 0, 0, 0), (.bipush 20, 2, 0, 0, 0), (.newarray .int, 2, 0, 0, 0), (.astore_n 3, 1, 0, 0, 0), (.iconst 3, 1, 0, 0, 0), (.newarray .int, 2, 0, 0, 0), (.astore 4, 2, 0, 0, 0), (.aload_n 1, 1, 0, 0, 0), (.iconst 0, 1, 0, 0, 0), (.iconst 0, 1, 0, 0, 0), (.iconst 0, 1, 0, 0, 0), (.iconst 0, 1, 0, 0, 0), (.iconst 0, 1, 0, 0, 0), (.iconst 0, 1, 0, 0, 0), (.invokestatic 96, 3, 94, 7, 0), (.sipush (-2000), 3, 0, 0, 0), (.if_icmp .ne 83, 3, 0, 0, 0), (.aload_n 1, 1, 0, 0, 0), (.bipush 16, 2, 0, 0, 0), (.iconst 0, 1, 0, 0, 0), (.iconst 0, 1, 0, 0, 0), (.iconst 0, 1, 0, 0, 0), (.iconst 0, 1, 0, 0, 0), (.iconst 0, 1, 0, 0, 0), (.invokestatic 96, 3, 94, 7, 0), (.sipush (-3000), 3, 0, 0, 0), (.if_icmp .ne 66, 3, 0, 0, 0), (.aload_n 1, 1, 0, 0, 0), (.bipush 8, 2, 0, 0, 0), (.iconst 0, 1, 0, 0, 0), (.iconst 0, 1, 0, 0, 0), (.iconst 0, 1, 0, 0, 0), (.iconst 0, 1, 0, 0, 0), (.iconst 0, 1, 0, 0, 0), (.invokestatic 96, 3, 94, 7, 0), (.sipush (-3000), 3, 0, 0, 0), (.if_icmp .ne 49, 3, 0, 0, 0), (.aload_n 1, 1, 0, 0, 0), (.iconst 4, 1, 0, 0, 0), (.sipush 10007, 3, 0, 0, 0), (.iconst 0, 1, 0, 0, 0), (.iconst 0, 1, 0, 0, 0), (.iconst 0, 1, 0, 0, 0), (.iconst 0, 1, 0, 0, 0), (.invokestatic 96, 3, 94, 7, 0), (.sipush (-2000), 3, 0, 0, 0), (.if_icmp .ne 31, 3, 0, 0, 0), (.aload_n 1, 1, 0, 0, 0), (.bipush 6, 2, 0, 0, 0), (.iconst 0, 1, 0, 0, 0), (.iconst 0, 1, 0, 0, 0), (.iconst 0, 1, 0, 0, 0), (.iconst 0, 1, 0, 0, 0), (.iconst 0, 1, 0, 0, 0), (.invokestatic 96, 3, 94, 7, 0), (.sipush (-3000), 3, 0, 0, 0), (.if_icmp .ne 14, 3, 0, 0, 0), (.aload_n 1, 1, 0, 0, 0), (.invokevirtual 142, 3, 65, 0, 7), (.ifCond .ne 7, 3, 0, 0, 0), (.iconst 1, 1, 0, 0, 0), (.goto 4, 3, 0, 0, 0)]
abbrev s_L_law_119 : List Ent := [(.iconst 0, 1, 0, 0, 0)]
abbrev s_L_law_120 : List Ent := [(.istore 5, 2, 0, 0, 0), (.iconst 0, 1, 0, 0, 0), (.istore 6, 2, 0, 0, 0)]
abbrev s_L_law_125 : List Ent := [(.iload 6, 2, 0, 0, 0), (.bipush 56, 2, 0, 0, 0), (.if_icmp .ge 226, 3, 0, 0, 0), (.iload 5, 2, 0, 0, 0), (.ifCond .eq 221, 3, 0, 0, 0), (.iload 6, 2, 0, 0, 0), (.iconst 2, 1, 0, 0, 0), (.if_icmp .ge 7, 3, 0, 0, 0), (.iconst 0, 1, 0, 0, 0), (.goto 47, 3, 0, 0, 0)]
abbrev s_L_law_147 : List Ent := [(.iload 6, 2, 0, 0, 0), (.bipush 20, 2, 0, 0, 0), (.if_icmp .ge 8, 3, 0, 0, 0), (.bipush 9, 2, 0, 0, 0), (.goto 35, 3, 0, 0, 0)]
abbrev s_L_law_159 : List Ent := [(.iload 6, 2, 0, 0, 0), (.bipush 28, 2, 0, 0, 0), (.if_icmp .ge 7, 3, 0, 0, 0), (.iconst 4, 1, 0, 0, 0), (.goto 24, 3, 0, 0, 0)]
abbrev s_L_law_170 : List Ent := [(.iload 6, 2, 0, 0, 0), (.bipush 31, 2, 0, 0, 0), (.if_icmp .ge 7, 3, 0, 0, 0), (.iconst 5, 1, 0, 0, 0), (.goto 13, 3, 0, 0, 0)]
abbrev s_L_law_181 : List Ent := [(.aload_n 0, 1, 0, 0, 0), (.iconst 3, 1, 0, 0, 0), (.iload 6, 2, 0, 0, 0), (.imul, 1, 0, 0, 0), (.bipush 26, 2, 0, 0, 0), (.invokestatic 151, 3, 93, 3, 0)]
abbrev s_L_law_191 : List Ent := [(.istore 7, 2, 0, 0, 0), (.aload_n 0, 1, 0, 0, 0), (.iconst 3, 1, 0, 0, 0), (.iload 6, 2, 0, 0, 0), (.imul, 1, 0, 0, 0), (.iconst 1, 1, 0, 0, 0), (.iadd, 1, 0, 0, 0), (.ldc 154, 2, 0, 0, 0), (.invokestatic 151, 3, 93, 3, 0), (.istore 8, 2, 0, 0, 0), (.iload 6, 2, 0, 0, 0), (.iconst 2, 1, 0, 0, 0), (.if_icmp .ge 15, 3, 0, 0, 0), (.iconst 1, 1, 0, 0, 0), (.aload_n 0, 1, 0, 0, 0), (.iload 6, 2, 0, 0, 0), (.iconst 4, 1, 0, 0, 0), (.invokestatic 151, 3, 93, 3, 0), (.iadd, 1, 0, 0, 0), (.goto 15, 3, 0, 0, 0)]
abbrev s_L_law_225 : List Ent := [(.aload_n 0, 1, 0, 0, 0), (.iconst 3, 1, 0, 0, 0), (.iload 6, 2, 0, 0, 0), (.imul, 1, 0, 0, 0), (.iconst 2, 1, 0, 0, 0), (.iadd, 1, 0, 0, 0), (.ldc 154, 2, 0, 0, 0), (.invokestatic 151, 3, 93, 3, 0)]
abbrev s_L_law_237 : List Ent := [(.istore 9, 2, 0, 0, 0), (.aload_n 1, 1, 0, 0, 0), (.aload_n 2, 1, 0, 0, 0), (.aload_n 3, 1, 0, 0, 0), (.aload 4, 2, 0, 0, 0), (.iload 7, 2, 0, 0, 0), (.bipush 10, 2, 0, 0, 0), (.if_icmp .ge 8, 3, 0, 0, 0), (.iload 7, 2, 0, 0, 0), (.goto 29, 3, 0, 0, 0)]
abbrev s_L_law_256 : List Ent := [(.iload 7, 2, 0, 0, 0), (.bipush 22, 2, 0, 0, 0), (.if_icmp .ge 8, 3, 0, 0, 0), (.bipush 9, 2, 0, 0, 0), (.goto 17, 3, 0, 0, 0)]
abbrev s_L_law_268 : List Ent := [(.iload 7, 2, 0, 0, 0), (.bipush 24, 2, 0, 0, 0), (.if_icmp .ge 8, 3, 0, 0, 0), (.bipush 7, 2, 0, 0, 0), (.goto 5, 3, 0, 0, 0)]
abbrev s_L_law_280 : List Ent := [(.bipush 8, 2, 0, 0, 0)]
abbrev s_L_law_282 : List Ent := [(.iload 8, 2, 0, 0, 0), (.iload 9, 2, 0, 0, 0), (.invokestatic 155, 3, 110, 7, 0), (.istore 5, 2, 0, 0, 0), (.iload 5, 2, 0, 0, 0), (.ifCond .eq 53, 3, 0, 0, 0), (.iload 6, 2, 0, 0, 0), (.bipush 20, 2, 0, 0, 0), (.if_icmp .lt 42, 3, 0, 0, 0), (.iload 6, 2, 0, 0, 0), (.iconst 4, 1, 0, 0, 0), (.irem, 1, 0, 0, 0), (.ifCond .gt 35, 3, 0, 0, 0), (.aload 4, 2, 0, 0, 0), (.iconst 0, 1, 0, 0, 0), (.iaload, 1, 0, 0, 0), (.ifCond .eq 28, 3, 0, 0, 0), (.aload_n 1, 1, 0, 0, 0), (.aload_n 2, 1, 0, 0, 0), (.aload_n 3, 1, 0, 0, 0), (.aload 4, 2, 0, 0, 0), (.iload 8, 2, 0, 0, 0), (.iload 6, 2, 0, 0, 0), (.iadd, 1, 0, 0, 0), (.aload 4, 2, 0, 0, 0), (.iconst 0, 1, 0, 0, 0), (.iaload, 1, 0, 0, 0), (.irem, 1, 0, 0, 0), (.iload 8, 2, 0, 0, 0), (.iload 9, 2, 0, 0, 0), (.invokestatic 159, 3, 107, 7, 0), (.ifCond .eq 7, 3, 0, 0, 0)]
abbrev s_L_law_342 : List Ent := [(.iconst 1, 1, 0, 0, 0), (.goto 4, 3, 0, 0, 0)]
abbrev s_L_law_346 : List Ent := [(.iconst 0, 1, 0, 0, 0)]
abbrev s_L_law_347 : List Ent := [(.istore 5, 2, 0, 0, 0), (.iinc 6 1, 3, 0, 0, 0), (.goto (-227), 3, 0, 0, 0)]
abbrev s_L_law_355 : List Ent := [(.iload 5, 2, 0, 0, 0), (.ireturn, 1, 1, 0, 0)]
def mt_L_law : MT := ((11, 0, 1), yL_law, cL_law, 10, (some .boolean), [], [(0, s_L_law_0), (119, s_L_law_119), (120, s_L_law_120), (125, s_L_law_125), (147, s_L_law_147), (159, s_L_law_159), (170, s_L_law_170), (181, s_L_law_181), (191, s_L_law_191), (225, s_L_law_225), (237, s_L_law_237), (256, s_L_law_256), (268, s_L_law_268), (280, s_L_law_280), (282, s_L_law_282), (342, s_L_law_342), (346, s_L_law_346), (347, s_L_law_347), (355, s_L_law_355)])
abbrev k_X0_init : Nat := 0
abbrev k_X0_findNumbers : Nat := 1
abbrev k_X0_byState : Nat := 2
abbrev k_X0_byNumbers : Nat := 3
abbrev k_X0_inputAt : Nat := 4
abbrev k_X0_rankOfNumbers : Nat := 5
abbrev k_X1_init : Nat := 6
abbrev k_X1_put : Nat := 7
abbrev k_X1_solve : Nat := 8
abbrev k_X1_readSolution : Nat := 9
abbrev k_X1_firstWith : Nat := 10
abbrev k_X1_swap : Nat := 11
abbrev k_X1_divide : Nat := 12
abbrev k_X1_takeAway : Nat := 13
abbrev k_X2_remainder : Nat := 14
abbrev k_X2_plus : Nat := 15
abbrev k_X2_minus : Nat := 16
abbrev k_X2_times : Nat := 17
abbrev k_X2_quotient : Nat := 18
abbrev k_X3_init : Nat := 19
abbrev k_X3_rankOfColumns : Nat := 20
abbrev k_X3_byColumns : Nat := 21
abbrev k_X3_byCoefficients : Nat := 22
abbrev k_X3_findAsked : Nat := 23
abbrev k_X4_init : Nat := 24
abbrev k_X4_read : Nat := 25
abbrev k_X4_write : Nat := 26
abbrev k_X4_beSeries : Nat := 27
abbrev k_X4_beSideBySide : Nat := 28
abbrev k_X4_putPart : Nat := 29
abbrev k_X4_beLoop : Nat := 30
abbrev k_X4_bePlaced : Nat := 31
abbrev k_X4_beObserved : Nat := 32
abbrev k_X4_beTurned : Nat := 33
abbrev k_X5_init : Nat := 34
abbrev k_X5_find : Nat := 35
abbrev k_X5_trace : Nat := 36
abbrev k_X5_addToDiagonal : Nat := 37
abbrev k_X5_commonDegree : Nat := 38
abbrev k_X5_takeRest : Nat := 39
abbrev k_X5_degree : Nat := 40
abbrev k_X6_product : Nat := 41
abbrev k_X6_squareByColumn : Nat := 42
abbrev k_X6_rowBySquare : Nat := 43
abbrev k_X6_squareBySquare : Nat := 44
abbrev k_X6_copy : Nat := 45
abbrev k_X6_fill : Nat := 46
abbrev k_X7_init : Nat := 47
abbrev k_X7_find : Nat := 48
abbrev k_X7_beginAtEnd : Nat := 49
abbrev k_X7_stepBack : Nat := 50
abbrev k_X7_turnedEntry : Nat := 51
abbrev k_X7_costByEnd : Nat := 52
abbrev k_X7_costByGoing : Nat := 53
abbrev k_X7_costHere : Nat := 54
abbrev k_X8_init : Nat := 55
abbrev k_X8_isFull : Nat := 56
abbrev k_X8_add : Nat := 57
abbrev k_X9_init : Nat := 58
abbrev k_X9_system : Nat := 59
abbrev k_X9_set : Nat := 60
abbrev k_X9_join : Nat := 61
abbrev k_X9_loop : Nat := 62
abbrev k_X9_pole : Nat := 63
abbrev k_X9_input : Nat := 64
abbrev k_X9_clear : Nat := 65
abbrev k_X9_placed : Nat := 66
abbrev k_X9_joined : Nat := 67
abbrev k_X9_at : Nat := 68
abbrev k_X9_order : Nat := 69
abbrev k_X9_polynomial : Nat := 70
abbrev k_X9_rank : Nat := 71
abbrev k_X9_number : Nat := 72
abbrev k_X9_output : Nat := 73
abbrev k_X9_outputAnew : Nat := 74
abbrev k_X9_gain : Nat := 75
abbrev k_X9_gainAnew : Nat := 76
abbrev k_X9_observer : Nat := 77
abbrev k_X9_cost : Nat := 78
abbrev k_X9_costAnew : Nat := 79
abbrev k_X9_least : Nat := 80
abbrev k_X9_leastAnew : Nat := 81
abbrev k_X9_plantOf : Nat := 82
abbrev k_X9_newPlant : Nat := 83
abbrev k_X9_type : Nat := 84
abbrev k_X9_requireEntry : Nat := 85
abbrev k_X9_requirePlace : Nat := 86
abbrev k_X9_requireValue : Nat := 87
abbrev k_X9_requireRange : Nat := 88
abbrev k_X9_requirePoles : Nat := 89
abbrev k_X9_findGains : Nat := 90
abbrev k_X9_findWatch : Nat := 91
abbrev k_X9_goBack : Nat := 92
abbrev k_L_part : Nat := 93
abbrev k_L_does : Nat := 94
abbrev k_L_rest : Nat := 95
abbrev k_L_inverse : Nat := 96
abbrev k_L_reads : Nat := 97
abbrev k_L_determinant : Nat := 98
abbrev k_L_rank : Nat := 99
abbrev k_L_value : Nat := 100
abbrev k_L_at : Nat := 101
abbrev k_L_goes : Nat := 102
abbrev k_L_numbers : Nat := 103
abbrev k_L_rankOf : Nat := 104
abbrev k_L_areGains : Nat := 105
abbrev k_L_costs : Nat := 106
abbrev k_L_isSo : Nat := 107
abbrev k_L_isMade : Nat := 108
abbrev k_L_arePlaced : Nat := 109
abbrev k_L_isAct : Nat := 110
abbrev k_L_law : Nat := 111
def mtr_0 : List MT := [mt_X0_init, mt_X0_findNumbers, mt_X0_byState, mt_X0_byNumbers, mt_X0_inputAt, mt_X0_rankOfNumbers, mt_X1_init, mt_X1_put, mt_X1_solve, mt_X1_readSolution, mt_X1_firstWith, mt_X1_swap, mt_X1_divide, mt_X1_takeAway, mt_X2_remainder, mt_X2_plus]
def mtr_1 : List MT := [mt_X2_minus, mt_X2_times, mt_X2_quotient, mt_X3_init, mt_X3_rankOfColumns, mt_X3_byColumns, mt_X3_byCoefficients, mt_X3_findAsked, mt_X4_init, mt_X4_read, mt_X4_write, mt_X4_beSeries, mt_X4_beSideBySide, mt_X4_putPart, mt_X4_beLoop, mt_X4_bePlaced]
def mtr_2 : List MT := [mt_X4_beObserved, mt_X4_beTurned, mt_X5_init, mt_X5_find, mt_X5_trace, mt_X5_addToDiagonal, mt_X5_commonDegree, mt_X5_takeRest, mt_X5_degree, mt_X6_product, mt_X6_squareByColumn, mt_X6_rowBySquare, mt_X6_squareBySquare, mt_X6_copy, mt_X6_fill, mt_X7_init]
def mtr_3 : List MT := [mt_X7_find, mt_X7_beginAtEnd, mt_X7_stepBack, mt_X7_turnedEntry, mt_X7_costByEnd, mt_X7_costByGoing, mt_X7_costHere, mt_X8_init, mt_X8_isFull, mt_X8_add, mt_X9_init, mt_X9_system, mt_X9_set, mt_X9_join, mt_X9_loop, mt_X9_pole]
def mtr_4 : List MT := [mt_X9_input, mt_X9_clear, mt_X9_placed, mt_X9_joined, mt_X9_at, mt_X9_order, mt_X9_polynomial, mt_X9_rank, mt_X9_number, mt_X9_output, mt_X9_outputAnew, mt_X9_gain, mt_X9_gainAnew, mt_X9_observer, mt_X9_cost, mt_X9_costAnew]
def mtr_5 : List MT := [mt_X9_least, mt_X9_leastAnew, mt_X9_plantOf, mt_X9_newPlant, mt_X9_type, mt_X9_requireEntry, mt_X9_requirePlace, mt_X9_requireValue, mt_X9_requireRange, mt_X9_requirePoles, mt_X9_findGains, mt_X9_findWatch, mt_X9_goBack, mt_L_part, mt_L_does, mt_L_rest]
def mtr_6 : List MT := [mt_L_inverse, mt_L_reads, mt_L_determinant, mt_L_rank, mt_L_value, mt_L_at, mt_L_goes, mt_L_numbers, mt_L_rankOf, mt_L_areGains, mt_L_costs, mt_L_isSo, mt_L_isMade, mt_L_arePlaced, mt_L_isAct, mt_L_law]
def mtt : List (List MT) := [mtr_0, mtr_1, mtr_2, mtr_3, mtr_4, mtr_5, mtr_6]
def mt_no : MT := ((99, 0, 0), ⟨"", "", ""⟩, ⟨#[]⟩, 0, none, [], [])
def mt (k : Nat) : MT := (mtt.getD (k / 16) []).getD (k % 16) mt_no
def m_cn (k : Nat) : Nat := (mt k).1.1
def m_kd (k : Nat) : Nat := (mt k).1.2.1
def m_na (k : Nat) : Nat := (mt k).1.2.2
def m_y (k : Nat) : MethodName := (mt k).2.1
def m_b (k : Nat) : ByteArray := (mt k).2.2.1
def m_L (k : Nat) : Nat := (mt k).2.2.2.1
def m_ret (k : Nat) : Option FieldType := (mt k).2.2.2.2.1
def m_hh (k : Nat) : List (Nat × Nat × Nat × Nat) := (mt k).2.2.2.2.2.1
def m_bl (k : Nat) : List (Nat × List Ent) := (mt k).2.2.2.2.2.2
def mtN : Nat := 112
/-- the fields of a new object -/
def dfl : Nat → List Value := fun k => match k with
  | 0 => [.null, .null, .null, .null]
  | 1 => [.null]
  | 2 => [.null, .null, .null, .null]
  | 3 => [.int 0, .null, .null, .null, .int 0]
  | 4 => [.null, .null, .null, .null, .null, .null, .null]
  | 5 => [.null, .null, .null, .null, .null, .null, .null]
  | 6 => [.null, .int 0, .int 0]
  | 7 => [.null, .int 0, .null, .null, .null, .null, .null, .null, .null, .null, .null]
  | _ => []
def clsP (ci : Nat) : Prop := ∃ (C : String) (T : u_T) (N : Nat) (ty : Nat → FieldType), vwCl[ci]? = some (C, T, N) ∧ (∀ k, k < N → parseFieldDescriptor (T k).2.2.1 = some (ty k)) ∧ (∀ a, a < N → ∀ b, b < N → a ≠ b → (T a).2.1 ≠ (T b).2.1) ∧ (∀ w ∈ u_ws C T N, w ∈ lwg) ∧ (∀ j, j < N → defaultValue (ty j) = vp_V (dfl ci) j) ∧ Cond.instantiable C N ∈ lwg ∧ Cond.initialized C ∈ lwg ∧ (dfl ci).length = N
theorem cls_0 : clsP 0 := ⟨RX0, TX0, 4, tyX0, rfl, tyX0_ok, nmX0, lwg_in _ [181, 183, 185, 187] (by decide +kernel) (by decide +kernel), (by decide +kernel), lwi 169 (by decide +kernel) (by decide +kernel), lwi 25 (by decide +kernel) (by decide +kernel), rfl⟩
theorem cls_1 : clsP 1 := ⟨RX1, TX1, 1, tyX1, rfl, tyX1_ok, nmX1, lwg_in _ [121] (by decide +kernel) (by decide +kernel), (by decide +kernel), lwi 114 (by decide +kernel) (by decide +kernel), lwi 23 (by decide +kernel) (by decide +kernel), rfl⟩
theorem cls_2 : clsP 2 := ⟨RX3, TX3, 4, tyX3, rfl, tyX3_ok, nmX3, lwg_in _ [128, 130, 132, 134] (by decide +kernel) (by decide +kernel), (by decide +kernel), lwi 108 (by decide +kernel) (by decide +kernel), lwi 22 (by decide +kernel) (by decide +kernel), rfl⟩
theorem cls_3 : clsP 3 := ⟨RX4, TX4, 5, tyX4, rfl, tyX4_ok, nmX4, lwg_in _ [96, 98, 100, 102, 104] (by decide +kernel) (by decide +kernel), (by decide +kernel), lwi 66 (by decide +kernel) (by decide +kernel), lwi 21 (by decide +kernel) (by decide +kernel), rfl⟩
theorem cls_4 : clsP 4 := ⟨RX5, TX5, 7, tyX5, rfl, tyX5_ok, nmX5, lwg_in _ [153, 155, 157, 159, 161, 163, 165] (by decide +kernel) (by decide +kernel), (by decide +kernel), lwi 138 (by decide +kernel) (by decide +kernel), lwi 24 (by decide +kernel) (by decide +kernel), rfl⟩
theorem cls_5 : clsP 5 := ⟨RX7, TX7, 7, tyX7, rfl, tyX7_ok, nmX7, lwg_in _ [204, 206, 208, 210, 212, 214, 216] (by decide +kernel) (by decide +kernel), (by decide +kernel), lwi 191 (by decide +kernel) (by decide +kernel), lwi 26 (by decide +kernel) (by decide +kernel), rfl⟩
theorem cls_6 : clsP 6 := ⟨RX8, TX8, 3, tyX8, rfl, tyX8_ok, nmX8, lwg_in _ [58, 60, 62] (by decide +kernel) (by decide +kernel), (by decide +kernel), lwi 46 (by decide +kernel) (by decide +kernel), lwi 20 (by decide +kernel) (by decide +kernel), rfl⟩
theorem cls_7 : clsP 7 := ⟨RX9, TX9, 11, tyX9, rfl, tyX9_ok, nmX9, lwg_in _ [230, 232, 234, 236, 238, 240, 242, 244, 246, 248, 250] (by decide +kernel) (by decide +kernel), (by decide +kernel), lwi 36 (by decide +kernel) (by decide +kernel), lwi 19 (by decide +kernel) (by decide +kernel), rfl⟩
theorem cls_ok : ∀ ci, ci < 8 → clsP ci := fun ci h => by
  match ci, h with
  | 0, _ => exact cls_0
  | 1, _ => exact cls_1
  | 2, _ => exact cls_2
  | 3, _ => exact cls_3
  | 4, _ => exact cls_4
  | 5, _ => exact cls_5
  | 6, _ => exact cls_6
  | 7, _ => exact cls_7
  | n + 8, h => exact absurd h (by omega)
def fldP (q : Nat × Nat × Nat × Nat) : Prop := ∃ (C : String) (T : u_T) (N : Nat), vwCl[q.2.2.1]? = some (C, T, N) ∧ q.2.2.2 < N ∧ Cond.fieldLink (cnm q.1) q.2.1 (T q.2.2.2).1 (T q.2.2.2).2.1 (T q.2.2.2).2.2.1 ∈ lwg
theorem fl_0 : fldP (0, 9, 0, 0) := ⟨RX0, TX0, 4, rfl, by decide, lwi 176 (by decide +kernel) (by decide +kernel)⟩
theorem fl_1 : fldP (0, 15, 0, 1) := ⟨RX0, TX0, 4, rfl, by decide, lwi 178 (by decide +kernel) (by decide +kernel)⟩
theorem fl_2 : fldP (0, 18, 0, 2) := ⟨RX0, TX0, 4, rfl, by decide, lwi 179 (by decide +kernel) (by decide +kernel)⟩
theorem fl_3 : fldP (0, 24, 0, 3) := ⟨RX0, TX0, 4, rfl, by decide, lwi 180 (by decide +kernel) (by decide +kernel)⟩
theorem fl_4 : fldP (0, 28, 3, 0) := ⟨RX4, TX4, 5, rfl, by decide, lwi 75 (by decide +kernel) (by decide +kernel)⟩
theorem fl_5 : fldP (0, 34, 3, 4) := ⟨RX4, TX4, 5, rfl, by decide, lwi 93 (by decide +kernel) (by decide +kernel)⟩
theorem fl_6 : fldP (0, 37, 3, 2) := ⟨RX4, TX4, 5, rfl, by decide, lwi 86 (by decide +kernel) (by decide +kernel)⟩
theorem fl_7 : fldP (0, 46, 3, 3) := ⟨RX4, TX4, 5, rfl, by decide, lwi 90 (by decide +kernel) (by decide +kernel)⟩
theorem fl_8 : fldP (0, 53, 3, 1) := ⟨RX4, TX4, 5, rfl, by decide, lwi 81 (by decide +kernel) (by decide +kernel)⟩
theorem fl_9 : fldP (0, 82, 6, 1) := ⟨RX8, TX8, 3, rfl, by decide, lwi 55 (by decide +kernel) (by decide +kernel)⟩
theorem fl_10 : fldP (0, 87, 6, 0) := ⟨RX8, TX8, 3, rfl, by decide, lwi 53 (by decide +kernel) (by decide +kernel)⟩
theorem fl_11 : fldP (1, 11, 1, 0) := ⟨RX1, TX1, 1, rfl, by decide, lwi 120 (by decide +kernel) (by decide +kernel)⟩
theorem fl_12 : fldP (3, 12, 2, 0) := ⟨RX3, TX3, 4, rfl, by decide, lwi 124 (by decide +kernel) (by decide +kernel)⟩
theorem fl_13 : fldP (3, 18, 2, 1) := ⟨RX3, TX3, 4, rfl, by decide, lwi 125 (by decide +kernel) (by decide +kernel)⟩
theorem fl_14 : fldP (3, 22, 2, 2) := ⟨RX3, TX3, 4, rfl, by decide, lwi 126 (by decide +kernel) (by decide +kernel)⟩
theorem fl_15 : fldP (3, 25, 2, 3) := ⟨RX3, TX3, 4, rfl, by decide, lwi 127 (by decide +kernel) (by decide +kernel)⟩
theorem fl_16 : fldP (3, 28, 3, 0) := ⟨RX4, TX4, 5, rfl, by decide, lwi 73 (by decide +kernel) (by decide +kernel)⟩
theorem fl_17 : fldP (3, 34, 3, 2) := ⟨RX4, TX4, 5, rfl, by decide, lwi 85 (by decide +kernel) (by decide +kernel)⟩
theorem fl_18 : fldP (3, 47, 3, 1) := ⟨RX4, TX4, 5, rfl, by decide, lwi 80 (by decide +kernel) (by decide +kernel)⟩
theorem fl_19 : fldP (3, 71, 6, 0) := ⟨RX8, TX8, 3, rfl, by decide, lwi 52 (by decide +kernel) (by decide +kernel)⟩
theorem fl_20 : fldP (4, 11, 3, 1) := ⟨RX4, TX4, 5, rfl, by decide, lwi 79 (by decide +kernel) (by decide +kernel)⟩
theorem fl_21 : fldP (4, 16, 3, 2) := ⟨RX4, TX4, 5, rfl, by decide, lwi 84 (by decide +kernel) (by decide +kernel)⟩
theorem fl_22 : fldP (4, 20, 3, 3) := ⟨RX4, TX4, 5, rfl, by decide, lwi 89 (by decide +kernel) (by decide +kernel)⟩
theorem fl_23 : fldP (4, 23, 3, 4) := ⟨RX4, TX4, 5, rfl, by decide, lwi 94 (by decide +kernel) (by decide +kernel)⟩
theorem fl_24 : fldP (4, 31, 3, 0) := ⟨RX4, TX4, 5, rfl, by decide, lwi 77 (by decide +kernel) (by decide +kernel)⟩
theorem fl_25 : fldP (5, 9, 4, 0) := ⟨RX5, TX5, 7, rfl, by decide, lwi 144 (by decide +kernel) (by decide +kernel)⟩
theorem fl_26 : fldP (5, 15, 4, 1) := ⟨RX5, TX5, 7, rfl, by decide, lwi 146 (by decide +kernel) (by decide +kernel)⟩
theorem fl_27 : fldP (5, 20, 4, 2) := ⟨RX5, TX5, 7, rfl, by decide, lwi 148 (by decide +kernel) (by decide +kernel)⟩
theorem fl_28 : fldP (5, 23, 4, 3) := ⟨RX5, TX5, 7, rfl, by decide, lwi 149 (by decide +kernel) (by decide +kernel)⟩
theorem fl_29 : fldP (5, 26, 4, 4) := ⟨RX5, TX5, 7, rfl, by decide, lwi 150 (by decide +kernel) (by decide +kernel)⟩
theorem fl_30 : fldP (5, 29, 4, 5) := ⟨RX5, TX5, 7, rfl, by decide, lwi 151 (by decide +kernel) (by decide +kernel)⟩
theorem fl_31 : fldP (5, 32, 4, 6) := ⟨RX5, TX5, 7, rfl, by decide, lwi 152 (by decide +kernel) (by decide +kernel)⟩
theorem fl_32 : fldP (5, 35, 3, 0) := ⟨RX4, TX4, 5, rfl, by decide, lwi 74 (by decide +kernel) (by decide +kernel)⟩
theorem fl_33 : fldP (5, 47, 3, 2) := ⟨RX4, TX4, 5, rfl, by decide, lwi 88 (by decide +kernel) (by decide +kernel)⟩
theorem fl_34 : fldP (5, 52, 3, 3) := ⟨RX4, TX4, 5, rfl, by decide, lwi 91 (by decide +kernel) (by decide +kernel)⟩
theorem fl_35 : fldP (5, 59, 3, 1) := ⟨RX4, TX4, 5, rfl, by decide, lwi 82 (by decide +kernel) (by decide +kernel)⟩
theorem fl_36 : fldP (7, 11, 5, 0) := ⟨RX7, TX7, 7, rfl, by decide, lwi 197 (by decide +kernel) (by decide +kernel)⟩
theorem fl_37 : fldP (7, 16, 5, 1) := ⟨RX7, TX7, 7, rfl, by decide, lwi 198 (by decide +kernel) (by decide +kernel)⟩
theorem fl_38 : fldP (7, 19, 5, 2) := ⟨RX7, TX7, 7, rfl, by decide, lwi 199 (by decide +kernel) (by decide +kernel)⟩
theorem fl_39 : fldP (7, 22, 5, 3) := ⟨RX7, TX7, 7, rfl, by decide, lwi 200 (by decide +kernel) (by decide +kernel)⟩
theorem fl_40 : fldP (7, 26, 5, 4) := ⟨RX7, TX7, 7, rfl, by decide, lwi 201 (by decide +kernel) (by decide +kernel)⟩
theorem fl_41 : fldP (7, 29, 5, 5) := ⟨RX7, TX7, 7, rfl, by decide, lwi 202 (by decide +kernel) (by decide +kernel)⟩
theorem fl_42 : fldP (7, 32, 5, 6) := ⟨RX7, TX7, 7, rfl, by decide, lwi 203 (by decide +kernel) (by decide +kernel)⟩
theorem fl_43 : fldP (7, 39, 3, 0) := ⟨RX4, TX4, 5, rfl, by decide, lwi 76 (by decide +kernel) (by decide +kernel)⟩
theorem fl_44 : fldP (7, 45, 3, 2) := ⟨RX4, TX4, 5, rfl, by decide, lwi 87 (by decide +kernel) (by decide +kernel)⟩
theorem fl_45 : fldP (7, 68, 3, 3) := ⟨RX4, TX4, 5, rfl, by decide, lwi 92 (by decide +kernel) (by decide +kernel)⟩
theorem fl_46 : fldP (7, 74, 3, 1) := ⟨RX4, TX4, 5, rfl, by decide, lwi 83 (by decide +kernel) (by decide +kernel)⟩
theorem fl_47 : fldP (8, 9, 6, 0) := ⟨RX8, TX8, 3, rfl, by decide, lwi 51 (by decide +kernel) (by decide +kernel)⟩
theorem fl_48 : fldP (8, 15, 6, 2) := ⟨RX8, TX8, 3, rfl, by decide, lwi 57 (by decide +kernel) (by decide +kernel)⟩
theorem fl_49 : fldP (8, 19, 6, 1) := ⟨RX8, TX8, 3, rfl, by decide, lwi 54 (by decide +kernel) (by decide +kernel)⟩
theorem fl_50 : fldP (9, 11, 7, 0) := ⟨RX9, TX9, 11, rfl, by decide, lwi 219 (by decide +kernel) (by decide +kernel)⟩
theorem fl_51 : fldP (9, 20, 7, 2) := ⟨RX9, TX9, 11, rfl, by decide, lwi 221 (by decide +kernel) (by decide +kernel)⟩
theorem fl_52 : fldP (9, 24, 7, 3) := ⟨RX9, TX9, 11, rfl, by decide, lwi 222 (by decide +kernel) (by decide +kernel)⟩
theorem fl_53 : fldP (9, 28, 7, 4) := ⟨RX9, TX9, 11, rfl, by decide, lwi 223 (by decide +kernel) (by decide +kernel)⟩
theorem fl_54 : fldP (9, 35, 7, 5) := ⟨RX9, TX9, 11, rfl, by decide, lwi 224 (by decide +kernel) (by decide +kernel)⟩
theorem fl_55 : fldP (9, 39, 7, 6) := ⟨RX9, TX9, 11, rfl, by decide, lwi 225 (by decide +kernel) (by decide +kernel)⟩
theorem fl_56 : fldP (9, 43, 7, 7) := ⟨RX9, TX9, 11, rfl, by decide, lwi 226 (by decide +kernel) (by decide +kernel)⟩
theorem fl_57 : fldP (9, 49, 7, 8) := ⟨RX9, TX9, 11, rfl, by decide, lwi 227 (by decide +kernel) (by decide +kernel)⟩
theorem fl_58 : fldP (9, 56, 7, 9) := ⟨RX9, TX9, 11, rfl, by decide, lwi 228 (by decide +kernel) (by decide +kernel)⟩
theorem fl_59 : fldP (9, 63, 7, 10) := ⟨RX9, TX9, 11, rfl, by decide, lwi 229 (by decide +kernel) (by decide +kernel)⟩
theorem fl_60 : fldP (9, 78, 7, 1) := ⟨RX9, TX9, 11, rfl, by decide, lwi 220 (by decide +kernel) (by decide +kernel)⟩
theorem fl_61 : fldP (9, 106, 3, 0) := ⟨RX4, TX4, 5, rfl, by decide, lwi 78 (by decide +kernel) (by decide +kernel)⟩
theorem fl_62 : fldP (9, 121, 3, 4) := ⟨RX4, TX4, 5, rfl, by decide, lwi 95 (by decide +kernel) (by decide +kernel)⟩
theorem fl_63 : fldP (9, 141, 6, 1) := ⟨RX8, TX8, 3, rfl, by decide, lwi 56 (by decide +kernel) (by decide +kernel)⟩
theorem fl_64 : fldP (9, 169, 4, 1) := ⟨RX5, TX5, 7, rfl, by decide, lwi 147 (by decide +kernel) (by decide +kernel)⟩
theorem fl_65 : fldP (9, 172, 4, 0) := ⟨RX5, TX5, 7, rfl, by decide, lwi 145 (by decide +kernel) (by decide +kernel)⟩
theorem fl_66 : fldP (9, 190, 0, 0) := ⟨RX0, TX0, 4, rfl, by decide, lwi 177 (by decide +kernel) (by decide +kernel)⟩
def fldT_0 : List (Nat × Nat × Nat × Nat) := [(0, 9, 0, 0), (0, 15, 0, 1), (0, 18, 0, 2), (0, 24, 0, 3), (0, 28, 3, 0), (0, 34, 3, 4), (0, 37, 3, 2), (0, 46, 3, 3), (0, 53, 3, 1), (0, 82, 6, 1), (0, 87, 6, 0), (1, 11, 1, 0), (3, 12, 2, 0), (3, 18, 2, 1), (3, 22, 2, 2), (3, 25, 2, 3), (3, 28, 3, 0), (3, 34, 3, 2), (3, 47, 3, 1), (3, 71, 6, 0), (4, 11, 3, 1), (4, 16, 3, 2), (4, 20, 3, 3), (4, 23, 3, 4)]
theorem fldT_0_ok : ∀ q ∈ fldT_0, fldP q := List.forall_mem_cons.mpr ⟨fl_0, List.forall_mem_cons.mpr ⟨fl_1, List.forall_mem_cons.mpr ⟨fl_2, List.forall_mem_cons.mpr ⟨fl_3, List.forall_mem_cons.mpr ⟨fl_4, List.forall_mem_cons.mpr ⟨fl_5, List.forall_mem_cons.mpr ⟨fl_6, List.forall_mem_cons.mpr ⟨fl_7, List.forall_mem_cons.mpr ⟨fl_8, List.forall_mem_cons.mpr ⟨fl_9, List.forall_mem_cons.mpr ⟨fl_10, List.forall_mem_cons.mpr ⟨fl_11, List.forall_mem_cons.mpr ⟨fl_12, List.forall_mem_cons.mpr ⟨fl_13, List.forall_mem_cons.mpr ⟨fl_14, List.forall_mem_cons.mpr ⟨fl_15, List.forall_mem_cons.mpr ⟨fl_16, List.forall_mem_cons.mpr ⟨fl_17, List.forall_mem_cons.mpr ⟨fl_18, List.forall_mem_cons.mpr ⟨fl_19, List.forall_mem_cons.mpr ⟨fl_20, List.forall_mem_cons.mpr ⟨fl_21, List.forall_mem_cons.mpr ⟨fl_22, List.forall_mem_cons.mpr ⟨fl_23, fun _ h => absurd h List.not_mem_nil⟩⟩⟩⟩⟩⟩⟩⟩⟩⟩⟩⟩⟩⟩⟩⟩⟩⟩⟩⟩⟩⟩⟩⟩
def fldT_1 : List (Nat × Nat × Nat × Nat) := [(4, 31, 3, 0), (5, 9, 4, 0), (5, 15, 4, 1), (5, 20, 4, 2), (5, 23, 4, 3), (5, 26, 4, 4), (5, 29, 4, 5), (5, 32, 4, 6), (5, 35, 3, 0), (5, 47, 3, 2), (5, 52, 3, 3), (5, 59, 3, 1), (7, 11, 5, 0), (7, 16, 5, 1), (7, 19, 5, 2), (7, 22, 5, 3), (7, 26, 5, 4), (7, 29, 5, 5), (7, 32, 5, 6), (7, 39, 3, 0), (7, 45, 3, 2), (7, 68, 3, 3), (7, 74, 3, 1), (8, 9, 6, 0)]
theorem fldT_1_ok : ∀ q ∈ fldT_1, fldP q := List.forall_mem_cons.mpr ⟨fl_24, List.forall_mem_cons.mpr ⟨fl_25, List.forall_mem_cons.mpr ⟨fl_26, List.forall_mem_cons.mpr ⟨fl_27, List.forall_mem_cons.mpr ⟨fl_28, List.forall_mem_cons.mpr ⟨fl_29, List.forall_mem_cons.mpr ⟨fl_30, List.forall_mem_cons.mpr ⟨fl_31, List.forall_mem_cons.mpr ⟨fl_32, List.forall_mem_cons.mpr ⟨fl_33, List.forall_mem_cons.mpr ⟨fl_34, List.forall_mem_cons.mpr ⟨fl_35, List.forall_mem_cons.mpr ⟨fl_36, List.forall_mem_cons.mpr ⟨fl_37, List.forall_mem_cons.mpr ⟨fl_38, List.forall_mem_cons.mpr ⟨fl_39, List.forall_mem_cons.mpr ⟨fl_40, List.forall_mem_cons.mpr ⟨fl_41, List.forall_mem_cons.mpr ⟨fl_42, List.forall_mem_cons.mpr ⟨fl_43, List.forall_mem_cons.mpr ⟨fl_44, List.forall_mem_cons.mpr ⟨fl_45, List.forall_mem_cons.mpr ⟨fl_46, List.forall_mem_cons.mpr ⟨fl_47, fun _ h => absurd h List.not_mem_nil⟩⟩⟩⟩⟩⟩⟩⟩⟩⟩⟩⟩⟩⟩⟩⟩⟩⟩⟩⟩⟩⟩⟩⟩
def fldT_2 : List (Nat × Nat × Nat × Nat) := [(8, 15, 6, 2), (8, 19, 6, 1), (9, 11, 7, 0), (9, 20, 7, 2), (9, 24, 7, 3), (9, 28, 7, 4), (9, 35, 7, 5), (9, 39, 7, 6), (9, 43, 7, 7), (9, 49, 7, 8), (9, 56, 7, 9), (9, 63, 7, 10), (9, 78, 7, 1), (9, 106, 3, 0), (9, 121, 3, 4), (9, 141, 6, 1), (9, 169, 4, 1), (9, 172, 4, 0), (9, 190, 0, 0)]
theorem fldT_2_ok : ∀ q ∈ fldT_2, fldP q := List.forall_mem_cons.mpr ⟨fl_48, List.forall_mem_cons.mpr ⟨fl_49, List.forall_mem_cons.mpr ⟨fl_50, List.forall_mem_cons.mpr ⟨fl_51, List.forall_mem_cons.mpr ⟨fl_52, List.forall_mem_cons.mpr ⟨fl_53, List.forall_mem_cons.mpr ⟨fl_54, List.forall_mem_cons.mpr ⟨fl_55, List.forall_mem_cons.mpr ⟨fl_56, List.forall_mem_cons.mpr ⟨fl_57, List.forall_mem_cons.mpr ⟨fl_58, List.forall_mem_cons.mpr ⟨fl_59, List.forall_mem_cons.mpr ⟨fl_60, List.forall_mem_cons.mpr ⟨fl_61, List.forall_mem_cons.mpr ⟨fl_62, List.forall_mem_cons.mpr ⟨fl_63, List.forall_mem_cons.mpr ⟨fl_64, List.forall_mem_cons.mpr ⟨fl_65, List.forall_mem_cons.mpr ⟨fl_66, fun _ h => absurd h List.not_mem_nil⟩⟩⟩⟩⟩⟩⟩⟩⟩⟩⟩⟩⟩⟩⟩⟩⟩⟩⟩
def fldT : List (Nat × Nat × Nat × Nat) := fldT_0 ++ (fldT_1 ++ (fldT_2))
theorem fldT_ok : ∀ q ∈ fldT, fldP q := List.forall_mem_append.mpr ⟨fldT_0_ok, List.forall_mem_append.mpr ⟨fldT_1_ok, fldT_2_ok⟩⟩
def ftyP (q : Nat × Nat × Nat) : Prop := ∃ (C : String) (T : u_T) (N : Nat), vwCl[q.1]? = some (C, T, N) ∧ q.2.1 < N ∧ (T q.2.1).1 = C ∧ (T q.2.1).2.2.2 = decide (2 ≤ q.2.2) ∧ ((q.2.2 % 2 = 0 ∧ parseFieldDescriptor (T q.2.1).2.2.1 = some .int) ∨ (q.2.2 % 2 = 1 ∧ ∃ ty, parseFieldDescriptor (T q.2.1).2.2.1 = some ty ∧ ∀ a, narrow ty (.ref a) = .ref a ∧ fits ty (.ref a) = true))
theorem ft_0 : ftyP (0, 0, 3) := ⟨RX0, TX0, 4, rfl, by decide, rfl, rfl, Or.inr ⟨rfl, tyX0 0, by decide +kernel, fun _ => ⟨rfl, rfl⟩⟩⟩
theorem ft_1 : ftyP (0, 1, 3) := ⟨RX0, TX0, 4, rfl, by decide, rfl, rfl, Or.inr ⟨rfl, tyX0 1, by decide +kernel, fun _ => ⟨rfl, rfl⟩⟩⟩
theorem ft_2 : ftyP (0, 2, 3) := ⟨RX0, TX0, 4, rfl, by decide, rfl, rfl, Or.inr ⟨rfl, tyX0 2, by decide +kernel, fun _ => ⟨rfl, rfl⟩⟩⟩
theorem ft_3 : ftyP (0, 3, 3) := ⟨RX0, TX0, 4, rfl, by decide, rfl, rfl, Or.inr ⟨rfl, tyX0 3, by decide +kernel, fun _ => ⟨rfl, rfl⟩⟩⟩
theorem ft_4 : ftyP (1, 0, 3) := ⟨RX1, TX1, 1, rfl, by decide, rfl, rfl, Or.inr ⟨rfl, tyX1 0, by decide +kernel, fun _ => ⟨rfl, rfl⟩⟩⟩
theorem ft_5 : ftyP (2, 0, 3) := ⟨RX3, TX3, 4, rfl, by decide, rfl, rfl, Or.inr ⟨rfl, tyX3 0, by decide +kernel, fun _ => ⟨rfl, rfl⟩⟩⟩
theorem ft_6 : ftyP (2, 1, 3) := ⟨RX3, TX3, 4, rfl, by decide, rfl, rfl, Or.inr ⟨rfl, tyX3 1, by decide +kernel, fun _ => ⟨rfl, rfl⟩⟩⟩
theorem ft_7 : ftyP (2, 2, 3) := ⟨RX3, TX3, 4, rfl, by decide, rfl, rfl, Or.inr ⟨rfl, tyX3 2, by decide +kernel, fun _ => ⟨rfl, rfl⟩⟩⟩
theorem ft_8 : ftyP (2, 3, 3) := ⟨RX3, TX3, 4, rfl, by decide, rfl, rfl, Or.inr ⟨rfl, tyX3 3, by decide +kernel, fun _ => ⟨rfl, rfl⟩⟩⟩
theorem ft_9 : ftyP (3, 0, 0) := ⟨RX4, TX4, 5, rfl, by decide, rfl, rfl, Or.inl ⟨rfl, by decide +kernel⟩⟩
theorem ft_10 : ftyP (3, 1, 3) := ⟨RX4, TX4, 5, rfl, by decide, rfl, rfl, Or.inr ⟨rfl, tyX4 1, by decide +kernel, fun _ => ⟨rfl, rfl⟩⟩⟩
theorem ft_11 : ftyP (3, 2, 3) := ⟨RX4, TX4, 5, rfl, by decide, rfl, rfl, Or.inr ⟨rfl, tyX4 2, by decide +kernel, fun _ => ⟨rfl, rfl⟩⟩⟩
theorem ft_12 : ftyP (3, 3, 3) := ⟨RX4, TX4, 5, rfl, by decide, rfl, rfl, Or.inr ⟨rfl, tyX4 3, by decide +kernel, fun _ => ⟨rfl, rfl⟩⟩⟩
theorem ft_13 : ftyP (3, 4, 0) := ⟨RX4, TX4, 5, rfl, by decide, rfl, rfl, Or.inl ⟨rfl, by decide +kernel⟩⟩
theorem ft_14 : ftyP (4, 0, 3) := ⟨RX5, TX5, 7, rfl, by decide, rfl, rfl, Or.inr ⟨rfl, tyX5 0, by decide +kernel, fun _ => ⟨rfl, rfl⟩⟩⟩
theorem ft_15 : ftyP (4, 1, 3) := ⟨RX5, TX5, 7, rfl, by decide, rfl, rfl, Or.inr ⟨rfl, tyX5 1, by decide +kernel, fun _ => ⟨rfl, rfl⟩⟩⟩
theorem ft_16 : ftyP (4, 2, 1) := ⟨RX5, TX5, 7, rfl, by decide, rfl, rfl, Or.inr ⟨rfl, tyX5 2, by decide +kernel, fun _ => ⟨rfl, rfl⟩⟩⟩
theorem ft_17 : ftyP (4, 3, 1) := ⟨RX5, TX5, 7, rfl, by decide, rfl, rfl, Or.inr ⟨rfl, tyX5 3, by decide +kernel, fun _ => ⟨rfl, rfl⟩⟩⟩
theorem ft_18 : ftyP (4, 4, 3) := ⟨RX5, TX5, 7, rfl, by decide, rfl, rfl, Or.inr ⟨rfl, tyX5 4, by decide +kernel, fun _ => ⟨rfl, rfl⟩⟩⟩
theorem ft_19 : ftyP (4, 5, 1) := ⟨RX5, TX5, 7, rfl, by decide, rfl, rfl, Or.inr ⟨rfl, tyX5 5, by decide +kernel, fun _ => ⟨rfl, rfl⟩⟩⟩
theorem ft_20 : ftyP (4, 6, 1) := ⟨RX5, TX5, 7, rfl, by decide, rfl, rfl, Or.inr ⟨rfl, tyX5 6, by decide +kernel, fun _ => ⟨rfl, rfl⟩⟩⟩
theorem ft_21 : ftyP (5, 0, 3) := ⟨RX7, TX7, 7, rfl, by decide, rfl, rfl, Or.inr ⟨rfl, tyX7 0, by decide +kernel, fun _ => ⟨rfl, rfl⟩⟩⟩
theorem ft_22 : ftyP (5, 1, 3) := ⟨RX7, TX7, 7, rfl, by decide, rfl, rfl, Or.inr ⟨rfl, tyX7 1, by decide +kernel, fun _ => ⟨rfl, rfl⟩⟩⟩
theorem ft_23 : ftyP (5, 2, 3) := ⟨RX7, TX7, 7, rfl, by decide, rfl, rfl, Or.inr ⟨rfl, tyX7 2, by decide +kernel, fun _ => ⟨rfl, rfl⟩⟩⟩
theorem ft_24 : ftyP (5, 3, 3) := ⟨RX7, TX7, 7, rfl, by decide, rfl, rfl, Or.inr ⟨rfl, tyX7 3, by decide +kernel, fun _ => ⟨rfl, rfl⟩⟩⟩
theorem ft_25 : ftyP (5, 4, 3) := ⟨RX7, TX7, 7, rfl, by decide, rfl, rfl, Or.inr ⟨rfl, tyX7 4, by decide +kernel, fun _ => ⟨rfl, rfl⟩⟩⟩
theorem ft_26 : ftyP (5, 5, 3) := ⟨RX7, TX7, 7, rfl, by decide, rfl, rfl, Or.inr ⟨rfl, tyX7 5, by decide +kernel, fun _ => ⟨rfl, rfl⟩⟩⟩
theorem ft_27 : ftyP (5, 6, 3) := ⟨RX7, TX7, 7, rfl, by decide, rfl, rfl, Or.inr ⟨rfl, tyX7 6, by decide +kernel, fun _ => ⟨rfl, rfl⟩⟩⟩
theorem ft_28 : ftyP (6, 0, 3) := ⟨RX8, TX8, 3, rfl, by decide, rfl, rfl, Or.inr ⟨rfl, tyX8 0, by decide +kernel, fun _ => ⟨rfl, rfl⟩⟩⟩
theorem ft_29 : ftyP (6, 1, 0) := ⟨RX8, TX8, 3, rfl, by decide, rfl, rfl, Or.inl ⟨rfl, by decide +kernel⟩⟩
theorem ft_30 : ftyP (6, 2, 2) := ⟨RX8, TX8, 3, rfl, by decide, rfl, rfl, Or.inl ⟨rfl, by decide +kernel⟩⟩
theorem ft_31 : ftyP (7, 0, 3) := ⟨RX9, TX9, 11, rfl, by decide, rfl, rfl, Or.inr ⟨rfl, tyX9 0, by decide +kernel, fun _ => ⟨rfl, rfl⟩⟩⟩
theorem ft_32 : ftyP (7, 1, 0) := ⟨RX9, TX9, 11, rfl, by decide, rfl, rfl, Or.inl ⟨rfl, by decide +kernel⟩⟩
theorem ft_33 : ftyP (7, 2, 3) := ⟨RX9, TX9, 11, rfl, by decide, rfl, rfl, Or.inr ⟨rfl, tyX9 2, by decide +kernel, fun _ => ⟨rfl, rfl⟩⟩⟩
theorem ft_34 : ftyP (7, 3, 3) := ⟨RX9, TX9, 11, rfl, by decide, rfl, rfl, Or.inr ⟨rfl, tyX9 3, by decide +kernel, fun _ => ⟨rfl, rfl⟩⟩⟩
theorem ft_35 : ftyP (7, 4, 3) := ⟨RX9, TX9, 11, rfl, by decide, rfl, rfl, Or.inr ⟨rfl, tyX9 4, by decide +kernel, fun _ => ⟨rfl, rfl⟩⟩⟩
theorem ft_36 : ftyP (7, 5, 3) := ⟨RX9, TX9, 11, rfl, by decide, rfl, rfl, Or.inr ⟨rfl, tyX9 5, by decide +kernel, fun _ => ⟨rfl, rfl⟩⟩⟩
theorem ft_37 : ftyP (7, 6, 3) := ⟨RX9, TX9, 11, rfl, by decide, rfl, rfl, Or.inr ⟨rfl, tyX9 6, by decide +kernel, fun _ => ⟨rfl, rfl⟩⟩⟩
theorem ft_38 : ftyP (7, 7, 3) := ⟨RX9, TX9, 11, rfl, by decide, rfl, rfl, Or.inr ⟨rfl, tyX9 7, by decide +kernel, fun _ => ⟨rfl, rfl⟩⟩⟩
theorem ft_39 : ftyP (7, 8, 3) := ⟨RX9, TX9, 11, rfl, by decide, rfl, rfl, Or.inr ⟨rfl, tyX9 8, by decide +kernel, fun _ => ⟨rfl, rfl⟩⟩⟩
theorem ft_40 : ftyP (7, 9, 3) := ⟨RX9, TX9, 11, rfl, by decide, rfl, rfl, Or.inr ⟨rfl, tyX9 9, by decide +kernel, fun _ => ⟨rfl, rfl⟩⟩⟩
theorem ft_41 : ftyP (7, 10, 3) := ⟨RX9, TX9, 11, rfl, by decide, rfl, rfl, Or.inr ⟨rfl, tyX9 10, by decide +kernel, fun _ => ⟨rfl, rfl⟩⟩⟩
def ftyT_0 : List (Nat × Nat × Nat) := [(0, 0, 3), (0, 1, 3), (0, 2, 3), (0, 3, 3), (1, 0, 3), (2, 0, 3), (2, 1, 3), (2, 2, 3), (2, 3, 3), (3, 0, 0), (3, 1, 3), (3, 2, 3), (3, 3, 3), (3, 4, 0), (4, 0, 3), (4, 1, 3), (4, 2, 1), (4, 3, 1), (4, 4, 3), (4, 5, 1), (4, 6, 1), (5, 0, 3), (5, 1, 3), (5, 2, 3)]
theorem ftyT_0_ok : ∀ q ∈ ftyT_0, ftyP q := List.forall_mem_cons.mpr ⟨ft_0, List.forall_mem_cons.mpr ⟨ft_1, List.forall_mem_cons.mpr ⟨ft_2, List.forall_mem_cons.mpr ⟨ft_3, List.forall_mem_cons.mpr ⟨ft_4, List.forall_mem_cons.mpr ⟨ft_5, List.forall_mem_cons.mpr ⟨ft_6, List.forall_mem_cons.mpr ⟨ft_7, List.forall_mem_cons.mpr ⟨ft_8, List.forall_mem_cons.mpr ⟨ft_9, List.forall_mem_cons.mpr ⟨ft_10, List.forall_mem_cons.mpr ⟨ft_11, List.forall_mem_cons.mpr ⟨ft_12, List.forall_mem_cons.mpr ⟨ft_13, List.forall_mem_cons.mpr ⟨ft_14, List.forall_mem_cons.mpr ⟨ft_15, List.forall_mem_cons.mpr ⟨ft_16, List.forall_mem_cons.mpr ⟨ft_17, List.forall_mem_cons.mpr ⟨ft_18, List.forall_mem_cons.mpr ⟨ft_19, List.forall_mem_cons.mpr ⟨ft_20, List.forall_mem_cons.mpr ⟨ft_21, List.forall_mem_cons.mpr ⟨ft_22, List.forall_mem_cons.mpr ⟨ft_23, fun _ h => absurd h List.not_mem_nil⟩⟩⟩⟩⟩⟩⟩⟩⟩⟩⟩⟩⟩⟩⟩⟩⟩⟩⟩⟩⟩⟩⟩⟩
def ftyT_1 : List (Nat × Nat × Nat) := [(5, 3, 3), (5, 4, 3), (5, 5, 3), (5, 6, 3), (6, 0, 3), (6, 1, 0), (6, 2, 2), (7, 0, 3), (7, 1, 0), (7, 2, 3), (7, 3, 3), (7, 4, 3), (7, 5, 3), (7, 6, 3), (7, 7, 3), (7, 8, 3), (7, 9, 3), (7, 10, 3)]
theorem ftyT_1_ok : ∀ q ∈ ftyT_1, ftyP q := List.forall_mem_cons.mpr ⟨ft_24, List.forall_mem_cons.mpr ⟨ft_25, List.forall_mem_cons.mpr ⟨ft_26, List.forall_mem_cons.mpr ⟨ft_27, List.forall_mem_cons.mpr ⟨ft_28, List.forall_mem_cons.mpr ⟨ft_29, List.forall_mem_cons.mpr ⟨ft_30, List.forall_mem_cons.mpr ⟨ft_31, List.forall_mem_cons.mpr ⟨ft_32, List.forall_mem_cons.mpr ⟨ft_33, List.forall_mem_cons.mpr ⟨ft_34, List.forall_mem_cons.mpr ⟨ft_35, List.forall_mem_cons.mpr ⟨ft_36, List.forall_mem_cons.mpr ⟨ft_37, List.forall_mem_cons.mpr ⟨ft_38, List.forall_mem_cons.mpr ⟨ft_39, List.forall_mem_cons.mpr ⟨ft_40, List.forall_mem_cons.mpr ⟨ft_41, fun _ h => absurd h List.not_mem_nil⟩⟩⟩⟩⟩⟩⟩⟩⟩⟩⟩⟩⟩⟩⟩⟩⟩⟩
def ftyT : List (Nat × Nat × Nat) := ftyT_0 ++ (ftyT_1)
theorem ftyT_ok : ∀ q ∈ ftyT, ftyP q := List.forall_mem_append.mpr ⟨ftyT_0_ok, ftyT_1_ok⟩
def cnciT : List (Nat × Nat) := [(0, 0), (1, 1), (3, 2), (4, 3), (5, 4), (7, 5), (8, 6), (9, 7)]
theorem cnciT_ok : ∀ q ∈ cnciT, ∃ T N, vwCl[q.2]? = some (cnm q.1, T, N) := by
  intro q h
  simp only [cnciT, List.mem_cons, List.not_mem_nil, or_false] at h
  rcases h with rfl | rfl | rfl | rfl | rfl | rfl | rfl | rfl
  · exact ⟨TX0, 4, rfl⟩
  · exact ⟨TX1, 1, rfl⟩
  · exact ⟨TX3, 4, rfl⟩
  · exact ⟨TX4, 5, rfl⟩
  · exact ⟨TX5, 7, rfl⟩
  · exact ⟨TX7, 7, rfl⟩
  · exact ⟨TX8, 3, rfl⟩
  · exact ⟨TX9, 11, rfl⟩
def callP (q : Nat × Nat × Nat × Nat) : Prop := (q.2.2.2 = 0 ∧ Cond.methodLink (cnm q.1) q.2.1 (m_y q.2.2.1) ∈ lwg) ∨ (q.2.2.2 = 1 ∧ ∃ host, Cond.methodLinkNest (cnm q.1) q.2.1 (m_y q.2.2.1) host ∈ lw_tbl)
theorem ca_0 : callP (0, 23, 6, 1) := Or.inr ⟨rfl, "PoleShop", List.mem_of_getElem? (i := 175) (by decide +kernel)⟩
theorem ca_1 : callP (0, 40, 45, 0) := Or.inl ⟨rfl, lwi 673 (by decide +kernel) (by decide +kernel)⟩
theorem ca_2 : callP (0, 49, 41, 0) := Or.inl ⟨rfl, lwi 674 (by decide +kernel) (by decide +kernel)⟩
theorem ca_3 : callP (0, 57, 42, 0) := Or.inl ⟨rfl, lwi 675 (by decide +kernel) (by decide +kernel)⟩
theorem ca_4 : callP (0, 61, 46, 0) := Or.inl ⟨rfl, lwi 727 (by decide +kernel) (by decide +kernel)⟩
theorem ca_5 : callP (0, 65, 4, 0) := Or.inl ⟨rfl, lwi 728 (by decide +kernel) (by decide +kernel)⟩
theorem ca_6 : callP (0, 69, 17, 0) := Or.inl ⟨rfl, lwi 731 (by decide +kernel) (by decide +kernel)⟩
theorem ca_7 : callP (0, 75, 15, 0) := Or.inl ⟨rfl, lwi 732 (by decide +kernel) (by decide +kernel)⟩
theorem ca_8 : callP (0, 78, 1, 0) := Or.inl ⟨rfl, lwi 741 (by decide +kernel) (by decide +kernel)⟩
theorem ca_9 : callP (0, 90, 7, 0) := Or.inl ⟨rfl, lwi 770 (by decide +kernel) (by decide +kernel)⟩
theorem ca_10 : callP (0, 94, 8, 0) := Or.inl ⟨rfl, lwi 771 (by decide +kernel) (by decide +kernel)⟩
theorem ca_11 : callP (1, 16, 45, 0) := Or.inl ⟨rfl, lwi 494 (by decide +kernel) (by decide +kernel)⟩
theorem ca_12 : callP (1, 22, 10, 0) := Or.inl ⟨rfl, lwi 507 (by decide +kernel) (by decide +kernel)⟩
theorem ca_13 : callP (1, 26, 11, 0) := Or.inl ⟨rfl, lwi 511 (by decide +kernel) (by decide +kernel)⟩
theorem ca_14 : callP (1, 30, 12, 0) := Or.inl ⟨rfl, lwi 515 (by decide +kernel) (by decide +kernel)⟩
theorem ca_15 : callP (1, 34, 13, 0) := Or.inl ⟨rfl, lwi 521 (by decide +kernel) (by decide +kernel)⟩
theorem ca_16 : callP (1, 37, 18, 0) := Or.inl ⟨rfl, lwi 519 (by decide +kernel) (by decide +kernel)⟩
theorem ca_17 : callP (1, 43, 17, 0) := Or.inl ⟨rfl, lwi 520 (by decide +kernel) (by decide +kernel)⟩
theorem ca_18 : callP (1, 46, 16, 0) := Or.inl ⟨rfl, lwi 525 (by decide +kernel) (by decide +kernel)⟩
theorem ca_19 : callP (3, 11, 6, 1) := Or.inr ⟨rfl, "PoleShop", List.mem_of_getElem? (i := 115) (by decide +kernel)⟩
theorem ca_20 : callP (3, 37, 45, 0) := Or.inl ⟨rfl, lwi 487 (by decide +kernel) (by decide +kernel)⟩
theorem ca_21 : callP (3, 43, 7, 0) := Or.inl ⟨rfl, lwi 490 (by decide +kernel) (by decide +kernel)⟩
theorem ca_22 : callP (3, 51, 42, 0) := Or.inl ⟨rfl, lwi 495 (by decide +kernel) (by decide +kernel)⟩
theorem ca_23 : callP (3, 55, 8, 0) := Or.inl ⟨rfl, lwi 503 (by decide +kernel) (by decide +kernel)⟩
theorem ca_24 : callP (3, 59, 20, 0) := Or.inl ⟨rfl, lwi 483 (by decide +kernel) (by decide +kernel)⟩
theorem ca_25 : callP (3, 63, 9, 0) := Or.inl ⟨rfl, lwi 526 (by decide +kernel) (by decide +kernel)⟩
theorem ca_26 : callP (3, 67, 43, 0) := Or.inl ⟨rfl, lwi 530 (by decide +kernel) (by decide +kernel)⟩
theorem ca_27 : callP (3, 76, 17, 0) := Or.inl ⟨rfl, lwi 533 (by decide +kernel) (by decide +kernel)⟩
theorem ca_28 : callP (3, 82, 16, 0) := Or.inl ⟨rfl, lwi 534 (by decide +kernel) (by decide +kernel)⟩
theorem ca_29 : callP (3, 85, 23, 0) := Or.inl ⟨rfl, lwi 601 (by decide +kernel) (by decide +kernel)⟩
theorem ca_30 : callP (3, 89, 15, 0) := Or.inl ⟨rfl, lwi 606 (by decide +kernel) (by decide +kernel)⟩
theorem ca_31 : callP (3, 92, 46, 0) := Or.inl ⟨rfl, lwi 605 (by decide +kernel) (by decide +kernel)⟩
theorem ca_32 : callP (4, 27, 29, 0) := Or.inl ⟨rfl, lwi 415 (by decide +kernel) (by decide +kernel)⟩
theorem ca_33 : callP (4, 34, 17, 0) := Or.inl ⟨rfl, lwi 419 (by decide +kernel) (by decide +kernel)⟩
theorem ca_34 : callP (4, 40, 15, 0) := Or.inl ⟨rfl, lwi 426 (by decide +kernel) (by decide +kernel)⟩
theorem ca_35 : callP (4, 43, 18, 0) := Or.inl ⟨rfl, lwi 440 (by decide +kernel) (by decide +kernel)⟩
theorem ca_36 : callP (4, 46, 16, 0) := Or.inl ⟨rfl, lwi 443 (by decide +kernel) (by decide +kernel)⟩
theorem ca_37 : callP (5, 41, 46, 0) := Or.inl ⟨rfl, lwi 571 (by decide +kernel) (by decide +kernel)⟩
theorem ca_38 : callP (5, 48, 42, 0) := Or.inl ⟨rfl, lwi 574 (by decide +kernel) (by decide +kernel)⟩
theorem ca_39 : callP (5, 55, 41, 0) := Or.inl ⟨rfl, lwi 575 (by decide +kernel) (by decide +kernel)⟩
theorem ca_40 : callP (5, 60, 44, 0) := Or.inl ⟨rfl, lwi 576 (by decide +kernel) (by decide +kernel)⟩
theorem ca_41 : callP (5, 64, 36, 0) := Or.inl ⟨rfl, lwi 580 (by decide +kernel) (by decide +kernel)⟩
theorem ca_42 : callP (5, 68, 16, 0) := Or.inl ⟨rfl, lwi 584 (by decide +kernel) (by decide +kernel)⟩
theorem ca_43 : callP (5, 74, 18, 0) := Or.inl ⟨rfl, lwi 585 (by decide +kernel) (by decide +kernel)⟩
theorem ca_44 : callP (5, 77, 37, 0) := Or.inl ⟨rfl, lwi 586 (by decide +kernel) (by decide +kernel)⟩
theorem ca_45 : callP (5, 81, 15, 0) := Or.inl ⟨rfl, lwi 583 (by decide +kernel) (by decide +kernel)⟩
theorem ca_46 : callP (5, 84, 45, 0) := Or.inl ⟨rfl, lwi 753 (by decide +kernel) (by decide +kernel)⟩
theorem ca_47 : callP (5, 88, 40, 0) := Or.inl ⟨rfl, lwi 754 (by decide +kernel) (by decide +kernel)⟩
theorem ca_48 : callP (5, 92, 39, 0) := Or.inl ⟨rfl, lwi 757 (by decide +kernel) (by decide +kernel)⟩
theorem ca_49 : callP (5, 96, 17, 0) := Or.inl ⟨rfl, lwi 761 (by decide +kernel) (by decide +kernel)⟩
theorem ca_50 : callP (6, 7, 17, 0) := Or.inl ⟨rfl, lwi 501 (by decide +kernel) (by decide +kernel)⟩
theorem ca_51 : callP (6, 13, 15, 0) := Or.inl ⟨rfl, lwi 502 (by decide +kernel) (by decide +kernel)⟩
theorem ca_52 : callP (6, 16, 41, 0) := Or.inl ⟨rfl, lwi 498 (by decide +kernel) (by decide +kernel)⟩
theorem ca_53 : callP (6, 22, 43, 0) := Or.inl ⟨rfl, lwi 579 (by decide +kernel) (by decide +kernel)⟩
theorem ca_54 : callP (7, 35, 49, 0) := Or.inl ⟨rfl, lwi 627 (by decide +kernel) (by decide +kernel)⟩
theorem ca_55 : callP (7, 48, 42, 0) := Or.inl ⟨rfl, lwi 632 (by decide +kernel) (by decide +kernel)⟩
theorem ca_56 : callP (7, 54, 41, 0) := Or.inl ⟨rfl, lwi 633 (by decide +kernel) (by decide +kernel)⟩
theorem ca_57 : callP (7, 58, 15, 0) := Or.inl ⟨rfl, lwi 634 (by decide +kernel) (by decide +kernel)⟩
theorem ca_58 : callP (7, 64, 50, 0) := Or.inl ⟨rfl, lwi 635 (by decide +kernel) (by decide +kernel)⟩
theorem ca_59 : callP (7, 71, 17, 0) := Or.inl ⟨rfl, lwi 631 (by decide +kernel) (by decide +kernel)⟩
theorem ca_60 : callP (7, 77, 44, 0) := Or.inl ⟨rfl, lwi 639 (by decide +kernel) (by decide +kernel)⟩
theorem ca_61 : callP (7, 81, 43, 0) := Or.inl ⟨rfl, lwi 640 (by decide +kernel) (by decide +kernel)⟩
theorem ca_62 : callP (7, 85, 18, 0) := Or.inl ⟨rfl, lwi 641 (by decide +kernel) (by decide +kernel)⟩
theorem ca_63 : callP (7, 88, 51, 0) := Or.inl ⟨rfl, lwi 642 (by decide +kernel) (by decide +kernel)⟩
theorem ca_64 : callP (7, 92, 16, 0) := Or.inl ⟨rfl, lwi 646 (by decide +kernel) (by decide +kernel)⟩
theorem ca_65 : callP (7, 95, 46, 0) := Or.inl ⟨rfl, lwi 660 (by decide +kernel) (by decide +kernel)⟩
theorem ca_66 : callP (7, 99, 54, 0) := Or.inl ⟨rfl, lwi 661 (by decide +kernel) (by decide +kernel)⟩
theorem ca_67 : callP (9, 17, 55, 0) := Or.inl ⟨rfl, lwi 47 (by decide +kernel) (by decide +kernel)⟩
theorem ca_68 : callP (9, 27, 24, 1) := Or.inr ⟨rfl, "PoleShop", List.mem_of_getElem? (i := 67) (by decide +kernel)⟩
theorem ca_69 : callP (9, 34, 19, 1) := Or.inr ⟨rfl, "PoleShop", List.mem_of_getElem? (i := 109) (by decide +kernel)⟩
theorem ca_70 : callP (9, 48, 34, 1) := Or.inr ⟨rfl, "PoleShop", List.mem_of_getElem? (i := 139) (by decide +kernel)⟩
theorem ca_71 : callP (9, 55, 0, 1) := Or.inr ⟨rfl, "PoleShop", List.mem_of_getElem? (i := 170) (by decide +kernel)⟩
theorem ca_72 : callP (9, 62, 47, 1) := Or.inr ⟨rfl, "PoleShop", List.mem_of_getElem? (i := 192) (by decide +kernel)⟩
theorem ca_73 : callP (9, 74, 83, 0) := Or.inl ⟨rfl, lwi 339 (by decide +kernel) (by decide +kernel)⟩
theorem ca_74 : callP (9, 82, 82, 0) := Or.inl ⟨rfl, lwi 363 (by decide +kernel) (by decide +kernel)⟩
theorem ca_75 : callP (9, 85, 85, 0) := Or.inl ⟨rfl, lwi 383 (by decide +kernel) (by decide +kernel)⟩
theorem ca_76 : callP (9, 89, 87, 0) := Or.inl ⟨rfl, lwi 391 (by decide +kernel) (by decide +kernel)⟩
theorem ca_77 : callP (9, 92, 25, 0) := Or.inl ⟨rfl, lwi 395 (by decide +kernel) (by decide +kernel)⟩
theorem ca_78 : callP (9, 96, 14, 0) := Or.inl ⟨rfl, lwi 399 (by decide +kernel) (by decide +kernel)⟩
theorem ca_79 : callP (9, 102, 26, 0) := Or.inl ⟨rfl, lwi 402 (by decide +kernel) (by decide +kernel)⟩
theorem ca_80 : callP (9, 114, 27, 0) := Or.inl ⟨rfl, lwi 411 (by decide +kernel) (by decide +kernel)⟩
theorem ca_81 : callP (9, 118, 28, 0) := Or.inl ⟨rfl, lwi 422 (by decide +kernel) (by decide +kernel)⟩
theorem ca_82 : callP (9, 124, 17, 0) := Or.inl ⟨rfl, lwi 433 (by decide +kernel) (by decide +kernel)⟩
theorem ca_83 : callP (9, 128, 15, 0) := Or.inl ⟨rfl, lwi 434 (by decide +kernel) (by decide +kernel)⟩
theorem ca_84 : callP (9, 133, 30, 0) := Or.inl ⟨rfl, lwi 436 (by decide +kernel) (by decide +kernel)⟩
theorem ca_85 : callP (9, 137, 84, 0) := Or.inl ⟨rfl, lwi 450 (by decide +kernel) (by decide +kernel)⟩
theorem ca_86 : callP (9, 144, 90, 0) := Or.inl ⟨rfl, lwi 470 (by decide +kernel) (by decide +kernel)⟩
theorem ca_87 : callP (9, 148, 31, 0) := Or.inl ⟨rfl, lwi 536 (by decide +kernel) (by decide +kernel)⟩
theorem ca_88 : callP (9, 154, 91, 0) := Or.inl ⟨rfl, lwi 545 (by decide +kernel) (by decide +kernel)⟩
theorem ca_89 : callP (9, 157, 32, 0) := Or.inl ⟨rfl, lwi 554 (by decide +kernel) (by decide +kernel)⟩
theorem ca_90 : callP (9, 166, 35, 0) := Or.inl ⟨rfl, lwi 567 (by decide +kernel) (by decide +kernel)⟩
theorem ca_91 : callP (9, 175, 20, 0) := Or.inl ⟨rfl, lwi 696 (by decide +kernel) (by decide +kernel)⟩
theorem ca_92 : callP (9, 179, 33, 0) := Or.inl ⟨rfl, lwi 549 (by decide +kernel) (by decide +kernel)⟩
theorem ca_93 : callP (9, 182, 88, 0) := Or.inl ⟨rfl, lwi 619 (by decide +kernel) (by decide +kernel)⟩
theorem ca_94 : callP (9, 186, 1, 0) := Or.inl ⟨rfl, lwi 669 (by decide +kernel) (by decide +kernel)⟩
theorem ca_95 : callP (9, 193, 2, 0) := Or.inl ⟨rfl, lwi 723 (by decide +kernel) (by decide +kernel)⟩
theorem ca_96 : callP (9, 197, 3, 0) := Or.inl ⟨rfl, lwi 737 (by decide +kernel) (by decide +kernel)⟩
theorem ca_97 : callP (9, 200, 86, 0) := Or.inl ⟨rfl, lwi 387 (by decide +kernel) (by decide +kernel)⟩
theorem ca_98 : callP (9, 203, 89, 0) := Or.inl ⟨rfl, lwi 474 (by decide +kernel) (by decide +kernel)⟩
theorem ca_99 : callP (9, 206, 22, 0) := Or.inl ⟨rfl, lwi 597 (by decide +kernel) (by decide +kernel)⟩
theorem ca_100 : callP (9, 212, 92, 0) := Or.inl ⟨rfl, lwi 615 (by decide +kernel) (by decide +kernel)⟩
theorem ca_101 : callP (9, 215, 52, 0) := Or.inl ⟨rfl, lwi 648 (by decide +kernel) (by decide +kernel)⟩
theorem ca_102 : callP (9, 218, 53, 0) := Or.inl ⟨rfl, lwi 656 (by decide +kernel) (by decide +kernel)⟩
theorem ca_103 : callP (9, 222, 38, 0) := Or.inl ⟨rfl, lwi 749 (by decide +kernel) (by decide +kernel)⟩
theorem ca_104 : callP (9, 225, 5, 0) := Or.inl ⟨rfl, lwi 766 (by decide +kernel) (by decide +kernel)⟩
theorem ca_105 : callP (9, 232, 56, 0) := Or.inl ⟨rfl, lwi 453 (by decide +kernel) (by decide +kernel)⟩
theorem ca_106 : callP (9, 238, 57, 0) := Or.inl ⟨rfl, lwi 458 (by decide +kernel) (by decide +kernel)⟩
theorem ca_107 : callP (9, 251, 21, 0) := Or.inl ⟨rfl, lwi 479 (by decide +kernel) (by decide +kernel)⟩
theorem ca_108 : callP (9, 257, 48, 0) := Or.inl ⟨rfl, lwi 623 (by decide +kernel) (by decide +kernel)⟩
theorem ca_109 : callP (11, 8, 59, 0) := Or.inl ⟨rfl, lwi 267 (by decide +kernel) (by decide +kernel)⟩
theorem ca_110 : callP (11, 14, 60, 0) := Or.inl ⟨rfl, lwi 359 (by decide +kernel) (by decide +kernel)⟩
theorem ca_111 : callP (11, 18, 61, 0) := Or.inl ⟨rfl, lwi 406 (by decide +kernel) (by decide +kernel)⟩
theorem ca_112 : callP (11, 22, 62, 0) := Or.inl ⟨rfl, lwi 429 (by decide +kernel) (by decide +kernel)⟩
theorem ca_113 : callP (11, 26, 63, 0) := Or.inl ⟨rfl, lwi 446 (by decide +kernel) (by decide +kernel)⟩
theorem ca_114 : callP (11, 29, 64, 0) := Or.inl ⟨rfl, lwi 462 (by decide +kernel) (by decide +kernel)⟩
theorem ca_115 : callP (11, 32, 66, 0) := Or.inl ⟨rfl, lwi 466 (by decide +kernel) (by decide +kernel)⟩
theorem ca_116 : callP (11, 35, 67, 0) := Or.inl ⟨rfl, lwi 540 (by decide +kernel) (by decide +kernel)⟩
theorem ca_117 : callP (11, 38, 68, 0) := Or.inl ⟨rfl, lwi 558 (by decide +kernel) (by decide +kernel)⟩
theorem ca_118 : callP (11, 42, 70, 0) := Or.inl ⟨rfl, lwi 562 (by decide +kernel) (by decide +kernel)⟩
theorem ca_119 : callP (11, 45, 75, 0) := Or.inl ⟨rfl, lwi 589 (by decide +kernel) (by decide +kernel)⟩
theorem ca_120 : callP (11, 48, 76, 0) := Or.inl ⟨rfl, lwi 593 (by decide +kernel) (by decide +kernel)⟩
theorem ca_121 : callP (11, 51, 77, 0) := Or.inl ⟨rfl, lwi 607 (by decide +kernel) (by decide +kernel)⟩
theorem ca_122 : callP (11, 54, 78, 0) := Or.inl ⟨rfl, lwi 611 (by decide +kernel) (by decide +kernel)⟩
theorem ca_123 : callP (11, 57, 79, 0) := Or.inl ⟨rfl, lwi 652 (by decide +kernel) (by decide +kernel)⟩
theorem ca_124 : callP (11, 60, 72, 0) := Or.inl ⟨rfl, lwi 665 (by decide +kernel) (by decide +kernel)⟩
theorem ca_125 : callP (11, 63, 69, 0) := Or.inl ⟨rfl, lwi 676 (by decide +kernel) (by decide +kernel)⟩
theorem ca_126 : callP (11, 72, 95, 0) := Or.inl ⟨rfl, lwi 706 (by decide +kernel) (by decide +kernel)⟩
theorem ca_127 : callP (11, 77, 96, 0) := Or.inl ⟨rfl, lwi 709 (by decide +kernel) (by decide +kernel)⟩
theorem ca_128 : callP (11, 81, 98, 0) := Or.inl ⟨rfl, lwi 703 (by decide +kernel) (by decide +kernel)⟩
theorem ca_129 : callP (11, 85, 102, 0) := Or.inl ⟨rfl, lwi 689 (by decide +kernel) (by decide +kernel)⟩
theorem ca_130 : callP (11, 89, 99, 0) := Or.inl ⟨rfl, lwi 700 (by decide +kernel) (by decide +kernel)⟩
theorem ca_131 : callP (11, 92, 104, 0) := Or.inl ⟨rfl, lwi 697 (by decide +kernel) (by decide +kernel)⟩
theorem ca_132 : callP (11, 96, 94, 0) := Or.inl ⟨rfl, lwi 261 (by decide +kernel) (by decide +kernel)⟩
theorem ca_133 : callP (11, 100, 101, 0) := Or.inl ⟨rfl, lwi 713 (by decide +kernel) (by decide +kernel)⟩
theorem ca_134 : callP (11, 103, 97, 0) := Or.inl ⟨rfl, lwi 683 (by decide +kernel) (by decide +kernel)⟩
theorem ca_135 : callP (11, 107, 103, 0) := Or.inl ⟨rfl, lwi 686 (by decide +kernel) (by decide +kernel)⟩
theorem ca_136 : callP (11, 111, 71, 0) := Or.inl ⟨rfl, lwi 692 (by decide +kernel) (by decide +kernel)⟩
theorem ca_137 : callP (11, 114, 100, 0) := Or.inl ⟨rfl, lwi 716 (by decide +kernel) (by decide +kernel)⟩
theorem ca_138 : callP (11, 118, 73, 0) := Or.inl ⟨rfl, lwi 719 (by decide +kernel) (by decide +kernel)⟩
theorem ca_139 : callP (11, 121, 74, 0) := Or.inl ⟨rfl, lwi 733 (by decide +kernel) (by decide +kernel)⟩
theorem ca_140 : callP (11, 124, 106, 0) := Or.inl ⟨rfl, lwi 742 (by decide +kernel) (by decide +kernel)⟩
theorem ca_141 : callP (11, 128, 80, 0) := Or.inl ⟨rfl, lwi 745 (by decide +kernel) (by decide +kernel)⟩
theorem ca_142 : callP (11, 131, 81, 0) := Or.inl ⟨rfl, lwi 762 (by decide +kernel) (by decide +kernel)⟩
theorem ca_143 : callP (11, 134, 105, 0) := Or.inl ⟨rfl, lwi 772 (by decide +kernel) (by decide +kernel)⟩
theorem ca_144 : callP (11, 138, 108, 0) := Or.inl ⟨rfl, lwi 778 (by decide +kernel) (by decide +kernel)⟩
theorem ca_145 : callP (11, 142, 65, 0) := Or.inl ⟨rfl, lwi 253 (by decide +kernel) (by decide +kernel)⟩
theorem ca_146 : callP (11, 146, 109, 0) := Or.inl ⟨rfl, lwi 781 (by decide +kernel) (by decide +kernel)⟩
theorem ca_147 : callP (11, 150, 58, 0) := Or.inl ⟨rfl, lwi 37 (by decide +kernel) (by decide +kernel)⟩
theorem ca_148 : callP (11, 151, 93, 0) := Or.inl ⟨rfl, lwi 257 (by decide +kernel) (by decide +kernel)⟩
theorem ca_149 : callP (11, 155, 110, 0) := Or.inl ⟨rfl, lwi 775 (by decide +kernel) (by decide +kernel)⟩
theorem ca_150 : callP (11, 159, 107, 0) := Or.inl ⟨rfl, lwi 680 (by decide +kernel) (by decide +kernel)⟩
def callT_0 : List (Nat × Nat × Nat × Nat) := [(0, 23, 6, 1), (0, 40, 45, 0), (0, 49, 41, 0), (0, 57, 42, 0), (0, 61, 46, 0), (0, 65, 4, 0), (0, 69, 17, 0), (0, 75, 15, 0), (0, 78, 1, 0), (0, 90, 7, 0), (0, 94, 8, 0), (1, 16, 45, 0), (1, 22, 10, 0), (1, 26, 11, 0), (1, 30, 12, 0), (1, 34, 13, 0), (1, 37, 18, 0), (1, 43, 17, 0), (1, 46, 16, 0), (3, 11, 6, 1), (3, 37, 45, 0), (3, 43, 7, 0), (3, 51, 42, 0), (3, 55, 8, 0)]
theorem callT_0_ok : ∀ q ∈ callT_0, callP q := List.forall_mem_cons.mpr ⟨ca_0, List.forall_mem_cons.mpr ⟨ca_1, List.forall_mem_cons.mpr ⟨ca_2, List.forall_mem_cons.mpr ⟨ca_3, List.forall_mem_cons.mpr ⟨ca_4, List.forall_mem_cons.mpr ⟨ca_5, List.forall_mem_cons.mpr ⟨ca_6, List.forall_mem_cons.mpr ⟨ca_7, List.forall_mem_cons.mpr ⟨ca_8, List.forall_mem_cons.mpr ⟨ca_9, List.forall_mem_cons.mpr ⟨ca_10, List.forall_mem_cons.mpr ⟨ca_11, List.forall_mem_cons.mpr ⟨ca_12, List.forall_mem_cons.mpr ⟨ca_13, List.forall_mem_cons.mpr ⟨ca_14, List.forall_mem_cons.mpr ⟨ca_15, List.forall_mem_cons.mpr ⟨ca_16, List.forall_mem_cons.mpr ⟨ca_17, List.forall_mem_cons.mpr ⟨ca_18, List.forall_mem_cons.mpr ⟨ca_19, List.forall_mem_cons.mpr ⟨ca_20, List.forall_mem_cons.mpr ⟨ca_21, List.forall_mem_cons.mpr ⟨ca_22, List.forall_mem_cons.mpr ⟨ca_23, fun _ h => absurd h List.not_mem_nil⟩⟩⟩⟩⟩⟩⟩⟩⟩⟩⟩⟩⟩⟩⟩⟩⟩⟩⟩⟩⟩⟩⟩⟩
def callT_1 : List (Nat × Nat × Nat × Nat) := [(3, 59, 20, 0), (3, 63, 9, 0), (3, 67, 43, 0), (3, 76, 17, 0), (3, 82, 16, 0), (3, 85, 23, 0), (3, 89, 15, 0), (3, 92, 46, 0), (4, 27, 29, 0), (4, 34, 17, 0), (4, 40, 15, 0), (4, 43, 18, 0), (4, 46, 16, 0), (5, 41, 46, 0), (5, 48, 42, 0), (5, 55, 41, 0), (5, 60, 44, 0), (5, 64, 36, 0), (5, 68, 16, 0), (5, 74, 18, 0), (5, 77, 37, 0), (5, 81, 15, 0), (5, 84, 45, 0), (5, 88, 40, 0)]
theorem callT_1_ok : ∀ q ∈ callT_1, callP q := List.forall_mem_cons.mpr ⟨ca_24, List.forall_mem_cons.mpr ⟨ca_25, List.forall_mem_cons.mpr ⟨ca_26, List.forall_mem_cons.mpr ⟨ca_27, List.forall_mem_cons.mpr ⟨ca_28, List.forall_mem_cons.mpr ⟨ca_29, List.forall_mem_cons.mpr ⟨ca_30, List.forall_mem_cons.mpr ⟨ca_31, List.forall_mem_cons.mpr ⟨ca_32, List.forall_mem_cons.mpr ⟨ca_33, List.forall_mem_cons.mpr ⟨ca_34, List.forall_mem_cons.mpr ⟨ca_35, List.forall_mem_cons.mpr ⟨ca_36, List.forall_mem_cons.mpr ⟨ca_37, List.forall_mem_cons.mpr ⟨ca_38, List.forall_mem_cons.mpr ⟨ca_39, List.forall_mem_cons.mpr ⟨ca_40, List.forall_mem_cons.mpr ⟨ca_41, List.forall_mem_cons.mpr ⟨ca_42, List.forall_mem_cons.mpr ⟨ca_43, List.forall_mem_cons.mpr ⟨ca_44, List.forall_mem_cons.mpr ⟨ca_45, List.forall_mem_cons.mpr ⟨ca_46, List.forall_mem_cons.mpr ⟨ca_47, fun _ h => absurd h List.not_mem_nil⟩⟩⟩⟩⟩⟩⟩⟩⟩⟩⟩⟩⟩⟩⟩⟩⟩⟩⟩⟩⟩⟩⟩⟩
def callT_2 : List (Nat × Nat × Nat × Nat) := [(5, 92, 39, 0), (5, 96, 17, 0), (6, 7, 17, 0), (6, 13, 15, 0), (6, 16, 41, 0), (6, 22, 43, 0), (7, 35, 49, 0), (7, 48, 42, 0), (7, 54, 41, 0), (7, 58, 15, 0), (7, 64, 50, 0), (7, 71, 17, 0), (7, 77, 44, 0), (7, 81, 43, 0), (7, 85, 18, 0), (7, 88, 51, 0), (7, 92, 16, 0), (7, 95, 46, 0), (7, 99, 54, 0), (9, 17, 55, 0), (9, 27, 24, 1), (9, 34, 19, 1), (9, 48, 34, 1), (9, 55, 0, 1)]
theorem callT_2_ok : ∀ q ∈ callT_2, callP q := List.forall_mem_cons.mpr ⟨ca_48, List.forall_mem_cons.mpr ⟨ca_49, List.forall_mem_cons.mpr ⟨ca_50, List.forall_mem_cons.mpr ⟨ca_51, List.forall_mem_cons.mpr ⟨ca_52, List.forall_mem_cons.mpr ⟨ca_53, List.forall_mem_cons.mpr ⟨ca_54, List.forall_mem_cons.mpr ⟨ca_55, List.forall_mem_cons.mpr ⟨ca_56, List.forall_mem_cons.mpr ⟨ca_57, List.forall_mem_cons.mpr ⟨ca_58, List.forall_mem_cons.mpr ⟨ca_59, List.forall_mem_cons.mpr ⟨ca_60, List.forall_mem_cons.mpr ⟨ca_61, List.forall_mem_cons.mpr ⟨ca_62, List.forall_mem_cons.mpr ⟨ca_63, List.forall_mem_cons.mpr ⟨ca_64, List.forall_mem_cons.mpr ⟨ca_65, List.forall_mem_cons.mpr ⟨ca_66, List.forall_mem_cons.mpr ⟨ca_67, List.forall_mem_cons.mpr ⟨ca_68, List.forall_mem_cons.mpr ⟨ca_69, List.forall_mem_cons.mpr ⟨ca_70, List.forall_mem_cons.mpr ⟨ca_71, fun _ h => absurd h List.not_mem_nil⟩⟩⟩⟩⟩⟩⟩⟩⟩⟩⟩⟩⟩⟩⟩⟩⟩⟩⟩⟩⟩⟩⟩⟩
def callT_3 : List (Nat × Nat × Nat × Nat) := [(9, 62, 47, 1), (9, 74, 83, 0), (9, 82, 82, 0), (9, 85, 85, 0), (9, 89, 87, 0), (9, 92, 25, 0), (9, 96, 14, 0), (9, 102, 26, 0), (9, 114, 27, 0), (9, 118, 28, 0), (9, 124, 17, 0), (9, 128, 15, 0), (9, 133, 30, 0), (9, 137, 84, 0), (9, 144, 90, 0), (9, 148, 31, 0), (9, 154, 91, 0), (9, 157, 32, 0), (9, 166, 35, 0), (9, 175, 20, 0), (9, 179, 33, 0), (9, 182, 88, 0), (9, 186, 1, 0), (9, 193, 2, 0)]
theorem callT_3_ok : ∀ q ∈ callT_3, callP q := List.forall_mem_cons.mpr ⟨ca_72, List.forall_mem_cons.mpr ⟨ca_73, List.forall_mem_cons.mpr ⟨ca_74, List.forall_mem_cons.mpr ⟨ca_75, List.forall_mem_cons.mpr ⟨ca_76, List.forall_mem_cons.mpr ⟨ca_77, List.forall_mem_cons.mpr ⟨ca_78, List.forall_mem_cons.mpr ⟨ca_79, List.forall_mem_cons.mpr ⟨ca_80, List.forall_mem_cons.mpr ⟨ca_81, List.forall_mem_cons.mpr ⟨ca_82, List.forall_mem_cons.mpr ⟨ca_83, List.forall_mem_cons.mpr ⟨ca_84, List.forall_mem_cons.mpr ⟨ca_85, List.forall_mem_cons.mpr ⟨ca_86, List.forall_mem_cons.mpr ⟨ca_87, List.forall_mem_cons.mpr ⟨ca_88, List.forall_mem_cons.mpr ⟨ca_89, List.forall_mem_cons.mpr ⟨ca_90, List.forall_mem_cons.mpr ⟨ca_91, List.forall_mem_cons.mpr ⟨ca_92, List.forall_mem_cons.mpr ⟨ca_93, List.forall_mem_cons.mpr ⟨ca_94, List.forall_mem_cons.mpr ⟨ca_95, fun _ h => absurd h List.not_mem_nil⟩⟩⟩⟩⟩⟩⟩⟩⟩⟩⟩⟩⟩⟩⟩⟩⟩⟩⟩⟩⟩⟩⟩⟩
def callT_4 : List (Nat × Nat × Nat × Nat) := [(9, 197, 3, 0), (9, 200, 86, 0), (9, 203, 89, 0), (9, 206, 22, 0), (9, 212, 92, 0), (9, 215, 52, 0), (9, 218, 53, 0), (9, 222, 38, 0), (9, 225, 5, 0), (9, 232, 56, 0), (9, 238, 57, 0), (9, 251, 21, 0), (9, 257, 48, 0), (11, 8, 59, 0), (11, 14, 60, 0), (11, 18, 61, 0), (11, 22, 62, 0), (11, 26, 63, 0), (11, 29, 64, 0), (11, 32, 66, 0), (11, 35, 67, 0), (11, 38, 68, 0), (11, 42, 70, 0), (11, 45, 75, 0)]
theorem callT_4_ok : ∀ q ∈ callT_4, callP q := List.forall_mem_cons.mpr ⟨ca_96, List.forall_mem_cons.mpr ⟨ca_97, List.forall_mem_cons.mpr ⟨ca_98, List.forall_mem_cons.mpr ⟨ca_99, List.forall_mem_cons.mpr ⟨ca_100, List.forall_mem_cons.mpr ⟨ca_101, List.forall_mem_cons.mpr ⟨ca_102, List.forall_mem_cons.mpr ⟨ca_103, List.forall_mem_cons.mpr ⟨ca_104, List.forall_mem_cons.mpr ⟨ca_105, List.forall_mem_cons.mpr ⟨ca_106, List.forall_mem_cons.mpr ⟨ca_107, List.forall_mem_cons.mpr ⟨ca_108, List.forall_mem_cons.mpr ⟨ca_109, List.forall_mem_cons.mpr ⟨ca_110, List.forall_mem_cons.mpr ⟨ca_111, List.forall_mem_cons.mpr ⟨ca_112, List.forall_mem_cons.mpr ⟨ca_113, List.forall_mem_cons.mpr ⟨ca_114, List.forall_mem_cons.mpr ⟨ca_115, List.forall_mem_cons.mpr ⟨ca_116, List.forall_mem_cons.mpr ⟨ca_117, List.forall_mem_cons.mpr ⟨ca_118, List.forall_mem_cons.mpr ⟨ca_119, fun _ h => absurd h List.not_mem_nil⟩⟩⟩⟩⟩⟩⟩⟩⟩⟩⟩⟩⟩⟩⟩⟩⟩⟩⟩⟩⟩⟩⟩⟩
def callT_5 : List (Nat × Nat × Nat × Nat) := [(11, 48, 76, 0), (11, 51, 77, 0), (11, 54, 78, 0), (11, 57, 79, 0), (11, 60, 72, 0), (11, 63, 69, 0), (11, 72, 95, 0), (11, 77, 96, 0), (11, 81, 98, 0), (11, 85, 102, 0), (11, 89, 99, 0), (11, 92, 104, 0), (11, 96, 94, 0), (11, 100, 101, 0), (11, 103, 97, 0), (11, 107, 103, 0), (11, 111, 71, 0), (11, 114, 100, 0), (11, 118, 73, 0), (11, 121, 74, 0), (11, 124, 106, 0), (11, 128, 80, 0), (11, 131, 81, 0), (11, 134, 105, 0)]
theorem callT_5_ok : ∀ q ∈ callT_5, callP q := List.forall_mem_cons.mpr ⟨ca_120, List.forall_mem_cons.mpr ⟨ca_121, List.forall_mem_cons.mpr ⟨ca_122, List.forall_mem_cons.mpr ⟨ca_123, List.forall_mem_cons.mpr ⟨ca_124, List.forall_mem_cons.mpr ⟨ca_125, List.forall_mem_cons.mpr ⟨ca_126, List.forall_mem_cons.mpr ⟨ca_127, List.forall_mem_cons.mpr ⟨ca_128, List.forall_mem_cons.mpr ⟨ca_129, List.forall_mem_cons.mpr ⟨ca_130, List.forall_mem_cons.mpr ⟨ca_131, List.forall_mem_cons.mpr ⟨ca_132, List.forall_mem_cons.mpr ⟨ca_133, List.forall_mem_cons.mpr ⟨ca_134, List.forall_mem_cons.mpr ⟨ca_135, List.forall_mem_cons.mpr ⟨ca_136, List.forall_mem_cons.mpr ⟨ca_137, List.forall_mem_cons.mpr ⟨ca_138, List.forall_mem_cons.mpr ⟨ca_139, List.forall_mem_cons.mpr ⟨ca_140, List.forall_mem_cons.mpr ⟨ca_141, List.forall_mem_cons.mpr ⟨ca_142, List.forall_mem_cons.mpr ⟨ca_143, fun _ h => absurd h List.not_mem_nil⟩⟩⟩⟩⟩⟩⟩⟩⟩⟩⟩⟩⟩⟩⟩⟩⟩⟩⟩⟩⟩⟩⟩⟩
def callT_6 : List (Nat × Nat × Nat × Nat) := [(11, 138, 108, 0), (11, 142, 65, 0), (11, 146, 109, 0), (11, 150, 58, 0), (11, 151, 93, 0), (11, 155, 110, 0), (11, 159, 107, 0)]
theorem callT_6_ok : ∀ q ∈ callT_6, callP q := List.forall_mem_cons.mpr ⟨ca_144, List.forall_mem_cons.mpr ⟨ca_145, List.forall_mem_cons.mpr ⟨ca_146, List.forall_mem_cons.mpr ⟨ca_147, List.forall_mem_cons.mpr ⟨ca_148, List.forall_mem_cons.mpr ⟨ca_149, List.forall_mem_cons.mpr ⟨ca_150, fun _ h => absurd h List.not_mem_nil⟩⟩⟩⟩⟩⟩⟩
def callT : List (Nat × Nat × Nat × Nat) := callT_0 ++ (callT_1 ++ (callT_2 ++ (callT_3 ++ (callT_4 ++ (callT_5 ++ (callT_6))))))
theorem callT_ok : ∀ q ∈ callT, callP q := List.forall_mem_append.mpr ⟨callT_0_ok, List.forall_mem_append.mpr ⟨callT_1_ok, List.forall_mem_append.mpr ⟨callT_2_ok, List.forall_mem_append.mpr ⟨callT_3_ok, List.forall_mem_append.mpr ⟨callT_4_ok, List.forall_mem_append.mpr ⟨callT_5_ok, callT_6_ok⟩⟩⟩⟩⟩⟩
def newP (q : Nat × Nat × Nat) : Prop := q.2.2 < 8 ∧ ∃ C T N, vwCl[q.2.2]? = some (C, T, N) ∧ Cond.classLink (cnm q.1) q.2.1 C ∈ lwg
theorem nw_0 : newP (0, 21, 1) := ⟨by decide, RX1, TX1, 1, rfl, lwi 174 (by decide +kernel) (by decide +kernel)⟩
theorem nw_1 : newP (3, 9, 1) := ⟨by decide, RX1, TX1, 1, rfl, lwi 113 (by decide +kernel) (by decide +kernel)⟩
theorem nw_2 : newP (9, 9, 3) := ⟨by decide, RX4, TX4, 5, rfl, lwi 43 (by decide +kernel) (by decide +kernel)⟩
theorem nw_3 : newP (9, 15, 6) := ⟨by decide, RX8, TX8, 3, rfl, lwi 45 (by decide +kernel) (by decide +kernel)⟩
theorem nw_4 : newP (9, 32, 2) := ⟨by decide, RX3, TX3, 4, rfl, lwi 107 (by decide +kernel) (by decide +kernel)⟩
theorem nw_5 : newP (9, 46, 4) := ⟨by decide, RX5, TX5, 7, rfl, lwi 137 (by decide +kernel) (by decide +kernel)⟩
theorem nw_6 : newP (9, 53, 0) := ⟨by decide, RX0, TX0, 4, rfl, lwi 168 (by decide +kernel) (by decide +kernel)⟩
theorem nw_7 : newP (9, 60, 5) := ⟨by decide, RX7, TX7, 7, rfl, lwi 190 (by decide +kernel) (by decide +kernel)⟩
theorem nw_8 : newP (11, 9, 7) := ⟨by decide, RX9, TX9, 11, rfl, lwi 35 (by decide +kernel) (by decide +kernel)⟩
def newT_0 : List (Nat × Nat × Nat) := [(0, 21, 1), (3, 9, 1), (9, 9, 3), (9, 15, 6), (9, 32, 2), (9, 46, 4), (9, 53, 0), (9, 60, 5), (11, 9, 7)]
theorem newT_0_ok : ∀ q ∈ newT_0, newP q := List.forall_mem_cons.mpr ⟨nw_0, List.forall_mem_cons.mpr ⟨nw_1, List.forall_mem_cons.mpr ⟨nw_2, List.forall_mem_cons.mpr ⟨nw_3, List.forall_mem_cons.mpr ⟨nw_4, List.forall_mem_cons.mpr ⟨nw_5, List.forall_mem_cons.mpr ⟨nw_6, List.forall_mem_cons.mpr ⟨nw_7, List.forall_mem_cons.mpr ⟨nw_8, fun _ h => absurd h List.not_mem_nil⟩⟩⟩⟩⟩⟩⟩⟩⟩
def newT : List (Nat × Nat × Nat) := newT_0
theorem newT_ok : ∀ q ∈ newT, newP q := newT_0_ok
def mnaP (q : Nat × Nat) : Prop := Cond.classLink (cnm q.1) q.2 "[[I" ∈ lwg
theorem mn_0 : mnaP (1, 9) := lwi 119 (by decide +kernel) (by decide +kernel)
theorem mn_1 : mnaP (4, 9) := lwi 71 (by decide +kernel) (by decide +kernel)
theorem mn_2 : mnaP (5, 18) := lwi 143 (by decide +kernel) (by decide +kernel)
theorem mn_3 : mnaP (7, 9) := lwi 196 (by decide +kernel) (by decide +kernel)
def mnaT_0 : List (Nat × Nat) := [(1, 9), (4, 9), (5, 18), (7, 9)]
theorem mnaT_0_ok : ∀ q ∈ mnaT_0, mnaP q := List.forall_mem_cons.mpr ⟨mn_0, List.forall_mem_cons.mpr ⟨mn_1, List.forall_mem_cons.mpr ⟨mn_2, List.forall_mem_cons.mpr ⟨mn_3, fun _ h => absurd h List.not_mem_nil⟩⟩⟩⟩
def mnaT : List (Nat × Nat) := mnaT_0
theorem mnaT_ok : ∀ q ∈ mnaT, mnaP q := mnaT_0_ok
def anaP (q : Nat × Nat) : Prop := Cond.classLink (cnm q.1) q.2 "PoleShop$Plant" ∈ lwg
theorem an_0 : anaP (9, 9) := lwi 43 (by decide +kernel) (by decide +kernel)
def anaT_0 : List (Nat × Nat) := [(9, 9)]
theorem anaT_0_ok : ∀ q ∈ anaT_0, anaP q := List.forall_mem_cons.mpr ⟨an_0, fun _ h => absurd h List.not_mem_nil⟩
def anaT : List (Nat × Nat) := anaT_0
theorem anaT_ok : ∀ q ∈ anaT, anaP q := anaT_0_ok
theorem w_ci : Cond.arrayClass .int ∈ lwg := lwi 65 (by decide +kernel) (by decide +kernel)
theorem w_oa : Cond.arrayOver (.array .int) ∈ lw_tbl := List.mem_of_getElem? (i := 72) (by decide +kernel)
theorem w_op : Cond.arrayOver (.object "PoleShop$Plant") ∈ lw_tbl := List.mem_of_getElem? (i := 44) (by decide +kernel)
def oiP (q : Nat × Nat) : Prop := Cond.methodLink (cnm q.1) q.2 objectInit ∈ lwg
theorem oi_0 : oiP (9, 1) := lwi 40 (by decide +kernel) (by decide +kernel)
theorem oi_1 : oiP (8, 3) := lwi 50 (by decide +kernel) (by decide +kernel)
theorem oi_2 : oiP (4, 3) := lwi 70 (by decide +kernel) (by decide +kernel)
theorem oi_3 : oiP (3, 3) := lwi 112 (by decide +kernel) (by decide +kernel)
theorem oi_4 : oiP (1, 3) := lwi 118 (by decide +kernel) (by decide +kernel)
theorem oi_5 : oiP (5, 3) := lwi 142 (by decide +kernel) (by decide +kernel)
theorem oi_6 : oiP (0, 3) := lwi 173 (by decide +kernel) (by decide +kernel)
theorem oi_7 : oiP (7, 3) := lwi 195 (by decide +kernel) (by decide +kernel)
def oiT_0 : List (Nat × Nat) := [(9, 1), (8, 3), (4, 3), (3, 3), (1, 3), (5, 3), (0, 3), (7, 3)]
theorem oiT_0_ok : ∀ q ∈ oiT_0, oiP q := List.forall_mem_cons.mpr ⟨oi_0, List.forall_mem_cons.mpr ⟨oi_1, List.forall_mem_cons.mpr ⟨oi_2, List.forall_mem_cons.mpr ⟨oi_3, List.forall_mem_cons.mpr ⟨oi_4, List.forall_mem_cons.mpr ⟨oi_5, List.forall_mem_cons.mpr ⟨oi_6, List.forall_mem_cons.mpr ⟨oi_7, fun _ h => absurd h List.not_mem_nil⟩⟩⟩⟩⟩⟩⟩⟩
def oiT : List (Nat × Nat) := oiT_0
theorem oiT_ok : ∀ q ∈ oiT, oiP q := oiT_0_ok
theorem w_oi : Cond.instanceMethod objectInit ∈ lwg := lwi 41 (by decide +kernel) (by decide +kernel)
theorem w_oc : Cond.code objectInit ⟨#[0xb1]⟩ 1 none ∈ lwg := lwi 42 (by decide +kernel) (by decide +kernel)
def exN : Nat → String := fun k => match k with
  | 0 => "java/lang/IndexOutOfBoundsException"
  | 1 => "java/lang/IllegalArgumentException"
  | 2 => "java/lang/IllegalStateException"
  | _ => ""
abbrev exS : List String := ["java/lang/RuntimeException", "java/lang/Exception"]
/-- class number, exception, its entry, its constructor's entry -/
def thkP (q : Nat × Nat × Nat × Nat) : Prop := Cond.classLink (cnm q.1) q.2.2.1 (exN q.2.1) ∈ lwg ∧ Cond.initialized (exN q.2.1) ∈ lwg ∧ Bundle.fit (exN q.2.1) = true ∧ (∀ w ∈ (vx_atS (cnm q.1) q.2.2.2 (exN q.2.1) exS).filter goodWord, w ∈ lwg) ∧ (∀ w ∈ Cond.classLink (cnm q.1) q.2.2.1 (exN q.2.1) :: Cond.initialized (exN q.2.1) :: vx_atS (cnm q.1) q.2.2.2 (exN q.2.1) exS, vx_ot w = true)
--THK
theorem thw_0 : ∀ w ∈ (vx_atS (cnm 9) 165 (exN 0) exS).filter goodWord, w ∈ lwg := fun w h => List.mem_filter.mpr ⟨(by decide +kernel : ∀ w ∈ (vx_atS (cnm 9) 165 (exN 0) exS).filter goodWord, w ∈ lw_tbl) w h, (List.mem_filter.mp h).2⟩
theorem thk_0 : thkP (9, 0, 161, 165) := ⟨lwi 367 (by decide +kernel) (by decide +kernel), lwi 32 (by decide +kernel) (by decide +kernel), by decide +kernel, thw_0, by decide +kernel⟩
theorem thw_1 : ∀ w ∈ (vx_atS (cnm 9) 71 (exN 1) exS).filter goodWord, w ∈ lwg := fun w h => List.mem_filter.mpr ⟨(by decide +kernel : ∀ w ∈ (vx_atS (cnm 9) 71 (exN 1) exS).filter goodWord, w ∈ lw_tbl) w h, (List.mem_filter.mp h).2⟩
theorem thk_1 : thkP (9, 1, 67, 71) := ⟨lwi 271 (by decide +kernel) (by decide +kernel), lwi 30 (by decide +kernel) (by decide +kernel), by decide +kernel, thw_1, by decide +kernel⟩
theorem thw_2 : ∀ w ∈ (vx_atS (cnm 9) 113 (exN 2) exS).filter goodWord, w ∈ lwg := fun w h => List.mem_filter.mpr ⟨(by decide +kernel : ∀ w ∈ (vx_atS (cnm 9) 113 (exN 2) exS).filter goodWord, w ∈ lw_tbl) w h, (List.mem_filter.mp h).2⟩
theorem thk_2 : thkP (9, 2, 109, 113) := ⟨lwi 343 (by decide +kernel) (by decide +kernel), lwi 31 (by decide +kernel) (by decide +kernel), by decide +kernel, thw_2, by decide +kernel⟩
def thkT_0 : List (Nat × Nat × Nat × Nat) := [(9, 0, 161, 165), (9, 1, 67, 71), (9, 2, 109, 113)]
theorem thkT_0_ok : ∀ q ∈ thkT_0, thkP q := List.forall_mem_cons.mpr ⟨thk_0, List.forall_mem_cons.mpr ⟨thk_1, List.forall_mem_cons.mpr ⟨thk_2, fun _ h => absurd h List.not_mem_nil⟩⟩⟩
def thkT : List (Nat × Nat × Nat × Nat) := thkT_0
theorem thkT_ok : ∀ q ∈ thkT, thkP q := thkT_0_ok
def strT : List (Nat × String) := [(69, "order is out of range"), (111, "the order would be above 8"), (131, "the loop has no solution"), (152, "the order is above 4, or d is not 0"), (163, "no such power"), (210, "the system cannot be steered"), (228, "no such system"), (230, "there are 12 systems"), (236, "no more can be typed"), (241, "a system has no such part"), (243, "no such place"), (245, "value is out of range"), (247, "argument is out of range"), (249, "there are too few poles"), (255, "the system cannot be seen"), (260, "an m is 0")]
def thrT : List (Nat × Nat × Nat × Nat × Nat) := [(9, 0, 161, 165, 163), (9, 0, 161, 165, 228), (9, 0, 161, 165, 241), (9, 0, 161, 165, 243), (9, 1, 67, 71, 69), (9, 1, 67, 71, 245), (9, 1, 67, 71, 247), (9, 2, 109, 113, 111), (9, 2, 109, 113, 131), (9, 2, 109, 113, 152), (9, 2, 109, 113, 210), (9, 2, 109, 113, 230), (9, 2, 109, 113, 236), (9, 2, 109, 113, 249), (9, 2, 109, 113, 255), (9, 2, 109, 113, 260)]
theorem thrT_ok : ∀ q ∈ thrT, (q.1, q.2.1, q.2.2.1, q.2.2.2.1) ∈ thkT ∧ (∃ tx, (q.2.2.2.2, tx) ∈ strT) ∧ cnm q.1 = RX9 := by
  intro q h
  simp only [thrT, List.mem_cons, List.not_mem_nil, or_false] at h
  rcases h with rfl | rfl | rfl | rfl | rfl | rfl | rfl | rfl | rfl | rfl | rfl | rfl | rfl | rfl | rfl | rfl
  · exact ⟨by decide +kernel, ⟨"no such power", by decide +kernel⟩, rfl⟩
  · exact ⟨by decide +kernel, ⟨"no such system", by decide +kernel⟩, rfl⟩
  · exact ⟨by decide +kernel, ⟨"a system has no such part", by decide +kernel⟩, rfl⟩
  · exact ⟨by decide +kernel, ⟨"no such place", by decide +kernel⟩, rfl⟩
  · exact ⟨by decide +kernel, ⟨"order is out of range", by decide +kernel⟩, rfl⟩
  · exact ⟨by decide +kernel, ⟨"value is out of range", by decide +kernel⟩, rfl⟩
  · exact ⟨by decide +kernel, ⟨"argument is out of range", by decide +kernel⟩, rfl⟩
  · exact ⟨by decide +kernel, ⟨"the order would be above 8", by decide +kernel⟩, rfl⟩
  · exact ⟨by decide +kernel, ⟨"the loop has no solution", by decide +kernel⟩, rfl⟩
  · exact ⟨by decide +kernel, ⟨"the order is above 4, or d is not 0", by decide +kernel⟩, rfl⟩
  · exact ⟨by decide +kernel, ⟨"the system cannot be steered", by decide +kernel⟩, rfl⟩
  · exact ⟨by decide +kernel, ⟨"there are 12 systems", by decide +kernel⟩, rfl⟩
  · exact ⟨by decide +kernel, ⟨"no more can be typed", by decide +kernel⟩, rfl⟩
  · exact ⟨by decide +kernel, ⟨"there are too few poles", by decide +kernel⟩, rfl⟩
  · exact ⟨by decide +kernel, ⟨"the system cannot be seen", by decide +kernel⟩, rfl⟩
  · exact ⟨by decide +kernel, ⟨"an m is 0", by decide +kernel⟩, rfl⟩
/-- the law's handlers: the entry of the class, the exception -/
def ctT : List (Nat × Nat) := [(66, 0), (68, 1), (70, 2)]
theorem ctT_ok : ∀ q ∈ ctT, Cond.classLink RL q.1 (exN q.2) ∈ lwg ∧ Cond.castable (exN q.2) (exN q.2) ∈ lw_tbl ∧ q.1 ≠ 0 := by
  intro q h
  simp only [ctT, List.mem_cons, List.not_mem_nil, or_false] at h
  rcases h with rfl | rfl | rfl
  · exact ⟨lwi 264 (by decide +kernel) (by decide +kernel), List.mem_of_getElem? (i := 369) (by decide +kernel), by decide⟩
  · exact ⟨lwi 265 (by decide +kernel) (by decide +kernel), List.mem_of_getElem? (i := 273) (by decide +kernel), by decide⟩
  · exact ⟨lwi 266 (by decide +kernel) (by decide +kernel), List.mem_of_getElem? (i := 345) (by decide +kernel), by decide⟩
end
section
/-! of each method: its words, and that its blocks are its code: written by a program -/
def rkf (r : Option FieldType) : Nat := match r with
  | none => 0
  | some .int => 1
  | some .boolean => 2
  | some _ => 3
def okE (cn kd rk : Nat) (q : Ent) : Bool := match q with
  | (.getfield ix, len, x, y, _) => len == 3 && fldT.contains (cn, ix, x, y)
  | (.putfield ix, len, x, y, z) => len == 3 && fldT.contains (cn, ix, x, y) && ftyT.contains (x, y, z) && (decide (z < 2) || (kd == 2 && cnciT.contains (cn, x)))
  | (.invokestatic ix, len, x, y, _) => len == 3 && callT.contains (cn, ix, x, 0) && m_kd x == 0 && m_na x == y && decide (x < mtN - 1)
  | (.invokevirtual ix, len, x, y, z) => len == 3 && callT.contains (cn, ix, x, 0) && m_kd x == 1 && m_na x == y && cnciT.contains (m_cn x, z) && decide (x < mtN - 1)
  | (.invokespecial ix, len, x, y, z) => len == 3 && ((x == 9999 && oiT.contains (cn, ix)) || x == 7777 || (callT.contains (cn, ix, x, z) && m_kd x == 2 && m_na x == y && decide (x < mtN - 1)))
  | (.new ix, len, x, _, _) => len == 3 && (if x < 9 then newT.contains (cn, ix, x) else true)
  | (.multianewarray ix n, len, _) => len == 4 && n == 2 && mnaT.contains (cn, ix)
  | (.anewarray ix, len, _) => len == 3 && anaT.contains (cn, ix)
  | (.ireturn, len, x, _, _) => len == 1 && ((rk == 1 && x == 0) || (rk == 2 && x == 1))
  | (.areturn, len, _) => len == 1 && rk == 3
  | (.return_, len, _) => len == 1 && rk == 0
  | (.iload _, len, _) | (.aload _, len, _) | (.istore _, len, _) | (.astore _, len, _) | (.bipush _, len, _) | (.newarray _, len, _) => len == 2
  | (.iinc _ _, len, _) | (.sipush _, len, _) | (.if_icmp _ _, len, _) | (.ifCond _ _, len, _) | (.goto _, len, _) => len == 3
  | (.tableswitch _ _ _ _, _, _) => true
  | (.ldc _, _, _) | (.ldc_w _, _, _) => true
  | (_, len, _) => len == 1
def okB (cc : ByteArray) (cn kd rk : Nat) : Nat → List Ent → Bool
  | _, [] => true
  | pc, q :: is => decide (decode cc pc = .ok (q.1, q.2.1)) && okE cn kd rk q && okB cc cn kd rk (pc + q.2.1) is
def m_cw (k : Nat) : Cond := match m_hh k with
  | [] => .code (m_y k) (m_b k) (m_L k) (m_ret k)
  | hh => .codeWith (m_y k) (m_b k) (m_L k) (m_ret k) hh
def blP (k : Nat) : Prop := ∀ q ∈ m_bl k, okB (m_b k) (m_cn k) (m_kd k) (rkf (m_ret k)) q.1 q.2 = true
def mP (k : Nat) : Prop := (plainName (m_y k).cls = true ∧ (m_y k).cls = cnm (m_cn k) ∧ ((m_y k).cls ≠ "java/lang/invoke/MethodHandle" ∧ (m_y k).cls ≠ "java/lang/invoke/VarHandle") ∧ (parseMethodDescriptor (m_y k).desc).map (fun d => d.parameters.length) = some (m_na k)) ∧ (m_cw k ∈ lwg ∧ Cond.initialized (m_y k).cls ∈ lwg) ∧
  (m_kd k = 0 → Cond.static (m_y k) ∈ lwg) ∧ (m_kd k = 1 → Cond.instanceMethod (m_y k) ∈ lwg ∧ Cond.selects (m_y k).cls (m_y k) (m_y k) ∈ lwg) ∧ (m_kd k = 2 → Cond.instanceMethod (m_y k) ∈ lwg ∧ (m_y k).name = "<init>" ∧ m_ret k = none) ∧ (m_L k ≤ 19 ∧ (m_hh k ≠ [] → m_kd k = 0)) ∧ blP k
theorem bl_0 : blP 0 := by unfold blP; decide +kernel
theorem mp_0 : mP 0 := ⟨⟨by decide +kernel, by decide +kernel, by decide +kernel, by decide +kernel⟩, ⟨lwi 172 (by decide +kernel) (by decide +kernel), lwi 25 (by decide +kernel) (by decide +kernel)⟩, fun h => absurd h (by decide), fun h => absurd h (by decide), fun _ => ⟨lwi 171 (by decide +kernel) (by decide +kernel), rfl, rfl⟩, ⟨by decide, by decide +kernel⟩, bl_0⟩
theorem bl_1 : blP 1 := by unfold blP; decide +kernel
theorem mp_1 : mP 1 := ⟨⟨by decide +kernel, by decide +kernel, by decide +kernel, by decide +kernel⟩, ⟨lwi 672 (by decide +kernel) (by decide +kernel), lwi 25 (by decide +kernel) (by decide +kernel)⟩, fun h => absurd h (by decide), fun _ => ⟨lwi 670 (by decide +kernel) (by decide +kernel), lwi 671 (by decide +kernel) (by decide +kernel)⟩, fun h => absurd h (by decide), ⟨by decide, by decide +kernel⟩, bl_1⟩
theorem bl_2 : blP 2 := by unfold blP; decide +kernel
theorem mp_2 : mP 2 := ⟨⟨by decide +kernel, by decide +kernel, by decide +kernel, by decide +kernel⟩, ⟨lwi 726 (by decide +kernel) (by decide +kernel), lwi 25 (by decide +kernel) (by decide +kernel)⟩, fun h => absurd h (by decide), fun _ => ⟨lwi 724 (by decide +kernel) (by decide +kernel), lwi 725 (by decide +kernel) (by decide +kernel)⟩, fun h => absurd h (by decide), ⟨by decide, by decide +kernel⟩, bl_2⟩
theorem bl_3 : blP 3 := by unfold blP; decide +kernel
theorem mp_3 : mP 3 := ⟨⟨by decide +kernel, by decide +kernel, by decide +kernel, by decide +kernel⟩, ⟨lwi 740 (by decide +kernel) (by decide +kernel), lwi 25 (by decide +kernel) (by decide +kernel)⟩, fun h => absurd h (by decide), fun _ => ⟨lwi 738 (by decide +kernel) (by decide +kernel), lwi 739 (by decide +kernel) (by decide +kernel)⟩, fun h => absurd h (by decide), ⟨by decide, by decide +kernel⟩, bl_3⟩
theorem bl_4 : blP 4 := by unfold blP; decide +kernel
theorem mp_4 : mP 4 := ⟨⟨by decide +kernel, by decide +kernel, by decide +kernel, by decide +kernel⟩, ⟨lwi 730 (by decide +kernel) (by decide +kernel), lwi 25 (by decide +kernel) (by decide +kernel)⟩, fun _ => lwi 729 (by decide +kernel) (by decide +kernel), fun h => absurd h (by decide), fun h => absurd h (by decide), ⟨by decide, by decide +kernel⟩, bl_4⟩
theorem bl_5 : blP 5 := by unfold blP; decide +kernel
theorem mp_5 : mP 5 := ⟨⟨by decide +kernel, by decide +kernel, by decide +kernel, by decide +kernel⟩, ⟨lwi 769 (by decide +kernel) (by decide +kernel), lwi 25 (by decide +kernel) (by decide +kernel)⟩, fun h => absurd h (by decide), fun _ => ⟨lwi 767 (by decide +kernel) (by decide +kernel), lwi 768 (by decide +kernel) (by decide +kernel)⟩, fun h => absurd h (by decide), ⟨by decide, by decide +kernel⟩, bl_5⟩
theorem bl_6 : blP 6 := by unfold blP; decide +kernel
theorem mp_6 : mP 6 := ⟨⟨by decide +kernel, by decide +kernel, by decide +kernel, by decide +kernel⟩, ⟨lwi 117 (by decide +kernel) (by decide +kernel), lwi 23 (by decide +kernel) (by decide +kernel)⟩, fun h => absurd h (by decide), fun h => absurd h (by decide), fun _ => ⟨lwi 116 (by decide +kernel) (by decide +kernel), rfl, rfl⟩, ⟨by decide, by decide +kernel⟩, bl_6⟩
theorem bl_7 : blP 7 := by unfold blP; decide +kernel
theorem mp_7 : mP 7 := ⟨⟨by decide +kernel, by decide +kernel, by decide +kernel, by decide +kernel⟩, ⟨lwi 493 (by decide +kernel) (by decide +kernel), lwi 23 (by decide +kernel) (by decide +kernel)⟩, fun h => absurd h (by decide), fun _ => ⟨lwi 491 (by decide +kernel) (by decide +kernel), lwi 492 (by decide +kernel) (by decide +kernel)⟩, fun h => absurd h (by decide), ⟨by decide, by decide +kernel⟩, bl_7⟩
theorem bl_8 : blP 8 := by unfold blP; decide +kernel
theorem mp_8 : mP 8 := ⟨⟨by decide +kernel, by decide +kernel, by decide +kernel, by decide +kernel⟩, ⟨lwi 506 (by decide +kernel) (by decide +kernel), lwi 23 (by decide +kernel) (by decide +kernel)⟩, fun h => absurd h (by decide), fun _ => ⟨lwi 504 (by decide +kernel) (by decide +kernel), lwi 505 (by decide +kernel) (by decide +kernel)⟩, fun h => absurd h (by decide), ⟨by decide, by decide +kernel⟩, bl_8⟩
theorem bl_9 : blP 9 := by unfold blP; decide +kernel
theorem mp_9 : mP 9 := ⟨⟨by decide +kernel, by decide +kernel, by decide +kernel, by decide +kernel⟩, ⟨lwi 529 (by decide +kernel) (by decide +kernel), lwi 23 (by decide +kernel) (by decide +kernel)⟩, fun h => absurd h (by decide), fun _ => ⟨lwi 527 (by decide +kernel) (by decide +kernel), lwi 528 (by decide +kernel) (by decide +kernel)⟩, fun h => absurd h (by decide), ⟨by decide, by decide +kernel⟩, bl_9⟩
theorem bl_10 : blP 10 := by unfold blP; decide +kernel
theorem mp_10 : mP 10 := ⟨⟨by decide +kernel, by decide +kernel, by decide +kernel, by decide +kernel⟩, ⟨lwi 510 (by decide +kernel) (by decide +kernel), lwi 23 (by decide +kernel) (by decide +kernel)⟩, fun h => absurd h (by decide), fun _ => ⟨lwi 509 (by decide +kernel) (by decide +kernel), lwi 6 (by decide +kernel) (by decide +kernel)⟩, fun h => absurd h (by decide), ⟨by decide, by decide +kernel⟩, bl_10⟩
theorem bl_11 : blP 11 := by unfold blP; decide +kernel
theorem mp_11 : mP 11 := ⟨⟨by decide +kernel, by decide +kernel, by decide +kernel, by decide +kernel⟩, ⟨lwi 514 (by decide +kernel) (by decide +kernel), lwi 23 (by decide +kernel) (by decide +kernel)⟩, fun h => absurd h (by decide), fun _ => ⟨lwi 513 (by decide +kernel) (by decide +kernel), lwi 7 (by decide +kernel) (by decide +kernel)⟩, fun h => absurd h (by decide), ⟨by decide, by decide +kernel⟩, bl_11⟩
theorem bl_12 : blP 12 := by unfold blP; decide +kernel
theorem mp_12 : mP 12 := ⟨⟨by decide +kernel, by decide +kernel, by decide +kernel, by decide +kernel⟩, ⟨lwi 518 (by decide +kernel) (by decide +kernel), lwi 23 (by decide +kernel) (by decide +kernel)⟩, fun h => absurd h (by decide), fun _ => ⟨lwi 517 (by decide +kernel) (by decide +kernel), lwi 8 (by decide +kernel) (by decide +kernel)⟩, fun h => absurd h (by decide), ⟨by decide, by decide +kernel⟩, bl_12⟩
theorem bl_13 : blP 13 := by unfold blP; decide +kernel
theorem mp_13 : mP 13 := ⟨⟨by decide +kernel, by decide +kernel, by decide +kernel, by decide +kernel⟩, ⟨lwi 524 (by decide +kernel) (by decide +kernel), lwi 23 (by decide +kernel) (by decide +kernel)⟩, fun h => absurd h (by decide), fun _ => ⟨lwi 523 (by decide +kernel) (by decide +kernel), lwi 9 (by decide +kernel) (by decide +kernel)⟩, fun h => absurd h (by decide), ⟨by decide, by decide +kernel⟩, bl_13⟩
theorem bl_14 : blP 14 := by unfold blP; decide +kernel
theorem mp_14 : mP 14 := ⟨⟨by decide +kernel, by decide +kernel, by decide +kernel, by decide +kernel⟩, ⟨lwi 401 (by decide +kernel) (by decide +kernel), lwi 33 (by decide +kernel) (by decide +kernel)⟩, fun _ => lwi 400 (by decide +kernel) (by decide +kernel), fun h => absurd h (by decide), fun h => absurd h (by decide), ⟨by decide, by decide +kernel⟩, bl_14⟩
theorem bl_15 : blP 15 := by unfold blP; decide +kernel
theorem mp_15 : mP 15 := ⟨⟨by decide +kernel, by decide +kernel, by decide +kernel, by decide +kernel⟩, ⟨lwi 428 (by decide +kernel) (by decide +kernel), lwi 33 (by decide +kernel) (by decide +kernel)⟩, fun _ => lwi 427 (by decide +kernel) (by decide +kernel), fun h => absurd h (by decide), fun h => absurd h (by decide), ⟨by decide, by decide +kernel⟩, bl_15⟩
theorem bl_16 : blP 16 := by unfold blP; decide +kernel
theorem mp_16 : mP 16 := ⟨⟨by decide +kernel, by decide +kernel, by decide +kernel, by decide +kernel⟩, ⟨lwi 445 (by decide +kernel) (by decide +kernel), lwi 33 (by decide +kernel) (by decide +kernel)⟩, fun _ => lwi 444 (by decide +kernel) (by decide +kernel), fun h => absurd h (by decide), fun h => absurd h (by decide), ⟨by decide, by decide +kernel⟩, bl_16⟩
theorem bl_17 : blP 17 := by unfold blP; decide +kernel
theorem mp_17 : mP 17 := ⟨⟨by decide +kernel, by decide +kernel, by decide +kernel, by decide +kernel⟩, ⟨lwi 421 (by decide +kernel) (by decide +kernel), lwi 33 (by decide +kernel) (by decide +kernel)⟩, fun _ => lwi 420 (by decide +kernel) (by decide +kernel), fun h => absurd h (by decide), fun h => absurd h (by decide), ⟨by decide, by decide +kernel⟩, bl_17⟩
theorem bl_18 : blP 18 := by unfold blP; decide +kernel
theorem mp_18 : mP 18 := ⟨⟨by decide +kernel, by decide +kernel, by decide +kernel, by decide +kernel⟩, ⟨lwi 442 (by decide +kernel) (by decide +kernel), lwi 33 (by decide +kernel) (by decide +kernel)⟩, fun _ => lwi 441 (by decide +kernel) (by decide +kernel), fun h => absurd h (by decide), fun h => absurd h (by decide), ⟨by decide, by decide +kernel⟩, bl_18⟩
theorem bl_19 : blP 19 := by unfold blP; decide +kernel
theorem mp_19 : mP 19 := ⟨⟨by decide +kernel, by decide +kernel, by decide +kernel, by decide +kernel⟩, ⟨lwi 111 (by decide +kernel) (by decide +kernel), lwi 22 (by decide +kernel) (by decide +kernel)⟩, fun h => absurd h (by decide), fun h => absurd h (by decide), fun _ => ⟨lwi 110 (by decide +kernel) (by decide +kernel), rfl, rfl⟩, ⟨by decide, by decide +kernel⟩, bl_19⟩
theorem bl_20 : blP 20 := by unfold blP; decide +kernel
theorem mp_20 : mP 20 := ⟨⟨by decide +kernel, by decide +kernel, by decide +kernel, by decide +kernel⟩, ⟨lwi 486 (by decide +kernel) (by decide +kernel), lwi 22 (by decide +kernel) (by decide +kernel)⟩, fun h => absurd h (by decide), fun _ => ⟨lwi 484 (by decide +kernel) (by decide +kernel), lwi 485 (by decide +kernel) (by decide +kernel)⟩, fun h => absurd h (by decide), ⟨by decide, by decide +kernel⟩, bl_20⟩
theorem bl_21 : blP 21 := by unfold blP; decide +kernel
theorem mp_21 : mP 21 := ⟨⟨by decide +kernel, by decide +kernel, by decide +kernel, by decide +kernel⟩, ⟨lwi 482 (by decide +kernel) (by decide +kernel), lwi 22 (by decide +kernel) (by decide +kernel)⟩, fun h => absurd h (by decide), fun _ => ⟨lwi 480 (by decide +kernel) (by decide +kernel), lwi 481 (by decide +kernel) (by decide +kernel)⟩, fun h => absurd h (by decide), ⟨by decide, by decide +kernel⟩, bl_21⟩
theorem bl_22 : blP 22 := by unfold blP; decide +kernel
theorem mp_22 : mP 22 := ⟨⟨by decide +kernel, by decide +kernel, by decide +kernel, by decide +kernel⟩, ⟨lwi 600 (by decide +kernel) (by decide +kernel), lwi 22 (by decide +kernel) (by decide +kernel)⟩, fun h => absurd h (by decide), fun _ => ⟨lwi 598 (by decide +kernel) (by decide +kernel), lwi 599 (by decide +kernel) (by decide +kernel)⟩, fun h => absurd h (by decide), ⟨by decide, by decide +kernel⟩, bl_22⟩
theorem bl_23 : blP 23 := by unfold blP; decide +kernel
theorem mp_23 : mP 23 := ⟨⟨by decide +kernel, by decide +kernel, by decide +kernel, by decide +kernel⟩, ⟨lwi 604 (by decide +kernel) (by decide +kernel), lwi 22 (by decide +kernel) (by decide +kernel)⟩, fun h => absurd h (by decide), fun _ => ⟨lwi 603 (by decide +kernel) (by decide +kernel), lwi 11 (by decide +kernel) (by decide +kernel)⟩, fun h => absurd h (by decide), ⟨by decide, by decide +kernel⟩, bl_23⟩
theorem bl_24 : blP 24 := by unfold blP; decide +kernel
theorem mp_24 : mP 24 := ⟨⟨by decide +kernel, by decide +kernel, by decide +kernel, by decide +kernel⟩, ⟨lwi 69 (by decide +kernel) (by decide +kernel), lwi 21 (by decide +kernel) (by decide +kernel)⟩, fun h => absurd h (by decide), fun h => absurd h (by decide), fun _ => ⟨lwi 68 (by decide +kernel) (by decide +kernel), rfl, rfl⟩, ⟨by decide, by decide +kernel⟩, bl_24⟩
theorem bl_25 : blP 25 := by unfold blP; decide +kernel
theorem mp_25 : mP 25 := ⟨⟨by decide +kernel, by decide +kernel, by decide +kernel, by decide +kernel⟩, ⟨lwi 398 (by decide +kernel) (by decide +kernel), lwi 21 (by decide +kernel) (by decide +kernel)⟩, fun h => absurd h (by decide), fun _ => ⟨lwi 396 (by decide +kernel) (by decide +kernel), lwi 397 (by decide +kernel) (by decide +kernel)⟩, fun h => absurd h (by decide), ⟨by decide, by decide +kernel⟩, bl_25⟩
theorem bl_26 : blP 26 := by unfold blP; decide +kernel
theorem mp_26 : mP 26 := ⟨⟨by decide +kernel, by decide +kernel, by decide +kernel, by decide +kernel⟩, ⟨lwi 405 (by decide +kernel) (by decide +kernel), lwi 21 (by decide +kernel) (by decide +kernel)⟩, fun h => absurd h (by decide), fun _ => ⟨lwi 403 (by decide +kernel) (by decide +kernel), lwi 404 (by decide +kernel) (by decide +kernel)⟩, fun h => absurd h (by decide), ⟨by decide, by decide +kernel⟩, bl_26⟩
theorem bl_27 : blP 27 := by unfold blP; decide +kernel
theorem mp_27 : mP 27 := ⟨⟨by decide +kernel, by decide +kernel, by decide +kernel, by decide +kernel⟩, ⟨lwi 414 (by decide +kernel) (by decide +kernel), lwi 21 (by decide +kernel) (by decide +kernel)⟩, fun h => absurd h (by decide), fun _ => ⟨lwi 412 (by decide +kernel) (by decide +kernel), lwi 413 (by decide +kernel) (by decide +kernel)⟩, fun h => absurd h (by decide), ⟨by decide, by decide +kernel⟩, bl_27⟩
theorem bl_28 : blP 28 := by unfold blP; decide +kernel
theorem mp_28 : mP 28 := ⟨⟨by decide +kernel, by decide +kernel, by decide +kernel, by decide +kernel⟩, ⟨lwi 425 (by decide +kernel) (by decide +kernel), lwi 21 (by decide +kernel) (by decide +kernel)⟩, fun h => absurd h (by decide), fun _ => ⟨lwi 423 (by decide +kernel) (by decide +kernel), lwi 424 (by decide +kernel) (by decide +kernel)⟩, fun h => absurd h (by decide), ⟨by decide, by decide +kernel⟩, bl_28⟩
theorem bl_29 : blP 29 := by unfold blP; decide +kernel
theorem mp_29 : mP 29 := ⟨⟨by decide +kernel, by decide +kernel, by decide +kernel, by decide +kernel⟩, ⟨lwi 418 (by decide +kernel) (by decide +kernel), lwi 21 (by decide +kernel) (by decide +kernel)⟩, fun h => absurd h (by decide), fun _ => ⟨lwi 417 (by decide +kernel) (by decide +kernel), lwi 3 (by decide +kernel) (by decide +kernel)⟩, fun h => absurd h (by decide), ⟨by decide, by decide +kernel⟩, bl_29⟩
theorem bl_30 : blP 30 := by unfold blP; decide +kernel
theorem mp_30 : mP 30 := ⟨⟨by decide +kernel, by decide +kernel, by decide +kernel, by decide +kernel⟩, ⟨lwi 439 (by decide +kernel) (by decide +kernel), lwi 21 (by decide +kernel) (by decide +kernel)⟩, fun h => absurd h (by decide), fun _ => ⟨lwi 437 (by decide +kernel) (by decide +kernel), lwi 438 (by decide +kernel) (by decide +kernel)⟩, fun h => absurd h (by decide), ⟨by decide, by decide +kernel⟩, bl_30⟩
theorem bl_31 : blP 31 := by unfold blP; decide +kernel
theorem mp_31 : mP 31 := ⟨⟨by decide +kernel, by decide +kernel, by decide +kernel, by decide +kernel⟩, ⟨lwi 539 (by decide +kernel) (by decide +kernel), lwi 21 (by decide +kernel) (by decide +kernel)⟩, fun h => absurd h (by decide), fun _ => ⟨lwi 537 (by decide +kernel) (by decide +kernel), lwi 538 (by decide +kernel) (by decide +kernel)⟩, fun h => absurd h (by decide), ⟨by decide, by decide +kernel⟩, bl_31⟩
theorem bl_32 : blP 32 := by unfold blP; decide +kernel
theorem mp_32 : mP 32 := ⟨⟨by decide +kernel, by decide +kernel, by decide +kernel, by decide +kernel⟩, ⟨lwi 557 (by decide +kernel) (by decide +kernel), lwi 21 (by decide +kernel) (by decide +kernel)⟩, fun h => absurd h (by decide), fun _ => ⟨lwi 555 (by decide +kernel) (by decide +kernel), lwi 556 (by decide +kernel) (by decide +kernel)⟩, fun h => absurd h (by decide), ⟨by decide, by decide +kernel⟩, bl_32⟩
theorem bl_33 : blP 33 := by unfold blP; decide +kernel
theorem mp_33 : mP 33 := ⟨⟨by decide +kernel, by decide +kernel, by decide +kernel, by decide +kernel⟩, ⟨lwi 552 (by decide +kernel) (by decide +kernel), lwi 21 (by decide +kernel) (by decide +kernel)⟩, fun h => absurd h (by decide), fun _ => ⟨lwi 550 (by decide +kernel) (by decide +kernel), lwi 551 (by decide +kernel) (by decide +kernel)⟩, fun h => absurd h (by decide), ⟨by decide, by decide +kernel⟩, bl_33⟩
theorem bl_34 : blP 34 := by unfold blP; decide +kernel
theorem mp_34 : mP 34 := ⟨⟨by decide +kernel, by decide +kernel, by decide +kernel, by decide +kernel⟩, ⟨lwi 141 (by decide +kernel) (by decide +kernel), lwi 24 (by decide +kernel) (by decide +kernel)⟩, fun h => absurd h (by decide), fun h => absurd h (by decide), fun _ => ⟨lwi 140 (by decide +kernel) (by decide +kernel), rfl, rfl⟩, ⟨by decide, by decide +kernel⟩, bl_34⟩
theorem bl_35 : blP 35 := by unfold blP; decide +kernel
theorem mp_35 : mP 35 := ⟨⟨by decide +kernel, by decide +kernel, by decide +kernel, by decide +kernel⟩, ⟨lwi 570 (by decide +kernel) (by decide +kernel), lwi 24 (by decide +kernel) (by decide +kernel)⟩, fun h => absurd h (by decide), fun _ => ⟨lwi 568 (by decide +kernel) (by decide +kernel), lwi 569 (by decide +kernel) (by decide +kernel)⟩, fun h => absurd h (by decide), ⟨by decide, by decide +kernel⟩, bl_35⟩
theorem bl_36 : blP 36 := by unfold blP; decide +kernel
theorem mp_36 : mP 36 := ⟨⟨by decide +kernel, by decide +kernel, by decide +kernel, by decide +kernel⟩, ⟨lwi 582 (by decide +kernel) (by decide +kernel), lwi 24 (by decide +kernel) (by decide +kernel)⟩, fun _ => lwi 581 (by decide +kernel) (by decide +kernel), fun h => absurd h (by decide), fun h => absurd h (by decide), ⟨by decide, by decide +kernel⟩, bl_36⟩
theorem bl_37 : blP 37 := by unfold blP; decide +kernel
theorem mp_37 : mP 37 := ⟨⟨by decide +kernel, by decide +kernel, by decide +kernel, by decide +kernel⟩, ⟨lwi 588 (by decide +kernel) (by decide +kernel), lwi 24 (by decide +kernel) (by decide +kernel)⟩, fun _ => lwi 587 (by decide +kernel) (by decide +kernel), fun h => absurd h (by decide), fun h => absurd h (by decide), ⟨by decide, by decide +kernel⟩, bl_37⟩
theorem bl_38 : blP 38 := by unfold blP; decide +kernel
theorem mp_38 : mP 38 := ⟨⟨by decide +kernel, by decide +kernel, by decide +kernel, by decide +kernel⟩, ⟨lwi 752 (by decide +kernel) (by decide +kernel), lwi 24 (by decide +kernel) (by decide +kernel)⟩, fun h => absurd h (by decide), fun _ => ⟨lwi 750 (by decide +kernel) (by decide +kernel), lwi 751 (by decide +kernel) (by decide +kernel)⟩, fun h => absurd h (by decide), ⟨by decide, by decide +kernel⟩, bl_38⟩
theorem bl_39 : blP 39 := by unfold blP; decide +kernel
theorem mp_39 : mP 39 := ⟨⟨by decide +kernel, by decide +kernel, by decide +kernel, by decide +kernel⟩, ⟨lwi 760 (by decide +kernel) (by decide +kernel), lwi 24 (by decide +kernel) (by decide +kernel)⟩, fun h => absurd h (by decide), fun _ => ⟨lwi 759 (by decide +kernel) (by decide +kernel), lwi 17 (by decide +kernel) (by decide +kernel)⟩, fun h => absurd h (by decide), ⟨by decide, by decide +kernel⟩, bl_39⟩
theorem bl_40 : blP 40 := by unfold blP; decide +kernel
theorem mp_40 : mP 40 := ⟨⟨by decide +kernel, by decide +kernel, by decide +kernel, by decide +kernel⟩, ⟨lwi 756 (by decide +kernel) (by decide +kernel), lwi 24 (by decide +kernel) (by decide +kernel)⟩, fun _ => lwi 755 (by decide +kernel) (by decide +kernel), fun h => absurd h (by decide), fun h => absurd h (by decide), ⟨by decide, by decide +kernel⟩, bl_40⟩
theorem bl_41 : blP 41 := by unfold blP; decide +kernel
theorem mp_41 : mP 41 := ⟨⟨by decide +kernel, by decide +kernel, by decide +kernel, by decide +kernel⟩, ⟨lwi 500 (by decide +kernel) (by decide +kernel), lwi 34 (by decide +kernel) (by decide +kernel)⟩, fun _ => lwi 499 (by decide +kernel) (by decide +kernel), fun h => absurd h (by decide), fun h => absurd h (by decide), ⟨by decide, by decide +kernel⟩, bl_41⟩
theorem bl_42 : blP 42 := by unfold blP; decide +kernel
theorem mp_42 : mP 42 := ⟨⟨by decide +kernel, by decide +kernel, by decide +kernel, by decide +kernel⟩, ⟨lwi 497 (by decide +kernel) (by decide +kernel), lwi 34 (by decide +kernel) (by decide +kernel)⟩, fun _ => lwi 496 (by decide +kernel) (by decide +kernel), fun h => absurd h (by decide), fun h => absurd h (by decide), ⟨by decide, by decide +kernel⟩, bl_42⟩
theorem bl_43 : blP 43 := by unfold blP; decide +kernel
theorem mp_43 : mP 43 := ⟨⟨by decide +kernel, by decide +kernel, by decide +kernel, by decide +kernel⟩, ⟨lwi 532 (by decide +kernel) (by decide +kernel), lwi 34 (by decide +kernel) (by decide +kernel)⟩, fun _ => lwi 531 (by decide +kernel) (by decide +kernel), fun h => absurd h (by decide), fun h => absurd h (by decide), ⟨by decide, by decide +kernel⟩, bl_43⟩
theorem bl_44 : blP 44 := by unfold blP; decide +kernel
theorem mp_44 : mP 44 := ⟨⟨by decide +kernel, by decide +kernel, by decide +kernel, by decide +kernel⟩, ⟨lwi 578 (by decide +kernel) (by decide +kernel), lwi 34 (by decide +kernel) (by decide +kernel)⟩, fun _ => lwi 577 (by decide +kernel) (by decide +kernel), fun h => absurd h (by decide), fun h => absurd h (by decide), ⟨by decide, by decide +kernel⟩, bl_44⟩
theorem bl_45 : blP 45 := by unfold blP; decide +kernel
theorem mp_45 : mP 45 := ⟨⟨by decide +kernel, by decide +kernel, by decide +kernel, by decide +kernel⟩, ⟨lwi 489 (by decide +kernel) (by decide +kernel), lwi 34 (by decide +kernel) (by decide +kernel)⟩, fun _ => lwi 488 (by decide +kernel) (by decide +kernel), fun h => absurd h (by decide), fun h => absurd h (by decide), ⟨by decide, by decide +kernel⟩, bl_45⟩
theorem bl_46 : blP 46 := by unfold blP; decide +kernel
theorem mp_46 : mP 46 := ⟨⟨by decide +kernel, by decide +kernel, by decide +kernel, by decide +kernel⟩, ⟨lwi 573 (by decide +kernel) (by decide +kernel), lwi 34 (by decide +kernel) (by decide +kernel)⟩, fun _ => lwi 572 (by decide +kernel) (by decide +kernel), fun h => absurd h (by decide), fun h => absurd h (by decide), ⟨by decide, by decide +kernel⟩, bl_46⟩
theorem bl_47 : blP 47 := by unfold blP; decide +kernel
theorem mp_47 : mP 47 := ⟨⟨by decide +kernel, by decide +kernel, by decide +kernel, by decide +kernel⟩, ⟨lwi 194 (by decide +kernel) (by decide +kernel), lwi 26 (by decide +kernel) (by decide +kernel)⟩, fun h => absurd h (by decide), fun h => absurd h (by decide), fun _ => ⟨lwi 193 (by decide +kernel) (by decide +kernel), rfl, rfl⟩, ⟨by decide, by decide +kernel⟩, bl_47⟩
theorem bl_48 : blP 48 := by unfold blP; decide +kernel
theorem mp_48 : mP 48 := ⟨⟨by decide +kernel, by decide +kernel, by decide +kernel, by decide +kernel⟩, ⟨lwi 626 (by decide +kernel) (by decide +kernel), lwi 26 (by decide +kernel) (by decide +kernel)⟩, fun h => absurd h (by decide), fun _ => ⟨lwi 624 (by decide +kernel) (by decide +kernel), lwi 625 (by decide +kernel) (by decide +kernel)⟩, fun h => absurd h (by decide), ⟨by decide, by decide +kernel⟩, bl_48⟩
theorem bl_49 : blP 49 := by unfold blP; decide +kernel
theorem mp_49 : mP 49 := ⟨⟨by decide +kernel, by decide +kernel, by decide +kernel, by decide +kernel⟩, ⟨lwi 630 (by decide +kernel) (by decide +kernel), lwi 26 (by decide +kernel) (by decide +kernel)⟩, fun h => absurd h (by decide), fun _ => ⟨lwi 629 (by decide +kernel) (by decide +kernel), lwi 13 (by decide +kernel) (by decide +kernel)⟩, fun h => absurd h (by decide), ⟨by decide, by decide +kernel⟩, bl_49⟩
end
section
theorem bl_50 : blP 50 := by unfold blP; decide +kernel
theorem mp_50 : mP 50 := ⟨⟨by decide +kernel, by decide +kernel, by decide +kernel, by decide +kernel⟩, ⟨lwi 638 (by decide +kernel) (by decide +kernel), lwi 26 (by decide +kernel) (by decide +kernel)⟩, fun h => absurd h (by decide), fun _ => ⟨lwi 637 (by decide +kernel) (by decide +kernel), lwi 14 (by decide +kernel) (by decide +kernel)⟩, fun h => absurd h (by decide), ⟨by decide, by decide +kernel⟩, bl_50⟩
theorem bl_51 : blP 51 := by unfold blP; decide +kernel
theorem mp_51 : mP 51 := ⟨⟨by decide +kernel, by decide +kernel, by decide +kernel, by decide +kernel⟩, ⟨lwi 645 (by decide +kernel) (by decide +kernel), lwi 26 (by decide +kernel) (by decide +kernel)⟩, fun h => absurd h (by decide), fun _ => ⟨lwi 644 (by decide +kernel) (by decide +kernel), lwi 15 (by decide +kernel) (by decide +kernel)⟩, fun h => absurd h (by decide), ⟨by decide, by decide +kernel⟩, bl_51⟩
theorem bl_52 : blP 52 := by unfold blP; decide +kernel
theorem mp_52 : mP 52 := ⟨⟨by decide +kernel, by decide +kernel, by decide +kernel, by decide +kernel⟩, ⟨lwi 651 (by decide +kernel) (by decide +kernel), lwi 26 (by decide +kernel) (by decide +kernel)⟩, fun h => absurd h (by decide), fun _ => ⟨lwi 649 (by decide +kernel) (by decide +kernel), lwi 650 (by decide +kernel) (by decide +kernel)⟩, fun h => absurd h (by decide), ⟨by decide, by decide +kernel⟩, bl_52⟩
theorem bl_53 : blP 53 := by unfold blP; decide +kernel
theorem mp_53 : mP 53 := ⟨⟨by decide +kernel, by decide +kernel, by decide +kernel, by decide +kernel⟩, ⟨lwi 659 (by decide +kernel) (by decide +kernel), lwi 26 (by decide +kernel) (by decide +kernel)⟩, fun h => absurd h (by decide), fun _ => ⟨lwi 657 (by decide +kernel) (by decide +kernel), lwi 658 (by decide +kernel) (by decide +kernel)⟩, fun h => absurd h (by decide), ⟨by decide, by decide +kernel⟩, bl_53⟩
theorem bl_54 : blP 54 := by unfold blP; decide +kernel
theorem mp_54 : mP 54 := ⟨⟨by decide +kernel, by decide +kernel, by decide +kernel, by decide +kernel⟩, ⟨lwi 664 (by decide +kernel) (by decide +kernel), lwi 26 (by decide +kernel) (by decide +kernel)⟩, fun h => absurd h (by decide), fun _ => ⟨lwi 663 (by decide +kernel) (by decide +kernel), lwi 16 (by decide +kernel) (by decide +kernel)⟩, fun h => absurd h (by decide), ⟨by decide, by decide +kernel⟩, bl_54⟩
theorem bl_55 : blP 55 := by unfold blP; decide +kernel
theorem mp_55 : mP 55 := ⟨⟨by decide +kernel, by decide +kernel, by decide +kernel, by decide +kernel⟩, ⟨lwi 49 (by decide +kernel) (by decide +kernel), lwi 20 (by decide +kernel) (by decide +kernel)⟩, fun h => absurd h (by decide), fun h => absurd h (by decide), fun _ => ⟨lwi 48 (by decide +kernel) (by decide +kernel), rfl, rfl⟩, ⟨by decide, by decide +kernel⟩, bl_55⟩
theorem bl_56 : blP 56 := by unfold blP; decide +kernel
theorem mp_56 : mP 56 := ⟨⟨by decide +kernel, by decide +kernel, by decide +kernel, by decide +kernel⟩, ⟨lwi 456 (by decide +kernel) (by decide +kernel), lwi 20 (by decide +kernel) (by decide +kernel)⟩, fun h => absurd h (by decide), fun _ => ⟨lwi 454 (by decide +kernel) (by decide +kernel), lwi 455 (by decide +kernel) (by decide +kernel)⟩, fun h => absurd h (by decide), ⟨by decide, by decide +kernel⟩, bl_56⟩
theorem bl_57 : blP 57 := by unfold blP; decide +kernel
theorem mp_57 : mP 57 := ⟨⟨by decide +kernel, by decide +kernel, by decide +kernel, by decide +kernel⟩, ⟨lwi 461 (by decide +kernel) (by decide +kernel), lwi 20 (by decide +kernel) (by decide +kernel)⟩, fun h => absurd h (by decide), fun _ => ⟨lwi 459 (by decide +kernel) (by decide +kernel), lwi 460 (by decide +kernel) (by decide +kernel)⟩, fun h => absurd h (by decide), ⟨by decide, by decide +kernel⟩, bl_57⟩
theorem bl_58 : blP 58 := by unfold blP; decide +kernel
theorem mp_58 : mP 58 := ⟨⟨by decide +kernel, by decide +kernel, by decide +kernel, by decide +kernel⟩, ⟨lwi 39 (by decide +kernel) (by decide +kernel), lwi 19 (by decide +kernel) (by decide +kernel)⟩, fun h => absurd h (by decide), fun h => absurd h (by decide), fun _ => ⟨lwi 38 (by decide +kernel) (by decide +kernel), rfl, rfl⟩, ⟨by decide, by decide +kernel⟩, bl_58⟩
theorem bl_59 : blP 59 := by unfold blP; decide +kernel
theorem mp_59 : mP 59 := ⟨⟨by decide +kernel, by decide +kernel, by decide +kernel, by decide +kernel⟩, ⟨lwi 270 (by decide +kernel) (by decide +kernel), lwi 19 (by decide +kernel) (by decide +kernel)⟩, fun h => absurd h (by decide), fun _ => ⟨lwi 268 (by decide +kernel) (by decide +kernel), lwi 269 (by decide +kernel) (by decide +kernel)⟩, fun h => absurd h (by decide), ⟨by decide, by decide +kernel⟩, bl_59⟩
theorem bl_60 : blP 60 := by unfold blP; decide +kernel
theorem mp_60 : mP 60 := ⟨⟨by decide +kernel, by decide +kernel, by decide +kernel, by decide +kernel⟩, ⟨lwi 362 (by decide +kernel) (by decide +kernel), lwi 19 (by decide +kernel) (by decide +kernel)⟩, fun h => absurd h (by decide), fun _ => ⟨lwi 360 (by decide +kernel) (by decide +kernel), lwi 361 (by decide +kernel) (by decide +kernel)⟩, fun h => absurd h (by decide), ⟨by decide, by decide +kernel⟩, bl_60⟩
theorem bl_61 : blP 61 := by unfold blP; decide +kernel
theorem mp_61 : mP 61 := ⟨⟨by decide +kernel, by decide +kernel, by decide +kernel, by decide +kernel⟩, ⟨lwi 409 (by decide +kernel) (by decide +kernel), lwi 19 (by decide +kernel) (by decide +kernel)⟩, fun h => absurd h (by decide), fun _ => ⟨lwi 407 (by decide +kernel) (by decide +kernel), lwi 408 (by decide +kernel) (by decide +kernel)⟩, fun h => absurd h (by decide), ⟨by decide, by decide +kernel⟩, bl_61⟩
theorem bl_62 : blP 62 := by unfold blP; decide +kernel
theorem mp_62 : mP 62 := ⟨⟨by decide +kernel, by decide +kernel, by decide +kernel, by decide +kernel⟩, ⟨lwi 432 (by decide +kernel) (by decide +kernel), lwi 19 (by decide +kernel) (by decide +kernel)⟩, fun h => absurd h (by decide), fun _ => ⟨lwi 430 (by decide +kernel) (by decide +kernel), lwi 431 (by decide +kernel) (by decide +kernel)⟩, fun h => absurd h (by decide), ⟨by decide, by decide +kernel⟩, bl_62⟩
theorem bl_63 : blP 63 := by unfold blP; decide +kernel
theorem mp_63 : mP 63 := ⟨⟨by decide +kernel, by decide +kernel, by decide +kernel, by decide +kernel⟩, ⟨lwi 449 (by decide +kernel) (by decide +kernel), lwi 19 (by decide +kernel) (by decide +kernel)⟩, fun h => absurd h (by decide), fun _ => ⟨lwi 447 (by decide +kernel) (by decide +kernel), lwi 448 (by decide +kernel) (by decide +kernel)⟩, fun h => absurd h (by decide), ⟨by decide, by decide +kernel⟩, bl_63⟩
theorem bl_64 : blP 64 := by unfold blP; decide +kernel
theorem mp_64 : mP 64 := ⟨⟨by decide +kernel, by decide +kernel, by decide +kernel, by decide +kernel⟩, ⟨lwi 465 (by decide +kernel) (by decide +kernel), lwi 19 (by decide +kernel) (by decide +kernel)⟩, fun h => absurd h (by decide), fun _ => ⟨lwi 463 (by decide +kernel) (by decide +kernel), lwi 464 (by decide +kernel) (by decide +kernel)⟩, fun h => absurd h (by decide), ⟨by decide, by decide +kernel⟩, bl_64⟩
theorem bl_65 : blP 65 := by unfold blP; decide +kernel
theorem mp_65 : mP 65 := ⟨⟨by decide +kernel, by decide +kernel, by decide +kernel, by decide +kernel⟩, ⟨lwi 256 (by decide +kernel) (by decide +kernel), lwi 19 (by decide +kernel) (by decide +kernel)⟩, fun h => absurd h (by decide), fun _ => ⟨lwi 254 (by decide +kernel) (by decide +kernel), lwi 255 (by decide +kernel) (by decide +kernel)⟩, fun h => absurd h (by decide), ⟨by decide, by decide +kernel⟩, bl_65⟩
theorem bl_66 : blP 66 := by unfold blP; decide +kernel
theorem mp_66 : mP 66 := ⟨⟨by decide +kernel, by decide +kernel, by decide +kernel, by decide +kernel⟩, ⟨lwi 469 (by decide +kernel) (by decide +kernel), lwi 19 (by decide +kernel) (by decide +kernel)⟩, fun h => absurd h (by decide), fun _ => ⟨lwi 467 (by decide +kernel) (by decide +kernel), lwi 468 (by decide +kernel) (by decide +kernel)⟩, fun h => absurd h (by decide), ⟨by decide, by decide +kernel⟩, bl_66⟩
theorem bl_67 : blP 67 := by unfold blP; decide +kernel
theorem mp_67 : mP 67 := ⟨⟨by decide +kernel, by decide +kernel, by decide +kernel, by decide +kernel⟩, ⟨lwi 543 (by decide +kernel) (by decide +kernel), lwi 19 (by decide +kernel) (by decide +kernel)⟩, fun h => absurd h (by decide), fun _ => ⟨lwi 541 (by decide +kernel) (by decide +kernel), lwi 542 (by decide +kernel) (by decide +kernel)⟩, fun h => absurd h (by decide), ⟨by decide, by decide +kernel⟩, bl_67⟩
theorem bl_68 : blP 68 := by unfold blP; decide +kernel
theorem mp_68 : mP 68 := ⟨⟨by decide +kernel, by decide +kernel, by decide +kernel, by decide +kernel⟩, ⟨lwi 561 (by decide +kernel) (by decide +kernel), lwi 19 (by decide +kernel) (by decide +kernel)⟩, fun h => absurd h (by decide), fun _ => ⟨lwi 559 (by decide +kernel) (by decide +kernel), lwi 560 (by decide +kernel) (by decide +kernel)⟩, fun h => absurd h (by decide), ⟨by decide, by decide +kernel⟩, bl_68⟩
theorem bl_69 : blP 69 := by unfold blP; decide +kernel
theorem mp_69 : mP 69 := ⟨⟨by decide +kernel, by decide +kernel, by decide +kernel, by decide +kernel⟩, ⟨lwi 679 (by decide +kernel) (by decide +kernel), lwi 19 (by decide +kernel) (by decide +kernel)⟩, fun h => absurd h (by decide), fun _ => ⟨lwi 677 (by decide +kernel) (by decide +kernel), lwi 678 (by decide +kernel) (by decide +kernel)⟩, fun h => absurd h (by decide), ⟨by decide, by decide +kernel⟩, bl_69⟩
theorem bl_70 : blP 70 := by unfold blP; decide +kernel
theorem mp_70 : mP 70 := ⟨⟨by decide +kernel, by decide +kernel, by decide +kernel, by decide +kernel⟩, ⟨lwi 565 (by decide +kernel) (by decide +kernel), lwi 19 (by decide +kernel) (by decide +kernel)⟩, fun h => absurd h (by decide), fun _ => ⟨lwi 563 (by decide +kernel) (by decide +kernel), lwi 564 (by decide +kernel) (by decide +kernel)⟩, fun h => absurd h (by decide), ⟨by decide, by decide +kernel⟩, bl_70⟩
theorem bl_71 : blP 71 := by unfold blP; decide +kernel
theorem mp_71 : mP 71 := ⟨⟨by decide +kernel, by decide +kernel, by decide +kernel, by decide +kernel⟩, ⟨lwi 695 (by decide +kernel) (by decide +kernel), lwi 19 (by decide +kernel) (by decide +kernel)⟩, fun h => absurd h (by decide), fun _ => ⟨lwi 693 (by decide +kernel) (by decide +kernel), lwi 694 (by decide +kernel) (by decide +kernel)⟩, fun h => absurd h (by decide), ⟨by decide, by decide +kernel⟩, bl_71⟩
theorem bl_72 : blP 72 := by unfold blP; decide +kernel
theorem mp_72 : mP 72 := ⟨⟨by decide +kernel, by decide +kernel, by decide +kernel, by decide +kernel⟩, ⟨lwi 668 (by decide +kernel) (by decide +kernel), lwi 19 (by decide +kernel) (by decide +kernel)⟩, fun h => absurd h (by decide), fun _ => ⟨lwi 666 (by decide +kernel) (by decide +kernel), lwi 667 (by decide +kernel) (by decide +kernel)⟩, fun h => absurd h (by decide), ⟨by decide, by decide +kernel⟩, bl_72⟩
theorem bl_73 : blP 73 := by unfold blP; decide +kernel
theorem mp_73 : mP 73 := ⟨⟨by decide +kernel, by decide +kernel, by decide +kernel, by decide +kernel⟩, ⟨lwi 722 (by decide +kernel) (by decide +kernel), lwi 19 (by decide +kernel) (by decide +kernel)⟩, fun h => absurd h (by decide), fun _ => ⟨lwi 720 (by decide +kernel) (by decide +kernel), lwi 721 (by decide +kernel) (by decide +kernel)⟩, fun h => absurd h (by decide), ⟨by decide, by decide +kernel⟩, bl_73⟩
theorem bl_74 : blP 74 := by unfold blP; decide +kernel
theorem mp_74 : mP 74 := ⟨⟨by decide +kernel, by decide +kernel, by decide +kernel, by decide +kernel⟩, ⟨lwi 736 (by decide +kernel) (by decide +kernel), lwi 19 (by decide +kernel) (by decide +kernel)⟩, fun h => absurd h (by decide), fun _ => ⟨lwi 734 (by decide +kernel) (by decide +kernel), lwi 735 (by decide +kernel) (by decide +kernel)⟩, fun h => absurd h (by decide), ⟨by decide, by decide +kernel⟩, bl_74⟩
theorem bl_75 : blP 75 := by unfold blP; decide +kernel
theorem mp_75 : mP 75 := ⟨⟨by decide +kernel, by decide +kernel, by decide +kernel, by decide +kernel⟩, ⟨lwi 592 (by decide +kernel) (by decide +kernel), lwi 19 (by decide +kernel) (by decide +kernel)⟩, fun h => absurd h (by decide), fun _ => ⟨lwi 590 (by decide +kernel) (by decide +kernel), lwi 591 (by decide +kernel) (by decide +kernel)⟩, fun h => absurd h (by decide), ⟨by decide, by decide +kernel⟩, bl_75⟩
theorem bl_76 : blP 76 := by unfold blP; decide +kernel
theorem mp_76 : mP 76 := ⟨⟨by decide +kernel, by decide +kernel, by decide +kernel, by decide +kernel⟩, ⟨lwi 596 (by decide +kernel) (by decide +kernel), lwi 19 (by decide +kernel) (by decide +kernel)⟩, fun h => absurd h (by decide), fun _ => ⟨lwi 594 (by decide +kernel) (by decide +kernel), lwi 595 (by decide +kernel) (by decide +kernel)⟩, fun h => absurd h (by decide), ⟨by decide, by decide +kernel⟩, bl_76⟩
theorem bl_77 : blP 77 := by unfold blP; decide +kernel
theorem mp_77 : mP 77 := ⟨⟨by decide +kernel, by decide +kernel, by decide +kernel, by decide +kernel⟩, ⟨lwi 610 (by decide +kernel) (by decide +kernel), lwi 19 (by decide +kernel) (by decide +kernel)⟩, fun h => absurd h (by decide), fun _ => ⟨lwi 608 (by decide +kernel) (by decide +kernel), lwi 609 (by decide +kernel) (by decide +kernel)⟩, fun h => absurd h (by decide), ⟨by decide, by decide +kernel⟩, bl_77⟩
theorem bl_78 : blP 78 := by unfold blP; decide +kernel
theorem mp_78 : mP 78 := ⟨⟨by decide +kernel, by decide +kernel, by decide +kernel, by decide +kernel⟩, ⟨lwi 614 (by decide +kernel) (by decide +kernel), lwi 19 (by decide +kernel) (by decide +kernel)⟩, fun h => absurd h (by decide), fun _ => ⟨lwi 612 (by decide +kernel) (by decide +kernel), lwi 613 (by decide +kernel) (by decide +kernel)⟩, fun h => absurd h (by decide), ⟨by decide, by decide +kernel⟩, bl_78⟩
theorem bl_79 : blP 79 := by unfold blP; decide +kernel
theorem mp_79 : mP 79 := ⟨⟨by decide +kernel, by decide +kernel, by decide +kernel, by decide +kernel⟩, ⟨lwi 655 (by decide +kernel) (by decide +kernel), lwi 19 (by decide +kernel) (by decide +kernel)⟩, fun h => absurd h (by decide), fun _ => ⟨lwi 653 (by decide +kernel) (by decide +kernel), lwi 654 (by decide +kernel) (by decide +kernel)⟩, fun h => absurd h (by decide), ⟨by decide, by decide +kernel⟩, bl_79⟩
theorem bl_80 : blP 80 := by unfold blP; decide +kernel
theorem mp_80 : mP 80 := ⟨⟨by decide +kernel, by decide +kernel, by decide +kernel, by decide +kernel⟩, ⟨lwi 748 (by decide +kernel) (by decide +kernel), lwi 19 (by decide +kernel) (by decide +kernel)⟩, fun h => absurd h (by decide), fun _ => ⟨lwi 746 (by decide +kernel) (by decide +kernel), lwi 747 (by decide +kernel) (by decide +kernel)⟩, fun h => absurd h (by decide), ⟨by decide, by decide +kernel⟩, bl_80⟩
theorem bl_81 : blP 81 := by unfold blP; decide +kernel
theorem mp_81 : mP 81 := ⟨⟨by decide +kernel, by decide +kernel, by decide +kernel, by decide +kernel⟩, ⟨lwi 765 (by decide +kernel) (by decide +kernel), lwi 19 (by decide +kernel) (by decide +kernel)⟩, fun h => absurd h (by decide), fun _ => ⟨lwi 763 (by decide +kernel) (by decide +kernel), lwi 764 (by decide +kernel) (by decide +kernel)⟩, fun h => absurd h (by decide), ⟨by decide, by decide +kernel⟩, bl_81⟩
theorem bl_82 : blP 82 := by unfold blP; decide +kernel
theorem mp_82 : mP 82 := ⟨⟨by decide +kernel, by decide +kernel, by decide +kernel, by decide +kernel⟩, ⟨lwi 366 (by decide +kernel) (by decide +kernel), lwi 19 (by decide +kernel) (by decide +kernel)⟩, fun h => absurd h (by decide), fun _ => ⟨lwi 365 (by decide +kernel) (by decide +kernel), lwi 2 (by decide +kernel) (by decide +kernel)⟩, fun h => absurd h (by decide), ⟨by decide, by decide +kernel⟩, bl_82⟩
theorem bl_83 : blP 83 := by unfold blP; decide +kernel
theorem mp_83 : mP 83 := ⟨⟨by decide +kernel, by decide +kernel, by decide +kernel, by decide +kernel⟩, ⟨lwi 342 (by decide +kernel) (by decide +kernel), lwi 19 (by decide +kernel) (by decide +kernel)⟩, fun h => absurd h (by decide), fun _ => ⟨lwi 341 (by decide +kernel) (by decide +kernel), lwi 1 (by decide +kernel) (by decide +kernel)⟩, fun h => absurd h (by decide), ⟨by decide, by decide +kernel⟩, bl_83⟩
theorem bl_84 : blP 84 := by unfold blP; decide +kernel
theorem mp_84 : mP 84 := ⟨⟨by decide +kernel, by decide +kernel, by decide +kernel, by decide +kernel⟩, ⟨lwi 452 (by decide +kernel) (by decide +kernel), lwi 19 (by decide +kernel) (by decide +kernel)⟩, fun _ => lwi 451 (by decide +kernel) (by decide +kernel), fun h => absurd h (by decide), fun h => absurd h (by decide), ⟨by decide, by decide +kernel⟩, bl_84⟩
theorem bl_85 : blP 85 := by unfold blP; decide +kernel
theorem mp_85 : mP 85 := ⟨⟨by decide +kernel, by decide +kernel, by decide +kernel, by decide +kernel⟩, ⟨lwi 385 (by decide +kernel) (by decide +kernel), lwi 19 (by decide +kernel) (by decide +kernel)⟩, fun _ => lwi 384 (by decide +kernel) (by decide +kernel), fun h => absurd h (by decide), fun h => absurd h (by decide), ⟨by decide, by decide +kernel⟩, bl_85⟩
theorem bl_86 : blP 86 := by unfold blP; decide +kernel
theorem mp_86 : mP 86 := ⟨⟨by decide +kernel, by decide +kernel, by decide +kernel, by decide +kernel⟩, ⟨lwi 389 (by decide +kernel) (by decide +kernel), lwi 19 (by decide +kernel) (by decide +kernel)⟩, fun _ => lwi 388 (by decide +kernel) (by decide +kernel), fun h => absurd h (by decide), fun h => absurd h (by decide), ⟨by decide, by decide +kernel⟩, bl_86⟩
theorem bl_87 : blP 87 := by unfold blP; decide +kernel
theorem mp_87 : mP 87 := ⟨⟨by decide +kernel, by decide +kernel, by decide +kernel, by decide +kernel⟩, ⟨lwi 393 (by decide +kernel) (by decide +kernel), lwi 19 (by decide +kernel) (by decide +kernel)⟩, fun _ => lwi 392 (by decide +kernel) (by decide +kernel), fun h => absurd h (by decide), fun h => absurd h (by decide), ⟨by decide, by decide +kernel⟩, bl_87⟩
theorem bl_88 : blP 88 := by unfold blP; decide +kernel
theorem mp_88 : mP 88 := ⟨⟨by decide +kernel, by decide +kernel, by decide +kernel, by decide +kernel⟩, ⟨lwi 621 (by decide +kernel) (by decide +kernel), lwi 19 (by decide +kernel) (by decide +kernel)⟩, fun _ => lwi 620 (by decide +kernel) (by decide +kernel), fun h => absurd h (by decide), fun h => absurd h (by decide), ⟨by decide, by decide +kernel⟩, bl_88⟩
theorem bl_89 : blP 89 := by unfold blP; decide +kernel
theorem mp_89 : mP 89 := ⟨⟨by decide +kernel, by decide +kernel, by decide +kernel, by decide +kernel⟩, ⟨lwi 477 (by decide +kernel) (by decide +kernel), lwi 19 (by decide +kernel) (by decide +kernel)⟩, fun h => absurd h (by decide), fun _ => ⟨lwi 476 (by decide +kernel) (by decide +kernel), lwi 5 (by decide +kernel) (by decide +kernel)⟩, fun h => absurd h (by decide), ⟨by decide, by decide +kernel⟩, bl_89⟩
theorem bl_90 : blP 90 := by unfold blP; decide +kernel
theorem mp_90 : mP 90 := ⟨⟨by decide +kernel, by decide +kernel, by decide +kernel, by decide +kernel⟩, ⟨lwi 473 (by decide +kernel) (by decide +kernel), lwi 19 (by decide +kernel) (by decide +kernel)⟩, fun h => absurd h (by decide), fun _ => ⟨lwi 472 (by decide +kernel) (by decide +kernel), lwi 4 (by decide +kernel) (by decide +kernel)⟩, fun h => absurd h (by decide), ⟨by decide, by decide +kernel⟩, bl_90⟩
theorem bl_91 : blP 91 := by unfold blP; decide +kernel
theorem mp_91 : mP 91 := ⟨⟨by decide +kernel, by decide +kernel, by decide +kernel, by decide +kernel⟩, ⟨lwi 548 (by decide +kernel) (by decide +kernel), lwi 19 (by decide +kernel) (by decide +kernel)⟩, fun h => absurd h (by decide), fun _ => ⟨lwi 547 (by decide +kernel) (by decide +kernel), lwi 10 (by decide +kernel) (by decide +kernel)⟩, fun h => absurd h (by decide), ⟨by decide, by decide +kernel⟩, bl_91⟩
theorem bl_92 : blP 92 := by unfold blP; decide +kernel
theorem mp_92 : mP 92 := ⟨⟨by decide +kernel, by decide +kernel, by decide +kernel, by decide +kernel⟩, ⟨lwi 618 (by decide +kernel) (by decide +kernel), lwi 19 (by decide +kernel) (by decide +kernel)⟩, fun h => absurd h (by decide), fun _ => ⟨lwi 617 (by decide +kernel) (by decide +kernel), lwi 12 (by decide +kernel) (by decide +kernel)⟩, fun h => absurd h (by decide), ⟨by decide, by decide +kernel⟩, bl_92⟩
end
section
theorem bl_93 : blP 93 := by unfold blP; decide +kernel
theorem mp_93 : mP 93 := ⟨⟨by decide +kernel, by decide +kernel, by decide +kernel, by decide +kernel⟩, ⟨lwi 259 (by decide +kernel) (by decide +kernel), lwi 18 (by decide +kernel) (by decide +kernel)⟩, fun _ => lwi 258 (by decide +kernel) (by decide +kernel), fun h => absurd h (by decide), fun h => absurd h (by decide), ⟨by decide, by decide +kernel⟩, bl_93⟩
theorem bw_94_0 : okB (m_b 94) (m_cn 94) (m_kd 94) (rkf (m_ret 94)) 0 s_L_does_0 = true := by decide +kernel
theorem bw_94_12 : okB (m_b 94) (m_cn 94) (m_kd 94) (rkf (m_ret 94)) 12 s_L_does_12 = true := by decide +kernel
theorem bw_94_32 : okB (m_b 94) (m_cn 94) (m_kd 94) (rkf (m_ret 94)) 32 s_L_does_32 = true := by decide +kernel
theorem bw_94_50 : okB (m_b 94) (m_cn 94) (m_kd 94) (rkf (m_ret 94)) 50 s_L_does_50 = true := by decide +kernel
theorem bw_94_51 : okB (m_b 94) (m_cn 94) (m_kd 94) (rkf (m_ret 94)) 51 s_L_does_51 = true := by decide +kernel
theorem bw_94_57 : okB (m_b 94) (m_cn 94) (m_kd 94) (rkf (m_ret 94)) 57 s_L_does_57 = true := by decide +kernel
theorem bw_94_71 : okB (m_b 94) (m_cn 94) (m_kd 94) (rkf (m_ret 94)) 71 s_L_does_71 = true := by decide +kernel
theorem bw_94_84 : okB (m_b 94) (m_cn 94) (m_kd 94) (rkf (m_ret 94)) 84 s_L_does_84 = true := by decide +kernel
theorem bw_94_97 : okB (m_b 94) (m_cn 94) (m_kd 94) (rkf (m_ret 94)) 97 s_L_does_97 = true := by decide +kernel
theorem bw_94_111 : okB (m_b 94) (m_cn 94) (m_kd 94) (rkf (m_ret 94)) 111 s_L_does_111 = true := by decide +kernel
theorem bw_94_125 : okB (m_b 94) (m_cn 94) (m_kd 94) (rkf (m_ret 94)) 125 s_L_does_125 = true := by decide +kernel
theorem bw_94_144 : okB (m_b 94) (m_cn 94) (m_kd 94) (rkf (m_ret 94)) 144 s_L_does_144 = true := by decide +kernel
theorem bw_94_163 : okB (m_b 94) (m_cn 94) (m_kd 94) (rkf (m_ret 94)) 163 s_L_does_163 = true := by decide +kernel
theorem bw_94_164 : okB (m_b 94) (m_cn 94) (m_kd 94) (rkf (m_ret 94)) 164 s_L_does_164 = true := by decide +kernel
theorem bw_94_170 : okB (m_b 94) (m_cn 94) (m_kd 94) (rkf (m_ret 94)) 170 s_L_does_170 = true := by decide +kernel
theorem bw_94_185 : okB (m_b 94) (m_cn 94) (m_kd 94) (rkf (m_ret 94)) 185 s_L_does_185 = true := by decide +kernel
theorem bw_94_200 : okB (m_b 94) (m_cn 94) (m_kd 94) (rkf (m_ret 94)) 200 s_L_does_200 = true := by decide +kernel
theorem bw_94_215 : okB (m_b 94) (m_cn 94) (m_kd 94) (rkf (m_ret 94)) 215 s_L_does_215 = true := by decide +kernel
theorem bw_94_234 : okB (m_b 94) (m_cn 94) (m_kd 94) (rkf (m_ret 94)) 234 s_L_does_234 = true := by decide +kernel
theorem bw_94_253 : okB (m_b 94) (m_cn 94) (m_kd 94) (rkf (m_ret 94)) 253 s_L_does_253 = true := by decide +kernel
theorem bw_94_268 : okB (m_b 94) (m_cn 94) (m_kd 94) (rkf (m_ret 94)) 268 s_L_does_268 = true := by decide +kernel
theorem bw_94_273 : okB (m_b 94) (m_cn 94) (m_kd 94) (rkf (m_ret 94)) 273 s_L_does_273 = true := by decide +kernel
theorem bw_94_274 : okB (m_b 94) (m_cn 94) (m_kd 94) (rkf (m_ret 94)) 274 s_L_does_274 = true := by decide +kernel
theorem bw_94_280 : okB (m_b 94) (m_cn 94) (m_kd 94) (rkf (m_ret 94)) 280 s_L_does_280 = true := by decide +kernel
theorem bw_94_286 : okB (m_b 94) (m_cn 94) (m_kd 94) (rkf (m_ret 94)) 286 s_L_does_286 = true := by decide +kernel
set_option maxRecDepth 100000 in
theorem bl_94 : blP 94 := by
  show ∀ q ∈ m_bl 94, okB (m_b 94) (m_cn 94) (m_kd 94) (rkf (m_ret 94)) q.1 q.2 = true
  exact List.forall_mem_cons.mpr ⟨bw_94_0, List.forall_mem_cons.mpr ⟨bw_94_12, List.forall_mem_cons.mpr ⟨bw_94_32, List.forall_mem_cons.mpr ⟨bw_94_50, List.forall_mem_cons.mpr ⟨bw_94_51, List.forall_mem_cons.mpr ⟨bw_94_57, List.forall_mem_cons.mpr ⟨bw_94_71, List.forall_mem_cons.mpr ⟨bw_94_84, List.forall_mem_cons.mpr ⟨bw_94_97, List.forall_mem_cons.mpr ⟨bw_94_111, List.forall_mem_cons.mpr ⟨bw_94_125, List.forall_mem_cons.mpr ⟨bw_94_144, List.forall_mem_cons.mpr ⟨bw_94_163, List.forall_mem_cons.mpr ⟨bw_94_164, List.forall_mem_cons.mpr ⟨bw_94_170, List.forall_mem_cons.mpr ⟨bw_94_185, List.forall_mem_cons.mpr ⟨bw_94_200, List.forall_mem_cons.mpr ⟨bw_94_215, List.forall_mem_cons.mpr ⟨bw_94_234, List.forall_mem_cons.mpr ⟨bw_94_253, List.forall_mem_cons.mpr ⟨bw_94_268, List.forall_mem_cons.mpr ⟨bw_94_273, List.forall_mem_cons.mpr ⟨bw_94_274, List.forall_mem_cons.mpr ⟨bw_94_280, List.forall_mem_cons.mpr ⟨bw_94_286, fun _ h => absurd h List.not_mem_nil⟩⟩⟩⟩⟩⟩⟩⟩⟩⟩⟩⟩⟩⟩⟩⟩⟩⟩⟩⟩⟩⟩⟩⟩⟩
theorem mp_94 : mP 94 := ⟨⟨by decide +kernel, by decide +kernel, by decide +kernel, by decide +kernel⟩, ⟨lwi 263 (by decide +kernel) (by decide +kernel), lwi 18 (by decide +kernel) (by decide +kernel)⟩, fun _ => lwi 262 (by decide +kernel) (by decide +kernel), fun h => absurd h (by decide), fun h => absurd h (by decide), ⟨by decide, by decide +kernel⟩, bl_94⟩
theorem bl_95 : blP 95 := by unfold blP; decide +kernel
theorem mp_95 : mP 95 := ⟨⟨by decide +kernel, by decide +kernel, by decide +kernel, by decide +kernel⟩, ⟨lwi 708 (by decide +kernel) (by decide +kernel), lwi 18 (by decide +kernel) (by decide +kernel)⟩, fun _ => lwi 707 (by decide +kernel) (by decide +kernel), fun h => absurd h (by decide), fun h => absurd h (by decide), ⟨by decide, by decide +kernel⟩, bl_95⟩
theorem bl_96 : blP 96 := by unfold blP; decide +kernel
theorem mp_96 : mP 96 := ⟨⟨by decide +kernel, by decide +kernel, by decide +kernel, by decide +kernel⟩, ⟨lwi 711 (by decide +kernel) (by decide +kernel), lwi 18 (by decide +kernel) (by decide +kernel)⟩, fun _ => lwi 710 (by decide +kernel) (by decide +kernel), fun h => absurd h (by decide), fun h => absurd h (by decide), ⟨by decide, by decide +kernel⟩, bl_96⟩
theorem bl_97 : blP 97 := by unfold blP; decide +kernel
theorem mp_97 : mP 97 := ⟨⟨by decide +kernel, by decide +kernel, by decide +kernel, by decide +kernel⟩, ⟨lwi 685 (by decide +kernel) (by decide +kernel), lwi 18 (by decide +kernel) (by decide +kernel)⟩, fun _ => lwi 684 (by decide +kernel) (by decide +kernel), fun h => absurd h (by decide), fun h => absurd h (by decide), ⟨by decide, by decide +kernel⟩, bl_97⟩
theorem bw_98_0 : okB (m_b 98) (m_cn 98) (m_kd 98) (rkf (m_ret 98)) 0 s_L_determinant_0 = true := by decide +kernel
theorem bw_98_7 : okB (m_b 98) (m_cn 98) (m_kd 98) (rkf (m_ret 98)) 7 s_L_determinant_7 = true := by decide +kernel
theorem bw_98_16 : okB (m_b 98) (m_cn 98) (m_kd 98) (rkf (m_ret 98)) 16 s_L_determinant_16 = true := by decide +kernel
theorem bw_98_41 : okB (m_b 98) (m_cn 98) (m_kd 98) (rkf (m_ret 98)) 41 s_L_determinant_41 = true := by decide +kernel
theorem bw_98_52 : okB (m_b 98) (m_cn 98) (m_kd 98) (rkf (m_ret 98)) 52 s_L_determinant_52 = true := by decide +kernel
theorem bw_98_55 : okB (m_b 98) (m_cn 98) (m_kd 98) (rkf (m_ret 98)) 55 s_L_determinant_55 = true := by decide +kernel
theorem bw_98_119 : okB (m_b 98) (m_cn 98) (m_kd 98) (rkf (m_ret 98)) 119 s_L_determinant_119 = true := by decide +kernel
theorem bw_98_154 : okB (m_b 98) (m_cn 98) (m_kd 98) (rkf (m_ret 98)) 154 s_L_determinant_154 = true := by decide +kernel
theorem bw_98_182 : okB (m_b 98) (m_cn 98) (m_kd 98) (rkf (m_ret 98)) 182 s_L_determinant_182 = true := by decide +kernel
theorem bw_98_234 : okB (m_b 98) (m_cn 98) (m_kd 98) (rkf (m_ret 98)) 234 s_L_determinant_234 = true := by decide +kernel
theorem bw_98_240 : okB (m_b 98) (m_cn 98) (m_kd 98) (rkf (m_ret 98)) 240 s_L_determinant_240 = true := by decide +kernel
theorem bw_98_243 : okB (m_b 98) (m_cn 98) (m_kd 98) (rkf (m_ret 98)) 243 s_L_determinant_243 = true := by decide +kernel
theorem bw_98_249 : okB (m_b 98) (m_cn 98) (m_kd 98) (rkf (m_ret 98)) 249 s_L_determinant_249 = true := by decide +kernel
theorem bw_98_258 : okB (m_b 98) (m_cn 98) (m_kd 98) (rkf (m_ret 98)) 258 s_L_determinant_258 = true := by decide +kernel
theorem bw_98_262 : okB (m_b 98) (m_cn 98) (m_kd 98) (rkf (m_ret 98)) 262 s_L_determinant_262 = true := by decide +kernel
set_option maxRecDepth 100000 in
theorem bl_98 : blP 98 := by
  show ∀ q ∈ m_bl 98, okB (m_b 98) (m_cn 98) (m_kd 98) (rkf (m_ret 98)) q.1 q.2 = true
  exact List.forall_mem_cons.mpr ⟨bw_98_0, List.forall_mem_cons.mpr ⟨bw_98_7, List.forall_mem_cons.mpr ⟨bw_98_16, List.forall_mem_cons.mpr ⟨bw_98_41, List.forall_mem_cons.mpr ⟨bw_98_52, List.forall_mem_cons.mpr ⟨bw_98_55, List.forall_mem_cons.mpr ⟨bw_98_119, List.forall_mem_cons.mpr ⟨bw_98_154, List.forall_mem_cons.mpr ⟨bw_98_182, List.forall_mem_cons.mpr ⟨bw_98_234, List.forall_mem_cons.mpr ⟨bw_98_240, List.forall_mem_cons.mpr ⟨bw_98_243, List.forall_mem_cons.mpr ⟨bw_98_249, List.forall_mem_cons.mpr ⟨bw_98_258, List.forall_mem_cons.mpr ⟨bw_98_262, fun _ h => absurd h List.not_mem_nil⟩⟩⟩⟩⟩⟩⟩⟩⟩⟩⟩⟩⟩⟩⟩
theorem mp_98 : mP 98 := ⟨⟨by decide +kernel, by decide +kernel, by decide +kernel, by decide +kernel⟩, ⟨lwi 705 (by decide +kernel) (by decide +kernel), lwi 18 (by decide +kernel) (by decide +kernel)⟩, fun _ => lwi 704 (by decide +kernel) (by decide +kernel), fun h => absurd h (by decide), fun h => absurd h (by decide), ⟨by decide, by decide +kernel⟩, bl_98⟩
theorem bl_99 : blP 99 := by unfold blP; decide +kernel
theorem mp_99 : mP 99 := ⟨⟨by decide +kernel, by decide +kernel, by decide +kernel, by decide +kernel⟩, ⟨lwi 702 (by decide +kernel) (by decide +kernel), lwi 18 (by decide +kernel) (by decide +kernel)⟩, fun _ => lwi 701 (by decide +kernel) (by decide +kernel), fun h => absurd h (by decide), fun h => absurd h (by decide), ⟨by decide, by decide +kernel⟩, bl_99⟩
theorem bl_100 : blP 100 := by unfold blP; decide +kernel
theorem mp_100 : mP 100 := ⟨⟨by decide +kernel, by decide +kernel, by decide +kernel, by decide +kernel⟩, ⟨lwi 718 (by decide +kernel) (by decide +kernel), lwi 18 (by decide +kernel) (by decide +kernel)⟩, fun _ => lwi 717 (by decide +kernel) (by decide +kernel), fun h => absurd h (by decide), fun h => absurd h (by decide), ⟨by decide, by decide +kernel⟩, bl_100⟩
theorem bl_101 : blP 101 := by unfold blP; decide +kernel
theorem mp_101 : mP 101 := ⟨⟨by decide +kernel, by decide +kernel, by decide +kernel, by decide +kernel⟩, ⟨lwi 715 (by decide +kernel) (by decide +kernel), lwi 18 (by decide +kernel) (by decide +kernel)⟩, fun _ => lwi 714 (by decide +kernel) (by decide +kernel), fun h => absurd h (by decide), fun h => absurd h (by decide), ⟨by decide, by decide +kernel⟩, bl_101⟩
theorem bl_102 : blP 102 := by unfold blP; decide +kernel
theorem mp_102 : mP 102 := ⟨⟨by decide +kernel, by decide +kernel, by decide +kernel, by decide +kernel⟩, ⟨lwi 691 (by decide +kernel) (by decide +kernel), lwi 18 (by decide +kernel) (by decide +kernel)⟩, fun _ => lwi 690 (by decide +kernel) (by decide +kernel), fun h => absurd h (by decide), fun h => absurd h (by decide), ⟨by decide, by decide +kernel⟩, bl_102⟩
theorem bl_103 : blP 103 := by unfold blP; decide +kernel
theorem mp_103 : mP 103 := ⟨⟨by decide +kernel, by decide +kernel, by decide +kernel, by decide +kernel⟩, ⟨lwi 688 (by decide +kernel) (by decide +kernel), lwi 18 (by decide +kernel) (by decide +kernel)⟩, fun _ => lwi 687 (by decide +kernel) (by decide +kernel), fun h => absurd h (by decide), fun h => absurd h (by decide), ⟨by decide, by decide +kernel⟩, bl_103⟩
theorem bl_104 : blP 104 := by unfold blP; decide +kernel
theorem mp_104 : mP 104 := ⟨⟨by decide +kernel, by decide +kernel, by decide +kernel, by decide +kernel⟩, ⟨lwi 699 (by decide +kernel) (by decide +kernel), lwi 18 (by decide +kernel) (by decide +kernel)⟩, fun _ => lwi 698 (by decide +kernel) (by decide +kernel), fun h => absurd h (by decide), fun h => absurd h (by decide), ⟨by decide, by decide +kernel⟩, bl_104⟩
end
section
theorem bw_105_0 : okB (m_b 105) (m_cn 105) (m_kd 105) (rkf (m_ret 105)) 0 s_L_areGains_0 = true := by decide +kernel
theorem bw_105_30 : okB (m_b 105) (m_cn 105) (m_kd 105) (rkf (m_ret 105)) 30 s_L_areGains_30 = true := by decide +kernel
theorem bw_105_31 : okB (m_b 105) (m_cn 105) (m_kd 105) (rkf (m_ret 105)) 31 s_L_areGains_31 = true := by decide +kernel
theorem bw_105_59 : okB (m_b 105) (m_cn 105) (m_kd 105) (rkf (m_ret 105)) 59 s_L_areGains_59 = true := by decide +kernel
theorem bw_105_60 : okB (m_b 105) (m_cn 105) (m_kd 105) (rkf (m_ret 105)) 60 s_L_areGains_60 = true := by decide +kernel
theorem bw_105_103 : okB (m_b 105) (m_cn 105) (m_kd 105) (rkf (m_ret 105)) 103 s_L_areGains_103 = true := by decide +kernel
theorem bw_105_104 : okB (m_b 105) (m_cn 105) (m_kd 105) (rkf (m_ret 105)) 104 s_L_areGains_104 = true := by decide +kernel
theorem bw_105_121 : okB (m_b 105) (m_cn 105) (m_kd 105) (rkf (m_ret 105)) 121 s_L_areGains_121 = true := by decide +kernel
theorem bw_105_239 : okB (m_b 105) (m_cn 105) (m_kd 105) (rkf (m_ret 105)) 239 s_L_areGains_239 = true := by decide +kernel
theorem bw_105_253 : okB (m_b 105) (m_cn 105) (m_kd 105) (rkf (m_ret 105)) 253 s_L_areGains_253 = true := by decide +kernel
theorem bw_105_269 : okB (m_b 105) (m_cn 105) (m_kd 105) (rkf (m_ret 105)) 269 s_L_areGains_269 = true := by decide +kernel
theorem bw_105_280 : okB (m_b 105) (m_cn 105) (m_kd 105) (rkf (m_ret 105)) 280 s_L_areGains_280 = true := by decide +kernel
theorem bw_105_284 : okB (m_b 105) (m_cn 105) (m_kd 105) (rkf (m_ret 105)) 284 s_L_areGains_284 = true := by decide +kernel
theorem bw_105_285 : okB (m_b 105) (m_cn 105) (m_kd 105) (rkf (m_ret 105)) 285 s_L_areGains_285 = true := by decide +kernel
theorem bw_105_293 : okB (m_b 105) (m_cn 105) (m_kd 105) (rkf (m_ret 105)) 293 s_L_areGains_293 = true := by decide +kernel
theorem bw_105_310 : okB (m_b 105) (m_cn 105) (m_kd 105) (rkf (m_ret 105)) 310 s_L_areGains_310 = true := by decide +kernel
theorem bw_105_331 : okB (m_b 105) (m_cn 105) (m_kd 105) (rkf (m_ret 105)) 331 s_L_areGains_331 = true := by decide +kernel
theorem bw_105_385 : okB (m_b 105) (m_cn 105) (m_kd 105) (rkf (m_ret 105)) 385 s_L_areGains_385 = true := by decide +kernel
theorem bw_105_404 : okB (m_b 105) (m_cn 105) (m_kd 105) (rkf (m_ret 105)) 404 s_L_areGains_404 = true := by decide +kernel
theorem bw_105_423 : okB (m_b 105) (m_cn 105) (m_kd 105) (rkf (m_ret 105)) 423 s_L_areGains_423 = true := by decide +kernel
theorem bw_105_427 : okB (m_b 105) (m_cn 105) (m_kd 105) (rkf (m_ret 105)) 427 s_L_areGains_427 = true := by decide +kernel
theorem bw_105_428 : okB (m_b 105) (m_cn 105) (m_kd 105) (rkf (m_ret 105)) 428 s_L_areGains_428 = true := by decide +kernel
theorem bw_105_436 : okB (m_b 105) (m_cn 105) (m_kd 105) (rkf (m_ret 105)) 436 s_L_areGains_436 = true := by decide +kernel
set_option maxRecDepth 100000 in
theorem bl_105 : blP 105 := by
  show ∀ q ∈ m_bl 105, okB (m_b 105) (m_cn 105) (m_kd 105) (rkf (m_ret 105)) q.1 q.2 = true
  exact List.forall_mem_cons.mpr ⟨bw_105_0, List.forall_mem_cons.mpr ⟨bw_105_30, List.forall_mem_cons.mpr ⟨bw_105_31, List.forall_mem_cons.mpr ⟨bw_105_59, List.forall_mem_cons.mpr ⟨bw_105_60, List.forall_mem_cons.mpr ⟨bw_105_103, List.forall_mem_cons.mpr ⟨bw_105_104, List.forall_mem_cons.mpr ⟨bw_105_121, List.forall_mem_cons.mpr ⟨bw_105_239, List.forall_mem_cons.mpr ⟨bw_105_253, List.forall_mem_cons.mpr ⟨bw_105_269, List.forall_mem_cons.mpr ⟨bw_105_280, List.forall_mem_cons.mpr ⟨bw_105_284, List.forall_mem_cons.mpr ⟨bw_105_285, List.forall_mem_cons.mpr ⟨bw_105_293, List.forall_mem_cons.mpr ⟨bw_105_310, List.forall_mem_cons.mpr ⟨bw_105_331, List.forall_mem_cons.mpr ⟨bw_105_385, List.forall_mem_cons.mpr ⟨bw_105_404, List.forall_mem_cons.mpr ⟨bw_105_423, List.forall_mem_cons.mpr ⟨bw_105_427, List.forall_mem_cons.mpr ⟨bw_105_428, List.forall_mem_cons.mpr ⟨bw_105_436, fun _ h => absurd h List.not_mem_nil⟩⟩⟩⟩⟩⟩⟩⟩⟩⟩⟩⟩⟩⟩⟩⟩⟩⟩⟩⟩⟩⟩⟩
theorem mp_105 : mP 105 := ⟨⟨by decide +kernel, by decide +kernel, by decide +kernel, by decide +kernel⟩, ⟨lwi 774 (by decide +kernel) (by decide +kernel), lwi 18 (by decide +kernel) (by decide +kernel)⟩, fun _ => lwi 773 (by decide +kernel) (by decide +kernel), fun h => absurd h (by decide), fun h => absurd h (by decide), ⟨by decide, by decide +kernel⟩, bl_105⟩
theorem bw_106_0 : okB (m_b 106) (m_cn 106) (m_kd 106) (rkf (m_ret 106)) 0 s_L_costs_0 = true := by decide +kernel
theorem bw_106_33 : okB (m_b 106) (m_cn 106) (m_kd 106) (rkf (m_ret 106)) 33 s_L_costs_33 = true := by decide +kernel
theorem bw_106_46 : okB (m_b 106) (m_cn 106) (m_kd 106) (rkf (m_ret 106)) 46 s_L_costs_46 = true := by decide +kernel
theorem bw_106_67 : okB (m_b 106) (m_cn 106) (m_kd 106) (rkf (m_ret 106)) 67 s_L_costs_67 = true := by decide +kernel
theorem bw_106_111 : okB (m_b 106) (m_cn 106) (m_kd 106) (rkf (m_ret 106)) 111 s_L_costs_111 = true := by decide +kernel
theorem bw_106_136 : okB (m_b 106) (m_cn 106) (m_kd 106) (rkf (m_ret 106)) 136 s_L_costs_136 = true := by decide +kernel
theorem bw_106_150 : okB (m_b 106) (m_cn 106) (m_kd 106) (rkf (m_ret 106)) 150 s_L_costs_150 = true := by decide +kernel
theorem bw_106_153 : okB (m_b 106) (m_cn 106) (m_kd 106) (rkf (m_ret 106)) 153 s_L_costs_153 = true := by decide +kernel
theorem bw_106_169 : okB (m_b 106) (m_cn 106) (m_kd 106) (rkf (m_ret 106)) 169 s_L_costs_169 = true := by decide +kernel
theorem bw_106_222 : okB (m_b 106) (m_cn 106) (m_kd 106) (rkf (m_ret 106)) 222 s_L_costs_222 = true := by decide +kernel
theorem bw_106_284 : okB (m_b 106) (m_cn 106) (m_kd 106) (rkf (m_ret 106)) 284 s_L_costs_284 = true := by decide +kernel
theorem bw_106_290 : okB (m_b 106) (m_cn 106) (m_kd 106) (rkf (m_ret 106)) 290 s_L_costs_290 = true := by decide +kernel
theorem bw_106_296 : okB (m_b 106) (m_cn 106) (m_kd 106) (rkf (m_ret 106)) 296 s_L_costs_296 = true := by decide +kernel
theorem bw_106_309 : okB (m_b 106) (m_cn 106) (m_kd 106) (rkf (m_ret 106)) 309 s_L_costs_309 = true := by decide +kernel
theorem bw_106_310 : okB (m_b 106) (m_cn 106) (m_kd 106) (rkf (m_ret 106)) 310 s_L_costs_310 = true := by decide +kernel
theorem bw_106_315 : okB (m_b 106) (m_cn 106) (m_kd 106) (rkf (m_ret 106)) 315 s_L_costs_315 = true := by decide +kernel
theorem bw_106_325 : okB (m_b 106) (m_cn 106) (m_kd 106) (rkf (m_ret 106)) 325 s_L_costs_325 = true := by decide +kernel
theorem bw_106_362 : okB (m_b 106) (m_cn 106) (m_kd 106) (rkf (m_ret 106)) 362 s_L_costs_362 = true := by decide +kernel
theorem bw_106_411 : okB (m_b 106) (m_cn 106) (m_kd 106) (rkf (m_ret 106)) 411 s_L_costs_411 = true := by decide +kernel
theorem bw_106_456 : okB (m_b 106) (m_cn 106) (m_kd 106) (rkf (m_ret 106)) 456 s_L_costs_456 = true := by decide +kernel
theorem bw_106_462 : okB (m_b 106) (m_cn 106) (m_kd 106) (rkf (m_ret 106)) 462 s_L_costs_462 = true := by decide +kernel
theorem bw_106_468 : okB (m_b 106) (m_cn 106) (m_kd 106) (rkf (m_ret 106)) 468 s_L_costs_468 = true := by decide +kernel
theorem bw_106_474 : okB (m_b 106) (m_cn 106) (m_kd 106) (rkf (m_ret 106)) 474 s_L_costs_474 = true := by decide +kernel
theorem bw_106_497 : okB (m_b 106) (m_cn 106) (m_kd 106) (rkf (m_ret 106)) 497 s_L_costs_497 = true := by decide +kernel
set_option maxRecDepth 100000 in
theorem bl_106 : blP 106 := by
  show ∀ q ∈ m_bl 106, okB (m_b 106) (m_cn 106) (m_kd 106) (rkf (m_ret 106)) q.1 q.2 = true
  exact List.forall_mem_cons.mpr ⟨bw_106_0, List.forall_mem_cons.mpr ⟨bw_106_33, List.forall_mem_cons.mpr ⟨bw_106_46, List.forall_mem_cons.mpr ⟨bw_106_67, List.forall_mem_cons.mpr ⟨bw_106_111, List.forall_mem_cons.mpr ⟨bw_106_136, List.forall_mem_cons.mpr ⟨bw_106_150, List.forall_mem_cons.mpr ⟨bw_106_153, List.forall_mem_cons.mpr ⟨bw_106_169, List.forall_mem_cons.mpr ⟨bw_106_222, List.forall_mem_cons.mpr ⟨bw_106_284, List.forall_mem_cons.mpr ⟨bw_106_290, List.forall_mem_cons.mpr ⟨bw_106_296, List.forall_mem_cons.mpr ⟨bw_106_309, List.forall_mem_cons.mpr ⟨bw_106_310, List.forall_mem_cons.mpr ⟨bw_106_315, List.forall_mem_cons.mpr ⟨bw_106_325, List.forall_mem_cons.mpr ⟨bw_106_362, List.forall_mem_cons.mpr ⟨bw_106_411, List.forall_mem_cons.mpr ⟨bw_106_456, List.forall_mem_cons.mpr ⟨bw_106_462, List.forall_mem_cons.mpr ⟨bw_106_468, List.forall_mem_cons.mpr ⟨bw_106_474, List.forall_mem_cons.mpr ⟨bw_106_497, fun _ h => absurd h List.not_mem_nil⟩⟩⟩⟩⟩⟩⟩⟩⟩⟩⟩⟩⟩⟩⟩⟩⟩⟩⟩⟩⟩⟩⟩⟩
theorem mp_106 : mP 106 := ⟨⟨by decide +kernel, by decide +kernel, by decide +kernel, by decide +kernel⟩, ⟨lwi 744 (by decide +kernel) (by decide +kernel), lwi 18 (by decide +kernel) (by decide +kernel)⟩, fun _ => lwi 743 (by decide +kernel) (by decide +kernel), fun h => absurd h (by decide), fun h => absurd h (by decide), ⟨by decide, by decide +kernel⟩, bl_106⟩
end
section
theorem bw_107_0 : okB (m_b 107) (m_cn 107) (m_kd 107) (rkf (m_ret 107)) 0 s_L_isSo_0 = true := by decide +kernel
theorem bw_107_149 : okB (m_b 107) (m_cn 107) (m_kd 107) (rkf (m_ret 107)) 149 s_L_isSo_149 = true := by decide +kernel
theorem bw_107_150 : okB (m_b 107) (m_cn 107) (m_kd 107) (rkf (m_ret 107)) 150 s_L_isSo_150 = true := by decide +kernel
theorem bw_107_167 : okB (m_b 107) (m_cn 107) (m_kd 107) (rkf (m_ret 107)) 167 s_L_isSo_167 = true := by decide +kernel
theorem bw_107_249 : okB (m_b 107) (m_cn 107) (m_kd 107) (rkf (m_ret 107)) 249 s_L_isSo_249 = true := by decide +kernel
theorem bw_107_250 : okB (m_b 107) (m_cn 107) (m_kd 107) (rkf (m_ret 107)) 250 s_L_isSo_250 = true := by decide +kernel
theorem bw_107_258 : okB (m_b 107) (m_cn 107) (m_kd 107) (rkf (m_ret 107)) 258 s_L_isSo_258 = true := by decide +kernel
theorem bw_107_261 : okB (m_b 107) (m_cn 107) (m_kd 107) (rkf (m_ret 107)) 261 s_L_isSo_261 = true := by decide +kernel
theorem bw_107_331 : okB (m_b 107) (m_cn 107) (m_kd 107) (rkf (m_ret 107)) 331 s_L_isSo_331 = true := by decide +kernel
theorem bw_107_332 : okB (m_b 107) (m_cn 107) (m_kd 107) (rkf (m_ret 107)) 332 s_L_isSo_332 = true := by decide +kernel
theorem bw_107_340 : okB (m_b 107) (m_cn 107) (m_kd 107) (rkf (m_ret 107)) 340 s_L_isSo_340 = true := by decide +kernel
theorem bw_107_346 : okB (m_b 107) (m_cn 107) (m_kd 107) (rkf (m_ret 107)) 346 s_L_isSo_346 = true := by decide +kernel
theorem bw_107_364 : okB (m_b 107) (m_cn 107) (m_kd 107) (rkf (m_ret 107)) 364 s_L_isSo_364 = true := by decide +kernel
theorem bw_107_399 : okB (m_b 107) (m_cn 107) (m_kd 107) (rkf (m_ret 107)) 399 s_L_isSo_399 = true := by decide +kernel
theorem bw_107_400 : okB (m_b 107) (m_cn 107) (m_kd 107) (rkf (m_ret 107)) 400 s_L_isSo_400 = true := by decide +kernel
theorem bw_107_414 : okB (m_b 107) (m_cn 107) (m_kd 107) (rkf (m_ret 107)) 414 s_L_isSo_414 = true := by decide +kernel
theorem bw_107_463 : okB (m_b 107) (m_cn 107) (m_kd 107) (rkf (m_ret 107)) 463 s_L_isSo_463 = true := by decide +kernel
theorem bw_107_467 : okB (m_b 107) (m_cn 107) (m_kd 107) (rkf (m_ret 107)) 467 s_L_isSo_467 = true := by decide +kernel
theorem bw_107_468 : okB (m_b 107) (m_cn 107) (m_kd 107) (rkf (m_ret 107)) 468 s_L_isSo_468 = true := by decide +kernel
theorem bw_107_476 : okB (m_b 107) (m_cn 107) (m_kd 107) (rkf (m_ret 107)) 476 s_L_isSo_476 = true := by decide +kernel
theorem bw_107_485 : okB (m_b 107) (m_cn 107) (m_kd 107) (rkf (m_ret 107)) 485 s_L_isSo_485 = true := by decide +kernel
theorem bw_107_495 : okB (m_b 107) (m_cn 107) (m_kd 107) (rkf (m_ret 107)) 495 s_L_isSo_495 = true := by decide +kernel
theorem bw_107_529 : okB (m_b 107) (m_cn 107) (m_kd 107) (rkf (m_ret 107)) 529 s_L_isSo_529 = true := by decide +kernel
theorem bw_107_535 : okB (m_b 107) (m_cn 107) (m_kd 107) (rkf (m_ret 107)) 535 s_L_isSo_535 = true := by decide +kernel
theorem bw_107_555 : okB (m_b 107) (m_cn 107) (m_kd 107) (rkf (m_ret 107)) 555 s_L_isSo_555 = true := by decide +kernel
theorem bw_107_561 : okB (m_b 107) (m_cn 107) (m_kd 107) (rkf (m_ret 107)) 561 s_L_isSo_561 = true := by decide +kernel
theorem bw_107_574 : okB (m_b 107) (m_cn 107) (m_kd 107) (rkf (m_ret 107)) 574 s_L_isSo_574 = true := by decide +kernel
theorem bw_107_580 : okB (m_b 107) (m_cn 107) (m_kd 107) (rkf (m_ret 107)) 580 s_L_isSo_580 = true := by decide +kernel
theorem bw_107_692 : okB (m_b 107) (m_cn 107) (m_kd 107) (rkf (m_ret 107)) 692 s_L_isSo_692 = true := by decide +kernel
theorem bw_107_693 : okB (m_b 107) (m_cn 107) (m_kd 107) (rkf (m_ret 107)) 693 s_L_isSo_693 = true := by decide +kernel
set_option maxRecDepth 100000 in
theorem bl_107 : blP 107 := by
  show ∀ q ∈ m_bl 107, okB (m_b 107) (m_cn 107) (m_kd 107) (rkf (m_ret 107)) q.1 q.2 = true
  exact List.forall_mem_cons.mpr ⟨bw_107_0, List.forall_mem_cons.mpr ⟨bw_107_149, List.forall_mem_cons.mpr ⟨bw_107_150, List.forall_mem_cons.mpr ⟨bw_107_167, List.forall_mem_cons.mpr ⟨bw_107_249, List.forall_mem_cons.mpr ⟨bw_107_250, List.forall_mem_cons.mpr ⟨bw_107_258, List.forall_mem_cons.mpr ⟨bw_107_261, List.forall_mem_cons.mpr ⟨bw_107_331, List.forall_mem_cons.mpr ⟨bw_107_332, List.forall_mem_cons.mpr ⟨bw_107_340, List.forall_mem_cons.mpr ⟨bw_107_346, List.forall_mem_cons.mpr ⟨bw_107_364, List.forall_mem_cons.mpr ⟨bw_107_399, List.forall_mem_cons.mpr ⟨bw_107_400, List.forall_mem_cons.mpr ⟨bw_107_414, List.forall_mem_cons.mpr ⟨bw_107_463, List.forall_mem_cons.mpr ⟨bw_107_467, List.forall_mem_cons.mpr ⟨bw_107_468, List.forall_mem_cons.mpr ⟨bw_107_476, List.forall_mem_cons.mpr ⟨bw_107_485, List.forall_mem_cons.mpr ⟨bw_107_495, List.forall_mem_cons.mpr ⟨bw_107_529, List.forall_mem_cons.mpr ⟨bw_107_535, List.forall_mem_cons.mpr ⟨bw_107_555, List.forall_mem_cons.mpr ⟨bw_107_561, List.forall_mem_cons.mpr ⟨bw_107_574, List.forall_mem_cons.mpr ⟨bw_107_580, List.forall_mem_cons.mpr ⟨bw_107_692, List.forall_mem_cons.mpr ⟨bw_107_693, fun _ h => absurd h List.not_mem_nil⟩⟩⟩⟩⟩⟩⟩⟩⟩⟩⟩⟩⟩⟩⟩⟩⟩⟩⟩⟩⟩⟩⟩⟩⟩⟩⟩⟩⟩⟩
end
section
theorem lwc {k : Nat} (i : Nat) (hh : m_hh k = []) (h : (lw_tbl[i]?).any (fun w => match w with
  | .code y b L r => decide (y = m_y k) && (b.data.toList == (m_b k).data.toList) && decide (L = m_L k) && decide (r = m_ret k)
  | _ => false) = true) (g : goodWord (.code (m_y k) (m_b k) (m_L k) (m_ret k)) = true) : m_cw k ∈ lwg := by
  have e : m_cw k = .code (m_y k) (m_b k) (m_L k) (m_ret k) := by
    unfold m_cw
    rw [hh]
  rw [e]
  cases q : lw_tbl[i]? with
  | none => rw [q] at h; cases h
  | some w =>
    rw [q] at h
    refine List.mem_filter.mpr ⟨List.mem_of_getElem? (i := i) ?_, g⟩
    rw [q]
    simp only [Option.any_some] at h
    split at h
    · next y b L r =>
      simp only [Bool.and_eq_true, decide_eq_true_eq, beq_iff_eq] at h
      obtain ⟨⟨⟨h1, h2⟩, h3⟩, h4⟩ := h
      have h5 : b = m_b k := by
        cases b with
        | mk bd =>
          cases hb : m_b k with
          | mk kd =>
            rw [hb] at h2
            exact congrArg ByteArray.mk (Array.toList_inj.mp h2)
      rw [h1, h5, h3, h4]
    · cases h
theorem mp_107 : mP 107 := ⟨⟨by decide +kernel, by decide +kernel, by decide +kernel, by decide +kernel⟩, ⟨lwc 682 rfl (by decide +kernel) (by decide +kernel), lwi 18 (by decide +kernel) (by decide +kernel)⟩, fun _ => lwi 681 (by decide +kernel) (by decide +kernel), fun h => absurd h (by decide), fun h => absurd h (by decide), ⟨by decide, by decide +kernel⟩, bl_107⟩
end
section
theorem bw_108_0 : okB (m_b 108) (m_cn 108) (m_kd 108) (rkf (m_ret 108)) 0 s_L_isMade_0 = true := by decide +kernel
theorem bw_108_128 : okB (m_b 108) (m_cn 108) (m_kd 108) (rkf (m_ret 108)) 128 s_L_isMade_128 = true := by decide +kernel
theorem bw_108_129 : okB (m_b 108) (m_cn 108) (m_kd 108) (rkf (m_ret 108)) 129 s_L_isMade_129 = true := by decide +kernel
theorem bw_108_134 : okB (m_b 108) (m_cn 108) (m_kd 108) (rkf (m_ret 108)) 134 s_L_isMade_134 = true := by decide +kernel
theorem bw_108_196 : okB (m_b 108) (m_cn 108) (m_kd 108) (rkf (m_ret 108)) 196 s_L_isMade_196 = true := by decide +kernel
theorem bw_108_197 : okB (m_b 108) (m_cn 108) (m_kd 108) (rkf (m_ret 108)) 197 s_L_isMade_197 = true := by decide +kernel
theorem bw_108_202 : okB (m_b 108) (m_cn 108) (m_kd 108) (rkf (m_ret 108)) 202 s_L_isMade_202 = true := by decide +kernel
theorem bw_108_282 : okB (m_b 108) (m_cn 108) (m_kd 108) (rkf (m_ret 108)) 282 s_L_isMade_282 = true := by decide +kernel
theorem bw_108_283 : okB (m_b 108) (m_cn 108) (m_kd 108) (rkf (m_ret 108)) 283 s_L_isMade_283 = true := by decide +kernel
theorem bw_108_291 : okB (m_b 108) (m_cn 108) (m_kd 108) (rkf (m_ret 108)) 291 s_L_isMade_291 = true := by decide +kernel
theorem bw_108_297 : okB (m_b 108) (m_cn 108) (m_kd 108) (rkf (m_ret 108)) 297 s_L_isMade_297 = true := by decide +kernel
theorem bw_108_300 : okB (m_b 108) (m_cn 108) (m_kd 108) (rkf (m_ret 108)) 300 s_L_isMade_300 = true := by decide +kernel
theorem bw_108_310 : okB (m_b 108) (m_cn 108) (m_kd 108) (rkf (m_ret 108)) 310 s_L_isMade_310 = true := by decide +kernel
theorem bw_108_311 : okB (m_b 108) (m_cn 108) (m_kd 108) (rkf (m_ret 108)) 311 s_L_isMade_311 = true := by decide +kernel
theorem bw_108_357 : okB (m_b 108) (m_cn 108) (m_kd 108) (rkf (m_ret 108)) 357 s_L_isMade_357 = true := by decide +kernel
theorem bw_108_372 : okB (m_b 108) (m_cn 108) (m_kd 108) (rkf (m_ret 108)) 372 s_L_isMade_372 = true := by decide +kernel
theorem bw_108_379 : okB (m_b 108) (m_cn 108) (m_kd 108) (rkf (m_ret 108)) 379 s_L_isMade_379 = true := by decide +kernel
theorem bw_108_380 : okB (m_b 108) (m_cn 108) (m_kd 108) (rkf (m_ret 108)) 380 s_L_isMade_380 = true := by decide +kernel
theorem bw_108_385 : okB (m_b 108) (m_cn 108) (m_kd 108) (rkf (m_ret 108)) 385 s_L_isMade_385 = true := by decide +kernel
theorem bw_108_406 : okB (m_b 108) (m_cn 108) (m_kd 108) (rkf (m_ret 108)) 406 s_L_isMade_406 = true := by decide +kernel
theorem bw_108_407 : okB (m_b 108) (m_cn 108) (m_kd 108) (rkf (m_ret 108)) 407 s_L_isMade_407 = true := by decide +kernel
theorem bw_108_432 : okB (m_b 108) (m_cn 108) (m_kd 108) (rkf (m_ret 108)) 432 s_L_isMade_432 = true := by decide +kernel
theorem bw_108_453 : okB (m_b 108) (m_cn 108) (m_kd 108) (rkf (m_ret 108)) 453 s_L_isMade_453 = true := by decide +kernel
theorem bw_108_454 : okB (m_b 108) (m_cn 108) (m_kd 108) (rkf (m_ret 108)) 454 s_L_isMade_454 = true := by decide +kernel
theorem bw_108_459 : okB (m_b 108) (m_cn 108) (m_kd 108) (rkf (m_ret 108)) 459 s_L_isMade_459 = true := by decide +kernel
theorem bw_108_496 : okB (m_b 108) (m_cn 108) (m_kd 108) (rkf (m_ret 108)) 496 s_L_isMade_496 = true := by decide +kernel
theorem bw_108_497 : okB (m_b 108) (m_cn 108) (m_kd 108) (rkf (m_ret 108)) 497 s_L_isMade_497 = true := by decide +kernel
theorem bw_108_505 : okB (m_b 108) (m_cn 108) (m_kd 108) (rkf (m_ret 108)) 505 s_L_isMade_505 = true := by decide +kernel
theorem bw_108_516 : okB (m_b 108) (m_cn 108) (m_kd 108) (rkf (m_ret 108)) 516 s_L_isMade_516 = true := by decide +kernel
theorem bw_108_523 : okB (m_b 108) (m_cn 108) (m_kd 108) (rkf (m_ret 108)) 523 s_L_isMade_523 = true := by decide +kernel
theorem bw_108_524 : okB (m_b 108) (m_cn 108) (m_kd 108) (rkf (m_ret 108)) 524 s_L_isMade_524 = true := by decide +kernel
theorem bw_108_529 : okB (m_b 108) (m_cn 108) (m_kd 108) (rkf (m_ret 108)) 529 s_L_isMade_529 = true := by decide +kernel
theorem bw_108_565 : okB (m_b 108) (m_cn 108) (m_kd 108) (rkf (m_ret 108)) 565 s_L_isMade_565 = true := by decide +kernel
theorem bw_108_569 : okB (m_b 108) (m_cn 108) (m_kd 108) (rkf (m_ret 108)) 569 s_L_isMade_569 = true := by decide +kernel
theorem bw_108_596 : okB (m_b 108) (m_cn 108) (m_kd 108) (rkf (m_ret 108)) 596 s_L_isMade_596 = true := by decide +kernel
theorem bw_108_625 : okB (m_b 108) (m_cn 108) (m_kd 108) (rkf (m_ret 108)) 625 s_L_isMade_625 = true := by decide +kernel
theorem bw_108_626 : okB (m_b 108) (m_cn 108) (m_kd 108) (rkf (m_ret 108)) 626 s_L_isMade_626 = true := by decide +kernel
theorem bw_108_653 : okB (m_b 108) (m_cn 108) (m_kd 108) (rkf (m_ret 108)) 653 s_L_isMade_653 = true := by decide +kernel
theorem bw_108_654 : okB (m_b 108) (m_cn 108) (m_kd 108) (rkf (m_ret 108)) 654 s_L_isMade_654 = true := by decide +kernel
theorem bw_108_662 : okB (m_b 108) (m_cn 108) (m_kd 108) (rkf (m_ret 108)) 662 s_L_isMade_662 = true := by decide +kernel
theorem bw_108_668 : okB (m_b 108) (m_cn 108) (m_kd 108) (rkf (m_ret 108)) 668 s_L_isMade_668 = true := by decide +kernel
set_option maxRecDepth 100000 in
theorem bl_108 : blP 108 := by
  show ∀ q ∈ m_bl 108, okB (m_b 108) (m_cn 108) (m_kd 108) (rkf (m_ret 108)) q.1 q.2 = true
  exact List.forall_mem_cons.mpr ⟨bw_108_0, List.forall_mem_cons.mpr ⟨bw_108_128, List.forall_mem_cons.mpr ⟨bw_108_129, List.forall_mem_cons.mpr ⟨bw_108_134, List.forall_mem_cons.mpr ⟨bw_108_196, List.forall_mem_cons.mpr ⟨bw_108_197, List.forall_mem_cons.mpr ⟨bw_108_202, List.forall_mem_cons.mpr ⟨bw_108_282, List.forall_mem_cons.mpr ⟨bw_108_283, List.forall_mem_cons.mpr ⟨bw_108_291, List.forall_mem_cons.mpr ⟨bw_108_297, List.forall_mem_cons.mpr ⟨bw_108_300, List.forall_mem_cons.mpr ⟨bw_108_310, List.forall_mem_cons.mpr ⟨bw_108_311, List.forall_mem_cons.mpr ⟨bw_108_357, List.forall_mem_cons.mpr ⟨bw_108_372, List.forall_mem_cons.mpr ⟨bw_108_379, List.forall_mem_cons.mpr ⟨bw_108_380, List.forall_mem_cons.mpr ⟨bw_108_385, List.forall_mem_cons.mpr ⟨bw_108_406, List.forall_mem_cons.mpr ⟨bw_108_407, List.forall_mem_cons.mpr ⟨bw_108_432, List.forall_mem_cons.mpr ⟨bw_108_453, List.forall_mem_cons.mpr ⟨bw_108_454, List.forall_mem_cons.mpr ⟨bw_108_459, List.forall_mem_cons.mpr ⟨bw_108_496, List.forall_mem_cons.mpr ⟨bw_108_497, List.forall_mem_cons.mpr ⟨bw_108_505, List.forall_mem_cons.mpr ⟨bw_108_516, List.forall_mem_cons.mpr ⟨bw_108_523, List.forall_mem_cons.mpr ⟨bw_108_524, List.forall_mem_cons.mpr ⟨bw_108_529, List.forall_mem_cons.mpr ⟨bw_108_565, List.forall_mem_cons.mpr ⟨bw_108_569, List.forall_mem_cons.mpr ⟨bw_108_596, List.forall_mem_cons.mpr ⟨bw_108_625, List.forall_mem_cons.mpr ⟨bw_108_626, List.forall_mem_cons.mpr ⟨bw_108_653, List.forall_mem_cons.mpr ⟨bw_108_654, List.forall_mem_cons.mpr ⟨bw_108_662, List.forall_mem_cons.mpr ⟨bw_108_668, fun _ h => absurd h List.not_mem_nil⟩⟩⟩⟩⟩⟩⟩⟩⟩⟩⟩⟩⟩⟩⟩⟩⟩⟩⟩⟩⟩⟩⟩⟩⟩⟩⟩⟩⟩⟩⟩⟩⟩⟩⟩⟩⟩⟩⟩⟩⟩
end
section
theorem mp_108 : mP 108 := ⟨⟨by decide +kernel, by decide +kernel, by decide +kernel, by decide +kernel⟩, ⟨lwc 780 rfl (by decide +kernel) (by decide +kernel), lwi 18 (by decide +kernel) (by decide +kernel)⟩, fun _ => lwi 779 (by decide +kernel) (by decide +kernel), fun h => absurd h (by decide), fun h => absurd h (by decide), ⟨by decide, by decide +kernel⟩, bl_108⟩
end
section
theorem bw_109_0 : okB (m_b 109) (m_cn 109) (m_kd 109) (rkf (m_ret 109)) 0 s_L_arePlaced_0 = true := by decide +kernel
theorem bw_109_65 : okB (m_b 109) (m_cn 109) (m_kd 109) (rkf (m_ret 109)) 65 s_L_arePlaced_65 = true := by decide +kernel
theorem bw_109_67 : okB (m_b 109) (m_cn 109) (m_kd 109) (rkf (m_ret 109)) 67 s_L_arePlaced_67 = true := by decide +kernel
theorem bw_109_87 : okB (m_b 109) (m_cn 109) (m_kd 109) (rkf (m_ret 109)) 87 s_L_arePlaced_87 = true := by decide +kernel
theorem bw_109_88 : okB (m_b 109) (m_cn 109) (m_kd 109) (rkf (m_ret 109)) 88 s_L_arePlaced_88 = true := by decide +kernel
theorem bw_109_93 : okB (m_b 109) (m_cn 109) (m_kd 109) (rkf (m_ret 109)) 93 s_L_arePlaced_93 = true := by decide +kernel
theorem bw_109_171 : okB (m_b 109) (m_cn 109) (m_kd 109) (rkf (m_ret 109)) 171 s_L_arePlaced_171 = true := by decide +kernel
theorem bw_109_175 : okB (m_b 109) (m_cn 109) (m_kd 109) (rkf (m_ret 109)) 175 s_L_arePlaced_175 = true := by decide +kernel
theorem bw_109_176 : okB (m_b 109) (m_cn 109) (m_kd 109) (rkf (m_ret 109)) 176 s_L_arePlaced_176 = true := by decide +kernel
theorem bw_109_181 : okB (m_b 109) (m_cn 109) (m_kd 109) (rkf (m_ret 109)) 181 s_L_arePlaced_181 = true := by decide +kernel
theorem bw_109_349 : okB (m_b 109) (m_cn 109) (m_kd 109) (rkf (m_ret 109)) 349 s_L_arePlaced_349 = true := by decide +kernel
theorem bw_109_350 : okB (m_b 109) (m_cn 109) (m_kd 109) (rkf (m_ret 109)) 350 s_L_arePlaced_350 = true := by decide +kernel
theorem bw_109_355 : okB (m_b 109) (m_cn 109) (m_kd 109) (rkf (m_ret 109)) 355 s_L_arePlaced_355 = true := by decide +kernel
theorem bw_109_390 : okB (m_b 109) (m_cn 109) (m_kd 109) (rkf (m_ret 109)) 390 s_L_arePlaced_390 = true := by decide +kernel
theorem bw_109_391 : okB (m_b 109) (m_cn 109) (m_kd 109) (rkf (m_ret 109)) 391 s_L_arePlaced_391 = true := by decide +kernel
theorem bw_109_393 : okB (m_b 109) (m_cn 109) (m_kd 109) (rkf (m_ret 109)) 393 s_L_arePlaced_393 = true := by decide +kernel
theorem bw_109_399 : okB (m_b 109) (m_cn 109) (m_kd 109) (rkf (m_ret 109)) 399 s_L_arePlaced_399 = true := by decide +kernel
theorem bw_109_405 : okB (m_b 109) (m_cn 109) (m_kd 109) (rkf (m_ret 109)) 405 s_L_arePlaced_405 = true := by decide +kernel
set_option maxRecDepth 100000 in
theorem bl_109 : blP 109 := by
  show ∀ q ∈ m_bl 109, okB (m_b 109) (m_cn 109) (m_kd 109) (rkf (m_ret 109)) q.1 q.2 = true
  exact List.forall_mem_cons.mpr ⟨bw_109_0, List.forall_mem_cons.mpr ⟨bw_109_65, List.forall_mem_cons.mpr ⟨bw_109_67, List.forall_mem_cons.mpr ⟨bw_109_87, List.forall_mem_cons.mpr ⟨bw_109_88, List.forall_mem_cons.mpr ⟨bw_109_93, List.forall_mem_cons.mpr ⟨bw_109_171, List.forall_mem_cons.mpr ⟨bw_109_175, List.forall_mem_cons.mpr ⟨bw_109_176, List.forall_mem_cons.mpr ⟨bw_109_181, List.forall_mem_cons.mpr ⟨bw_109_349, List.forall_mem_cons.mpr ⟨bw_109_350, List.forall_mem_cons.mpr ⟨bw_109_355, List.forall_mem_cons.mpr ⟨bw_109_390, List.forall_mem_cons.mpr ⟨bw_109_391, List.forall_mem_cons.mpr ⟨bw_109_393, List.forall_mem_cons.mpr ⟨bw_109_399, List.forall_mem_cons.mpr ⟨bw_109_405, fun _ h => absurd h List.not_mem_nil⟩⟩⟩⟩⟩⟩⟩⟩⟩⟩⟩⟩⟩⟩⟩⟩⟩⟩
end
section
theorem mp_109 : mP 109 := ⟨⟨by decide +kernel, by decide +kernel, by decide +kernel, by decide +kernel⟩, ⟨lwi 783 (by decide +kernel) (by decide +kernel), lwi 18 (by decide +kernel) (by decide +kernel)⟩, fun _ => lwi 782 (by decide +kernel) (by decide +kernel), fun h => absurd h (by decide), fun h => absurd h (by decide), ⟨by decide, by decide +kernel⟩, bl_109⟩
end
section
theorem bw_110_0 : okB (m_b 110) (m_cn 110) (m_kd 110) (rkf (m_ret 110)) 0 s_L_isAct_0 = true := by decide +kernel
theorem bw_110_47 : okB (m_b 110) (m_cn 110) (m_kd 110) (rkf (m_ret 110)) 47 s_L_isAct_47 = true := by decide +kernel
theorem bw_110_48 : okB (m_b 110) (m_cn 110) (m_kd 110) (rkf (m_ret 110)) 48 s_L_isAct_48 = true := by decide +kernel
theorem bw_110_67 : okB (m_b 110) (m_cn 110) (m_kd 110) (rkf (m_ret 110)) 67 s_L_isAct_67 = true := by decide +kernel
theorem bw_110_68 : okB (m_b 110) (m_cn 110) (m_kd 110) (rkf (m_ret 110)) 68 s_L_isAct_68 = true := by decide +kernel
theorem bw_110_83 : okB (m_b 110) (m_cn 110) (m_kd 110) (rkf (m_ret 110)) 83 s_L_isAct_83 = true := by decide +kernel
theorem bw_110_84 : okB (m_b 110) (m_cn 110) (m_kd 110) (rkf (m_ret 110)) 84 s_L_isAct_84 = true := by decide +kernel
theorem bw_110_108 : okB (m_b 110) (m_cn 110) (m_kd 110) (rkf (m_ret 110)) 108 s_L_isAct_108 = true := by decide +kernel
theorem bw_110_121 : okB (m_b 110) (m_cn 110) (m_kd 110) (rkf (m_ret 110)) 121 s_L_isAct_121 = true := by decide +kernel
theorem bw_110_124 : okB (m_b 110) (m_cn 110) (m_kd 110) (rkf (m_ret 110)) 124 s_L_isAct_124 = true := by decide +kernel
theorem bw_110_131 : okB (m_b 110) (m_cn 110) (m_kd 110) (rkf (m_ret 110)) 131 s_L_isAct_131 = true := by decide +kernel
theorem bw_110_132 : okB (m_b 110) (m_cn 110) (m_kd 110) (rkf (m_ret 110)) 132 s_L_isAct_132 = true := by decide +kernel
theorem bw_110_133 : okB (m_b 110) (m_cn 110) (m_kd 110) (rkf (m_ret 110)) 133 s_L_isAct_133 = true := by decide +kernel
theorem bw_110_165 : okB (m_b 110) (m_cn 110) (m_kd 110) (rkf (m_ret 110)) 165 s_L_isAct_165 = true := by decide +kernel
theorem bw_110_166 : okB (m_b 110) (m_cn 110) (m_kd 110) (rkf (m_ret 110)) 166 s_L_isAct_166 = true := by decide +kernel
theorem bw_110_189 : okB (m_b 110) (m_cn 110) (m_kd 110) (rkf (m_ret 110)) 189 s_L_isAct_189 = true := by decide +kernel
theorem bw_110_190 : okB (m_b 110) (m_cn 110) (m_kd 110) (rkf (m_ret 110)) 190 s_L_isAct_190 = true := by decide +kernel
theorem bw_110_216 : okB (m_b 110) (m_cn 110) (m_kd 110) (rkf (m_ret 110)) 216 s_L_isAct_216 = true := by decide +kernel
theorem bw_110_217 : okB (m_b 110) (m_cn 110) (m_kd 110) (rkf (m_ret 110)) 217 s_L_isAct_217 = true := by decide +kernel
theorem bw_110_232 : okB (m_b 110) (m_cn 110) (m_kd 110) (rkf (m_ret 110)) 232 s_L_isAct_232 = true := by decide +kernel
theorem bw_110_233 : okB (m_b 110) (m_cn 110) (m_kd 110) (rkf (m_ret 110)) 233 s_L_isAct_233 = true := by decide +kernel
theorem bw_110_261 : okB (m_b 110) (m_cn 110) (m_kd 110) (rkf (m_ret 110)) 261 s_L_isAct_261 = true := by decide +kernel
theorem bw_110_274 : okB (m_b 110) (m_cn 110) (m_kd 110) (rkf (m_ret 110)) 274 s_L_isAct_274 = true := by decide +kernel
theorem bw_110_277 : okB (m_b 110) (m_cn 110) (m_kd 110) (rkf (m_ret 110)) 277 s_L_isAct_277 = true := by decide +kernel
theorem bw_110_306 : okB (m_b 110) (m_cn 110) (m_kd 110) (rkf (m_ret 110)) 306 s_L_isAct_306 = true := by decide +kernel
theorem bw_110_310 : okB (m_b 110) (m_cn 110) (m_kd 110) (rkf (m_ret 110)) 310 s_L_isAct_310 = true := by decide +kernel
theorem bw_110_311 : okB (m_b 110) (m_cn 110) (m_kd 110) (rkf (m_ret 110)) 311 s_L_isAct_311 = true := by decide +kernel
theorem bw_110_312 : okB (m_b 110) (m_cn 110) (m_kd 110) (rkf (m_ret 110)) 312 s_L_isAct_312 = true := by decide +kernel
theorem bw_110_348 : okB (m_b 110) (m_cn 110) (m_kd 110) (rkf (m_ret 110)) 348 s_L_isAct_348 = true := by decide +kernel
theorem bw_110_349 : okB (m_b 110) (m_cn 110) (m_kd 110) (rkf (m_ret 110)) 349 s_L_isAct_349 = true := by decide +kernel
theorem bw_110_371 : okB (m_b 110) (m_cn 110) (m_kd 110) (rkf (m_ret 110)) 371 s_L_isAct_371 = true := by decide +kernel
theorem bw_110_372 : okB (m_b 110) (m_cn 110) (m_kd 110) (rkf (m_ret 110)) 372 s_L_isAct_372 = true := by decide +kernel
theorem bw_110_391 : okB (m_b 110) (m_cn 110) (m_kd 110) (rkf (m_ret 110)) 391 s_L_isAct_391 = true := by decide +kernel
theorem bw_110_392 : okB (m_b 110) (m_cn 110) (m_kd 110) (rkf (m_ret 110)) 392 s_L_isAct_392 = true := by decide +kernel
theorem bw_110_436 : okB (m_b 110) (m_cn 110) (m_kd 110) (rkf (m_ret 110)) 436 s_L_isAct_436 = true := by decide +kernel
theorem bw_110_437 : okB (m_b 110) (m_cn 110) (m_kd 110) (rkf (m_ret 110)) 437 s_L_isAct_437 = true := by decide +kernel
theorem bw_110_452 : okB (m_b 110) (m_cn 110) (m_kd 110) (rkf (m_ret 110)) 452 s_L_isAct_452 = true := by decide +kernel
theorem bw_110_453 : okB (m_b 110) (m_cn 110) (m_kd 110) (rkf (m_ret 110)) 453 s_L_isAct_453 = true := by decide +kernel
theorem bw_110_478 : okB (m_b 110) (m_cn 110) (m_kd 110) (rkf (m_ret 110)) 478 s_L_isAct_478 = true := by decide +kernel
theorem bw_110_489 : okB (m_b 110) (m_cn 110) (m_kd 110) (rkf (m_ret 110)) 489 s_L_isAct_489 = true := by decide +kernel
theorem bw_110_502 : okB (m_b 110) (m_cn 110) (m_kd 110) (rkf (m_ret 110)) 502 s_L_isAct_502 = true := by decide +kernel
theorem bw_110_505 : okB (m_b 110) (m_cn 110) (m_kd 110) (rkf (m_ret 110)) 505 s_L_isAct_505 = true := by decide +kernel
theorem bw_110_532 : okB (m_b 110) (m_cn 110) (m_kd 110) (rkf (m_ret 110)) 532 s_L_isAct_532 = true := by decide +kernel
theorem bw_110_536 : okB (m_b 110) (m_cn 110) (m_kd 110) (rkf (m_ret 110)) 536 s_L_isAct_536 = true := by decide +kernel
theorem bw_110_537 : okB (m_b 110) (m_cn 110) (m_kd 110) (rkf (m_ret 110)) 537 s_L_isAct_537 = true := by decide +kernel
theorem bw_110_538 : okB (m_b 110) (m_cn 110) (m_kd 110) (rkf (m_ret 110)) 538 s_L_isAct_538 = true := by decide +kernel
theorem bw_110_555 : okB (m_b 110) (m_cn 110) (m_kd 110) (rkf (m_ret 110)) 555 s_L_isAct_555 = true := by decide +kernel
theorem bw_110_556 : okB (m_b 110) (m_cn 110) (m_kd 110) (rkf (m_ret 110)) 556 s_L_isAct_556 = true := by decide +kernel
theorem bw_110_567 : okB (m_b 110) (m_cn 110) (m_kd 110) (rkf (m_ret 110)) 567 s_L_isAct_567 = true := by decide +kernel
theorem bw_110_568 : okB (m_b 110) (m_cn 110) (m_kd 110) (rkf (m_ret 110)) 568 s_L_isAct_568 = true := by decide +kernel
theorem bw_110_590 : okB (m_b 110) (m_cn 110) (m_kd 110) (rkf (m_ret 110)) 590 s_L_isAct_590 = true := by decide +kernel
theorem bw_110_597 : okB (m_b 110) (m_cn 110) (m_kd 110) (rkf (m_ret 110)) 597 s_L_isAct_597 = true := by decide +kernel
theorem bw_110_619 : okB (m_b 110) (m_cn 110) (m_kd 110) (rkf (m_ret 110)) 619 s_L_isAct_619 = true := by decide +kernel
theorem bw_110_620 : okB (m_b 110) (m_cn 110) (m_kd 110) (rkf (m_ret 110)) 620 s_L_isAct_620 = true := by decide +kernel
theorem bw_110_641 : okB (m_b 110) (m_cn 110) (m_kd 110) (rkf (m_ret 110)) 641 s_L_isAct_641 = true := by decide +kernel
theorem bw_110_643 : okB (m_b 110) (m_cn 110) (m_kd 110) (rkf (m_ret 110)) 643 s_L_isAct_643 = true := by decide +kernel
theorem bw_110_650 : okB (m_b 110) (m_cn 110) (m_kd 110) (rkf (m_ret 110)) 650 s_L_isAct_650 = true := by decide +kernel
theorem bw_110_651 : okB (m_b 110) (m_cn 110) (m_kd 110) (rkf (m_ret 110)) 651 s_L_isAct_651 = true := by decide +kernel
theorem bw_110_676 : okB (m_b 110) (m_cn 110) (m_kd 110) (rkf (m_ret 110)) 676 s_L_isAct_676 = true := by decide +kernel
theorem bw_110_691 : okB (m_b 110) (m_cn 110) (m_kd 110) (rkf (m_ret 110)) 691 s_L_isAct_691 = true := by decide +kernel
theorem bw_110_705 : okB (m_b 110) (m_cn 110) (m_kd 110) (rkf (m_ret 110)) 705 s_L_isAct_705 = true := by decide +kernel
theorem bw_110_706 : okB (m_b 110) (m_cn 110) (m_kd 110) (rkf (m_ret 110)) 706 s_L_isAct_706 = true := by decide +kernel
theorem bw_110_718 : okB (m_b 110) (m_cn 110) (m_kd 110) (rkf (m_ret 110)) 718 s_L_isAct_718 = true := by decide +kernel
theorem bw_110_719 : okB (m_b 110) (m_cn 110) (m_kd 110) (rkf (m_ret 110)) 719 s_L_isAct_719 = true := by decide +kernel
theorem bw_110_739 : okB (m_b 110) (m_cn 110) (m_kd 110) (rkf (m_ret 110)) 739 s_L_isAct_739 = true := by decide +kernel
theorem bw_110_751 : okB (m_b 110) (m_cn 110) (m_kd 110) (rkf (m_ret 110)) 751 s_L_isAct_751 = true := by decide +kernel
theorem bw_110_754 : okB (m_b 110) (m_cn 110) (m_kd 110) (rkf (m_ret 110)) 754 s_L_isAct_754 = true := by decide +kernel
theorem bw_110_761 : okB (m_b 110) (m_cn 110) (m_kd 110) (rkf (m_ret 110)) 761 s_L_isAct_761 = true := by decide +kernel
theorem bw_110_762 : okB (m_b 110) (m_cn 110) (m_kd 110) (rkf (m_ret 110)) 762 s_L_isAct_762 = true := by decide +kernel
theorem bw_110_763 : okB (m_b 110) (m_cn 110) (m_kd 110) (rkf (m_ret 110)) 763 s_L_isAct_763 = true := by decide +kernel
theorem bw_110_793 : okB (m_b 110) (m_cn 110) (m_kd 110) (rkf (m_ret 110)) 793 s_L_isAct_793 = true := by decide +kernel
theorem bw_110_796 : okB (m_b 110) (m_cn 110) (m_kd 110) (rkf (m_ret 110)) 796 s_L_isAct_796 = true := by decide +kernel
theorem bw_110_811 : okB (m_b 110) (m_cn 110) (m_kd 110) (rkf (m_ret 110)) 811 s_L_isAct_811 = true := by decide +kernel
theorem bw_110_814 : okB (m_b 110) (m_cn 110) (m_kd 110) (rkf (m_ret 110)) 814 s_L_isAct_814 = true := by decide +kernel
theorem bw_110_832 : okB (m_b 110) (m_cn 110) (m_kd 110) (rkf (m_ret 110)) 832 s_L_isAct_832 = true := by decide +kernel
theorem bw_110_836 : okB (m_b 110) (m_cn 110) (m_kd 110) (rkf (m_ret 110)) 836 s_L_isAct_836 = true := by decide +kernel
theorem bw_110_837 : okB (m_b 110) (m_cn 110) (m_kd 110) (rkf (m_ret 110)) 837 s_L_isAct_837 = true := by decide +kernel
theorem bw_110_838 : okB (m_b 110) (m_cn 110) (m_kd 110) (rkf (m_ret 110)) 838 s_L_isAct_838 = true := by decide +kernel
theorem bw_110_856 : okB (m_b 110) (m_cn 110) (m_kd 110) (rkf (m_ret 110)) 856 s_L_isAct_856 = true := by decide +kernel
theorem bw_110_857 : okB (m_b 110) (m_cn 110) (m_kd 110) (rkf (m_ret 110)) 857 s_L_isAct_857 = true := by decide +kernel
theorem bw_110_871 : okB (m_b 110) (m_cn 110) (m_kd 110) (rkf (m_ret 110)) 871 s_L_isAct_871 = true := by decide +kernel
theorem bw_110_872 : okB (m_b 110) (m_cn 110) (m_kd 110) (rkf (m_ret 110)) 872 s_L_isAct_872 = true := by decide +kernel
theorem bw_110_888 : okB (m_b 110) (m_cn 110) (m_kd 110) (rkf (m_ret 110)) 888 s_L_isAct_888 = true := by decide +kernel
theorem bw_110_889 : okB (m_b 110) (m_cn 110) (m_kd 110) (rkf (m_ret 110)) 889 s_L_isAct_889 = true := by decide +kernel
theorem bw_110_911 : okB (m_b 110) (m_cn 110) (m_kd 110) (rkf (m_ret 110)) 911 s_L_isAct_911 = true := by decide +kernel
theorem bw_110_913 : okB (m_b 110) (m_cn 110) (m_kd 110) (rkf (m_ret 110)) 913 s_L_isAct_913 = true := by decide +kernel
theorem bw_110_940 : okB (m_b 110) (m_cn 110) (m_kd 110) (rkf (m_ret 110)) 940 s_L_isAct_940 = true := by decide +kernel
theorem bw_110_941 : okB (m_b 110) (m_cn 110) (m_kd 110) (rkf (m_ret 110)) 941 s_L_isAct_941 = true := by decide +kernel
theorem bw_110_983 : okB (m_b 110) (m_cn 110) (m_kd 110) (rkf (m_ret 110)) 983 s_L_isAct_983 = true := by decide +kernel
theorem bw_110_987 : okB (m_b 110) (m_cn 110) (m_kd 110) (rkf (m_ret 110)) 987 s_L_isAct_987 = true := by decide +kernel
theorem bw_110_988 : okB (m_b 110) (m_cn 110) (m_kd 110) (rkf (m_ret 110)) 988 s_L_isAct_988 = true := by decide +kernel
theorem bw_110_1003 : okB (m_b 110) (m_cn 110) (m_kd 110) (rkf (m_ret 110)) 1003 s_L_isAct_1003 = true := by decide +kernel
theorem bw_110_1004 : okB (m_b 110) (m_cn 110) (m_kd 110) (rkf (m_ret 110)) 1004 s_L_isAct_1004 = true := by decide +kernel
theorem bw_110_1017 : okB (m_b 110) (m_cn 110) (m_kd 110) (rkf (m_ret 110)) 1017 s_L_isAct_1017 = true := by decide +kernel
theorem bw_110_1019 : okB (m_b 110) (m_cn 110) (m_kd 110) (rkf (m_ret 110)) 1019 s_L_isAct_1019 = true := by decide +kernel
theorem bw_110_1039 : okB (m_b 110) (m_cn 110) (m_kd 110) (rkf (m_ret 110)) 1039 s_L_isAct_1039 = true := by decide +kernel
theorem bw_110_1052 : okB (m_b 110) (m_cn 110) (m_kd 110) (rkf (m_ret 110)) 1052 s_L_isAct_1052 = true := by decide +kernel
theorem bw_110_1055 : okB (m_b 110) (m_cn 110) (m_kd 110) (rkf (m_ret 110)) 1055 s_L_isAct_1055 = true := by decide +kernel
theorem bw_110_1079 : okB (m_b 110) (m_cn 110) (m_kd 110) (rkf (m_ret 110)) 1079 s_L_isAct_1079 = true := by decide +kernel
theorem bw_110_1083 : okB (m_b 110) (m_cn 110) (m_kd 110) (rkf (m_ret 110)) 1083 s_L_isAct_1083 = true := by decide +kernel
theorem bw_110_1084 : okB (m_b 110) (m_cn 110) (m_kd 110) (rkf (m_ret 110)) 1084 s_L_isAct_1084 = true := by decide +kernel
theorem bw_110_1085 : okB (m_b 110) (m_cn 110) (m_kd 110) (rkf (m_ret 110)) 1085 s_L_isAct_1085 = true := by decide +kernel
theorem bw_110_1102 : okB (m_b 110) (m_cn 110) (m_kd 110) (rkf (m_ret 110)) 1102 s_L_isAct_1102 = true := by decide +kernel
theorem bw_110_1103 : okB (m_b 110) (m_cn 110) (m_kd 110) (rkf (m_ret 110)) 1103 s_L_isAct_1103 = true := by decide +kernel
theorem bw_110_1168 : okB (m_b 110) (m_cn 110) (m_kd 110) (rkf (m_ret 110)) 1168 s_L_isAct_1168 = true := by decide +kernel
theorem bw_110_1187 : okB (m_b 110) (m_cn 110) (m_kd 110) (rkf (m_ret 110)) 1187 s_L_isAct_1187 = true := by decide +kernel
theorem bw_110_1191 : okB (m_b 110) (m_cn 110) (m_kd 110) (rkf (m_ret 110)) 1191 s_L_isAct_1191 = true := by decide +kernel
theorem bw_110_1192 : okB (m_b 110) (m_cn 110) (m_kd 110) (rkf (m_ret 110)) 1192 s_L_isAct_1192 = true := by decide +kernel
theorem bw_110_1214 : okB (m_b 110) (m_cn 110) (m_kd 110) (rkf (m_ret 110)) 1214 s_L_isAct_1214 = true := by decide +kernel
theorem bw_110_1224 : okB (m_b 110) (m_cn 110) (m_kd 110) (rkf (m_ret 110)) 1224 s_L_isAct_1224 = true := by decide +kernel
theorem bw_110_1246 : okB (m_b 110) (m_cn 110) (m_kd 110) (rkf (m_ret 110)) 1246 s_L_isAct_1246 = true := by decide +kernel
theorem bw_110_1247 : okB (m_b 110) (m_cn 110) (m_kd 110) (rkf (m_ret 110)) 1247 s_L_isAct_1247 = true := by decide +kernel
theorem bw_110_1269 : okB (m_b 110) (m_cn 110) (m_kd 110) (rkf (m_ret 110)) 1269 s_L_isAct_1269 = true := by decide +kernel
theorem bw_110_1270 : okB (m_b 110) (m_cn 110) (m_kd 110) (rkf (m_ret 110)) 1270 s_L_isAct_1270 = true := by decide +kernel
theorem bw_110_1298 : okB (m_b 110) (m_cn 110) (m_kd 110) (rkf (m_ret 110)) 1298 s_L_isAct_1298 = true := by decide +kernel
theorem bw_110_1308 : okB (m_b 110) (m_cn 110) (m_kd 110) (rkf (m_ret 110)) 1308 s_L_isAct_1308 = true := by decide +kernel
theorem bw_110_1311 : okB (m_b 110) (m_cn 110) (m_kd 110) (rkf (m_ret 110)) 1311 s_L_isAct_1311 = true := by decide +kernel
theorem bw_110_1344 : okB (m_b 110) (m_cn 110) (m_kd 110) (rkf (m_ret 110)) 1344 s_L_isAct_1344 = true := by decide +kernel
theorem bw_110_1346 : okB (m_b 110) (m_cn 110) (m_kd 110) (rkf (m_ret 110)) 1346 s_L_isAct_1346 = true := by decide +kernel
theorem bw_110_1349 : okB (m_b 110) (m_cn 110) (m_kd 110) (rkf (m_ret 110)) 1349 s_L_isAct_1349 = true := by decide +kernel
theorem bw_110_1353 : okB (m_b 110) (m_cn 110) (m_kd 110) (rkf (m_ret 110)) 1353 s_L_isAct_1353 = true := by decide +kernel
theorem bw_110_1354 : okB (m_b 110) (m_cn 110) (m_kd 110) (rkf (m_ret 110)) 1354 s_L_isAct_1354 = true := by decide +kernel
set_option maxRecDepth 100000 in
theorem bl_110 : blP 110 := by
  show ∀ q ∈ m_bl 110, okB (m_b 110) (m_cn 110) (m_kd 110) (rkf (m_ret 110)) q.1 q.2 = true
  exact List.forall_mem_cons.mpr ⟨bw_110_0, List.forall_mem_cons.mpr ⟨bw_110_47, List.forall_mem_cons.mpr ⟨bw_110_48, List.forall_mem_cons.mpr ⟨bw_110_67, List.forall_mem_cons.mpr ⟨bw_110_68, List.forall_mem_cons.mpr ⟨bw_110_83, List.forall_mem_cons.mpr ⟨bw_110_84, List.forall_mem_cons.mpr ⟨bw_110_108, List.forall_mem_cons.mpr ⟨bw_110_121, List.forall_mem_cons.mpr ⟨bw_110_124, List.forall_mem_cons.mpr ⟨bw_110_131, List.forall_mem_cons.mpr ⟨bw_110_132, List.forall_mem_cons.mpr ⟨bw_110_133, List.forall_mem_cons.mpr ⟨bw_110_165, List.forall_mem_cons.mpr ⟨bw_110_166, List.forall_mem_cons.mpr ⟨bw_110_189, List.forall_mem_cons.mpr ⟨bw_110_190, List.forall_mem_cons.mpr ⟨bw_110_216, List.forall_mem_cons.mpr ⟨bw_110_217, List.forall_mem_cons.mpr ⟨bw_110_232, List.forall_mem_cons.mpr ⟨bw_110_233, List.forall_mem_cons.mpr ⟨bw_110_261, List.forall_mem_cons.mpr ⟨bw_110_274, List.forall_mem_cons.mpr ⟨bw_110_277, List.forall_mem_cons.mpr ⟨bw_110_306, List.forall_mem_cons.mpr ⟨bw_110_310, List.forall_mem_cons.mpr ⟨bw_110_311, List.forall_mem_cons.mpr ⟨bw_110_312, List.forall_mem_cons.mpr ⟨bw_110_348, List.forall_mem_cons.mpr ⟨bw_110_349, List.forall_mem_cons.mpr ⟨bw_110_371, List.forall_mem_cons.mpr ⟨bw_110_372, List.forall_mem_cons.mpr ⟨bw_110_391, List.forall_mem_cons.mpr ⟨bw_110_392, List.forall_mem_cons.mpr ⟨bw_110_436, List.forall_mem_cons.mpr ⟨bw_110_437, List.forall_mem_cons.mpr ⟨bw_110_452, List.forall_mem_cons.mpr ⟨bw_110_453, List.forall_mem_cons.mpr ⟨bw_110_478, List.forall_mem_cons.mpr ⟨bw_110_489, List.forall_mem_cons.mpr ⟨bw_110_502, List.forall_mem_cons.mpr ⟨bw_110_505, List.forall_mem_cons.mpr ⟨bw_110_532, List.forall_mem_cons.mpr ⟨bw_110_536, List.forall_mem_cons.mpr ⟨bw_110_537, List.forall_mem_cons.mpr ⟨bw_110_538, List.forall_mem_cons.mpr ⟨bw_110_555, List.forall_mem_cons.mpr ⟨bw_110_556, List.forall_mem_cons.mpr ⟨bw_110_567, List.forall_mem_cons.mpr ⟨bw_110_568, List.forall_mem_cons.mpr ⟨bw_110_590, List.forall_mem_cons.mpr ⟨bw_110_597, List.forall_mem_cons.mpr ⟨bw_110_619, List.forall_mem_cons.mpr ⟨bw_110_620, List.forall_mem_cons.mpr ⟨bw_110_641, List.forall_mem_cons.mpr ⟨bw_110_643, List.forall_mem_cons.mpr ⟨bw_110_650, List.forall_mem_cons.mpr ⟨bw_110_651, List.forall_mem_cons.mpr ⟨bw_110_676, List.forall_mem_cons.mpr ⟨bw_110_691, List.forall_mem_cons.mpr ⟨bw_110_705, List.forall_mem_cons.mpr ⟨bw_110_706, List.forall_mem_cons.mpr ⟨bw_110_718, List.forall_mem_cons.mpr ⟨bw_110_719, List.forall_mem_cons.mpr ⟨bw_110_739, List.forall_mem_cons.mpr ⟨bw_110_751, List.forall_mem_cons.mpr ⟨bw_110_754, List.forall_mem_cons.mpr ⟨bw_110_761, List.forall_mem_cons.mpr ⟨bw_110_762, List.forall_mem_cons.mpr ⟨bw_110_763, List.forall_mem_cons.mpr ⟨bw_110_793, List.forall_mem_cons.mpr ⟨bw_110_796, List.forall_mem_cons.mpr ⟨bw_110_811, List.forall_mem_cons.mpr ⟨bw_110_814, List.forall_mem_cons.mpr ⟨bw_110_832, List.forall_mem_cons.mpr ⟨bw_110_836, List.forall_mem_cons.mpr ⟨bw_110_837, List.forall_mem_cons.mpr ⟨bw_110_838, List.forall_mem_cons.mpr ⟨bw_110_856, List.forall_mem_cons.mpr ⟨bw_110_857, List.forall_mem_cons.mpr ⟨bw_110_871, List.forall_mem_cons.mpr ⟨bw_110_872, List.forall_mem_cons.mpr ⟨bw_110_888, List.forall_mem_cons.mpr ⟨bw_110_889, List.forall_mem_cons.mpr ⟨bw_110_911, List.forall_mem_cons.mpr ⟨bw_110_913, List.forall_mem_cons.mpr ⟨bw_110_940, List.forall_mem_cons.mpr ⟨bw_110_941, List.forall_mem_cons.mpr ⟨bw_110_983, List.forall_mem_cons.mpr ⟨bw_110_987, List.forall_mem_cons.mpr ⟨bw_110_988, List.forall_mem_cons.mpr ⟨bw_110_1003, List.forall_mem_cons.mpr ⟨bw_110_1004, List.forall_mem_cons.mpr ⟨bw_110_1017, List.forall_mem_cons.mpr ⟨bw_110_1019, List.forall_mem_cons.mpr ⟨bw_110_1039, List.forall_mem_cons.mpr ⟨bw_110_1052, List.forall_mem_cons.mpr ⟨bw_110_1055, List.forall_mem_cons.mpr ⟨bw_110_1079, List.forall_mem_cons.mpr ⟨bw_110_1083, List.forall_mem_cons.mpr ⟨bw_110_1084, List.forall_mem_cons.mpr ⟨bw_110_1085, List.forall_mem_cons.mpr ⟨bw_110_1102, List.forall_mem_cons.mpr ⟨bw_110_1103, List.forall_mem_cons.mpr ⟨bw_110_1168, List.forall_mem_cons.mpr ⟨bw_110_1187, List.forall_mem_cons.mpr ⟨bw_110_1191, List.forall_mem_cons.mpr ⟨bw_110_1192, List.forall_mem_cons.mpr ⟨bw_110_1214, List.forall_mem_cons.mpr ⟨bw_110_1224, List.forall_mem_cons.mpr ⟨bw_110_1246, List.forall_mem_cons.mpr ⟨bw_110_1247, List.forall_mem_cons.mpr ⟨bw_110_1269, List.forall_mem_cons.mpr ⟨bw_110_1270, List.forall_mem_cons.mpr ⟨bw_110_1298, List.forall_mem_cons.mpr ⟨bw_110_1308, List.forall_mem_cons.mpr ⟨bw_110_1311, List.forall_mem_cons.mpr ⟨bw_110_1344, List.forall_mem_cons.mpr ⟨bw_110_1346, List.forall_mem_cons.mpr ⟨bw_110_1349, List.forall_mem_cons.mpr ⟨bw_110_1353, List.forall_mem_cons.mpr ⟨bw_110_1354, fun _ h => absurd h List.not_mem_nil⟩⟩⟩⟩⟩⟩⟩⟩⟩⟩⟩⟩⟩⟩⟩⟩⟩⟩⟩⟩⟩⟩⟩⟩⟩⟩⟩⟩⟩⟩⟩⟩⟩⟩⟩⟩⟩⟩⟩⟩⟩⟩⟩⟩⟩⟩⟩⟩⟩⟩⟩⟩⟩⟩⟩⟩⟩⟩⟩⟩⟩⟩⟩⟩⟩⟩⟩⟩⟩⟩⟩⟩⟩⟩⟩⟩⟩⟩⟩⟩⟩⟩⟩⟩⟩⟩⟩⟩⟩⟩⟩⟩⟩⟩⟩⟩⟩⟩⟩⟩⟩⟩⟩⟩⟩⟩⟩⟩⟩⟩⟩⟩⟩⟩⟩⟩⟩⟩⟩⟩⟩⟩
end
section
theorem mp_110 : mP 110 := ⟨⟨by decide +kernel, by decide +kernel, by decide +kernel, by decide +kernel⟩, ⟨lwc 777 rfl (by decide +kernel) (by decide +kernel), lwi 18 (by decide +kernel) (by decide +kernel)⟩, fun _ => lwi 776 (by decide +kernel) (by decide +kernel), fun h => absurd h (by decide), fun h => absurd h (by decide), ⟨by decide, by decide +kernel⟩, bl_110⟩
end
section
theorem mp_all : ∀ k, k < 111 → mP k := by
  intro k h
  rcases Nat.lt_or_ge k 55 with q | q
  ·
    rcases Nat.lt_or_ge k 27 with q | q
    ·
      rcases Nat.lt_or_ge k 13 with q | q
      ·
        rcases Nat.lt_or_ge k 6 with q | q
        ·
          rcases Nat.lt_or_ge k 3 with q | q
          ·
            rcases Nat.lt_or_ge k 1 with q | q
            ·
              have e : k = 0 := by omega
              subst e
              exact mp_0
            ·
              rcases Nat.lt_or_ge k 2 with q | q
              ·
                have e : k = 1 := by omega
                subst e
                exact mp_1
              ·
                have e : k = 2 := by omega
                subst e
                exact mp_2
          ·
            rcases Nat.lt_or_ge k 4 with q | q
            ·
              have e : k = 3 := by omega
              subst e
              exact mp_3
            ·
              rcases Nat.lt_or_ge k 5 with q | q
              ·
                have e : k = 4 := by omega
                subst e
                exact mp_4
              ·
                have e : k = 5 := by omega
                subst e
                exact mp_5
        ·
          rcases Nat.lt_or_ge k 9 with q | q
          ·
            rcases Nat.lt_or_ge k 7 with q | q
            ·
              have e : k = 6 := by omega
              subst e
              exact mp_6
            ·
              rcases Nat.lt_or_ge k 8 with q | q
              ·
                have e : k = 7 := by omega
                subst e
                exact mp_7
              ·
                have e : k = 8 := by omega
                subst e
                exact mp_8
          ·
            rcases Nat.lt_or_ge k 11 with q | q
            ·
              rcases Nat.lt_or_ge k 10 with q | q
              ·
                have e : k = 9 := by omega
                subst e
                exact mp_9
              ·
                have e : k = 10 := by omega
                subst e
                exact mp_10
            ·
              rcases Nat.lt_or_ge k 12 with q | q
              ·
                have e : k = 11 := by omega
                subst e
                exact mp_11
              ·
                have e : k = 12 := by omega
                subst e
                exact mp_12
      ·
        rcases Nat.lt_or_ge k 20 with q | q
        ·
          rcases Nat.lt_or_ge k 16 with q | q
          ·
            rcases Nat.lt_or_ge k 14 with q | q
            ·
              have e : k = 13 := by omega
              subst e
              exact mp_13
            ·
              rcases Nat.lt_or_ge k 15 with q | q
              ·
                have e : k = 14 := by omega
                subst e
                exact mp_14
              ·
                have e : k = 15 := by omega
                subst e
                exact mp_15
          ·
            rcases Nat.lt_or_ge k 18 with q | q
            ·
              rcases Nat.lt_or_ge k 17 with q | q
              ·
                have e : k = 16 := by omega
                subst e
                exact mp_16
              ·
                have e : k = 17 := by omega
                subst e
                exact mp_17
            ·
              rcases Nat.lt_or_ge k 19 with q | q
              ·
                have e : k = 18 := by omega
                subst e
                exact mp_18
              ·
                have e : k = 19 := by omega
                subst e
                exact mp_19
        ·
          rcases Nat.lt_or_ge k 23 with q | q
          ·
            rcases Nat.lt_or_ge k 21 with q | q
            ·
              have e : k = 20 := by omega
              subst e
              exact mp_20
            ·
              rcases Nat.lt_or_ge k 22 with q | q
              ·
                have e : k = 21 := by omega
                subst e
                exact mp_21
              ·
                have e : k = 22 := by omega
                subst e
                exact mp_22
          ·
            rcases Nat.lt_or_ge k 25 with q | q
            ·
              rcases Nat.lt_or_ge k 24 with q | q
              ·
                have e : k = 23 := by omega
                subst e
                exact mp_23
              ·
                have e : k = 24 := by omega
                subst e
                exact mp_24
            ·
              rcases Nat.lt_or_ge k 26 with q | q
              ·
                have e : k = 25 := by omega
                subst e
                exact mp_25
              ·
                have e : k = 26 := by omega
                subst e
                exact mp_26
    ·
      rcases Nat.lt_or_ge k 41 with q | q
      ·
        rcases Nat.lt_or_ge k 34 with q | q
        ·
          rcases Nat.lt_or_ge k 30 with q | q
          ·
            rcases Nat.lt_or_ge k 28 with q | q
            ·
              have e : k = 27 := by omega
              subst e
              exact mp_27
            ·
              rcases Nat.lt_or_ge k 29 with q | q
              ·
                have e : k = 28 := by omega
                subst e
                exact mp_28
              ·
                have e : k = 29 := by omega
                subst e
                exact mp_29
          ·
            rcases Nat.lt_or_ge k 32 with q | q
            ·
              rcases Nat.lt_or_ge k 31 with q | q
              ·
                have e : k = 30 := by omega
                subst e
                exact mp_30
              ·
                have e : k = 31 := by omega
                subst e
                exact mp_31
            ·
              rcases Nat.lt_or_ge k 33 with q | q
              ·
                have e : k = 32 := by omega
                subst e
                exact mp_32
              ·
                have e : k = 33 := by omega
                subst e
                exact mp_33
        ·
          rcases Nat.lt_or_ge k 37 with q | q
          ·
            rcases Nat.lt_or_ge k 35 with q | q
            ·
              have e : k = 34 := by omega
              subst e
              exact mp_34
            ·
              rcases Nat.lt_or_ge k 36 with q | q
              ·
                have e : k = 35 := by omega
                subst e
                exact mp_35
              ·
                have e : k = 36 := by omega
                subst e
                exact mp_36
          ·
            rcases Nat.lt_or_ge k 39 with q | q
            ·
              rcases Nat.lt_or_ge k 38 with q | q
              ·
                have e : k = 37 := by omega
                subst e
                exact mp_37
              ·
                have e : k = 38 := by omega
                subst e
                exact mp_38
            ·
              rcases Nat.lt_or_ge k 40 with q | q
              ·
                have e : k = 39 := by omega
                subst e
                exact mp_39
              ·
                have e : k = 40 := by omega
                subst e
                exact mp_40
      ·
        rcases Nat.lt_or_ge k 48 with q | q
        ·
          rcases Nat.lt_or_ge k 44 with q | q
          ·
            rcases Nat.lt_or_ge k 42 with q | q
            ·
              have e : k = 41 := by omega
              subst e
              exact mp_41
            ·
              rcases Nat.lt_or_ge k 43 with q | q
              ·
                have e : k = 42 := by omega
                subst e
                exact mp_42
              ·
                have e : k = 43 := by omega
                subst e
                exact mp_43
          ·
            rcases Nat.lt_or_ge k 46 with q | q
            ·
              rcases Nat.lt_or_ge k 45 with q | q
              ·
                have e : k = 44 := by omega
                subst e
                exact mp_44
              ·
                have e : k = 45 := by omega
                subst e
                exact mp_45
            ·
              rcases Nat.lt_or_ge k 47 with q | q
              ·
                have e : k = 46 := by omega
                subst e
                exact mp_46
              ·
                have e : k = 47 := by omega
                subst e
                exact mp_47
        ·
          rcases Nat.lt_or_ge k 51 with q | q
          ·
            rcases Nat.lt_or_ge k 49 with q | q
            ·
              have e : k = 48 := by omega
              subst e
              exact mp_48
            ·
              rcases Nat.lt_or_ge k 50 with q | q
              ·
                have e : k = 49 := by omega
                subst e
                exact mp_49
              ·
                have e : k = 50 := by omega
                subst e
                exact mp_50
          ·
            rcases Nat.lt_or_ge k 53 with q | q
            ·
              rcases Nat.lt_or_ge k 52 with q | q
              ·
                have e : k = 51 := by omega
                subst e
                exact mp_51
              ·
                have e : k = 52 := by omega
                subst e
                exact mp_52
            ·
              rcases Nat.lt_or_ge k 54 with q | q
              ·
                have e : k = 53 := by omega
                subst e
                exact mp_53
              ·
                have e : k = 54 := by omega
                subst e
                exact mp_54
  ·
    rcases Nat.lt_or_ge k 83 with q | q
    ·
      rcases Nat.lt_or_ge k 69 with q | q
      ·
        rcases Nat.lt_or_ge k 62 with q | q
        ·
          rcases Nat.lt_or_ge k 58 with q | q
          ·
            rcases Nat.lt_or_ge k 56 with q | q
            ·
              have e : k = 55 := by omega
              subst e
              exact mp_55
            ·
              rcases Nat.lt_or_ge k 57 with q | q
              ·
                have e : k = 56 := by omega
                subst e
                exact mp_56
              ·
                have e : k = 57 := by omega
                subst e
                exact mp_57
          ·
            rcases Nat.lt_or_ge k 60 with q | q
            ·
              rcases Nat.lt_or_ge k 59 with q | q
              ·
                have e : k = 58 := by omega
                subst e
                exact mp_58
              ·
                have e : k = 59 := by omega
                subst e
                exact mp_59
            ·
              rcases Nat.lt_or_ge k 61 with q | q
              ·
                have e : k = 60 := by omega
                subst e
                exact mp_60
              ·
                have e : k = 61 := by omega
                subst e
                exact mp_61
        ·
          rcases Nat.lt_or_ge k 65 with q | q
          ·
            rcases Nat.lt_or_ge k 63 with q | q
            ·
              have e : k = 62 := by omega
              subst e
              exact mp_62
            ·
              rcases Nat.lt_or_ge k 64 with q | q
              ·
                have e : k = 63 := by omega
                subst e
                exact mp_63
              ·
                have e : k = 64 := by omega
                subst e
                exact mp_64
          ·
            rcases Nat.lt_or_ge k 67 with q | q
            ·
              rcases Nat.lt_or_ge k 66 with q | q
              ·
                have e : k = 65 := by omega
                subst e
                exact mp_65
              ·
                have e : k = 66 := by omega
                subst e
                exact mp_66
            ·
              rcases Nat.lt_or_ge k 68 with q | q
              ·
                have e : k = 67 := by omega
                subst e
                exact mp_67
              ·
                have e : k = 68 := by omega
                subst e
                exact mp_68
      ·
        rcases Nat.lt_or_ge k 76 with q | q
        ·
          rcases Nat.lt_or_ge k 72 with q | q
          ·
            rcases Nat.lt_or_ge k 70 with q | q
            ·
              have e : k = 69 := by omega
              subst e
              exact mp_69
            ·
              rcases Nat.lt_or_ge k 71 with q | q
              ·
                have e : k = 70 := by omega
                subst e
                exact mp_70
              ·
                have e : k = 71 := by omega
                subst e
                exact mp_71
          ·
            rcases Nat.lt_or_ge k 74 with q | q
            ·
              rcases Nat.lt_or_ge k 73 with q | q
              ·
                have e : k = 72 := by omega
                subst e
                exact mp_72
              ·
                have e : k = 73 := by omega
                subst e
                exact mp_73
            ·
              rcases Nat.lt_or_ge k 75 with q | q
              ·
                have e : k = 74 := by omega
                subst e
                exact mp_74
              ·
                have e : k = 75 := by omega
                subst e
                exact mp_75
        ·
          rcases Nat.lt_or_ge k 79 with q | q
          ·
            rcases Nat.lt_or_ge k 77 with q | q
            ·
              have e : k = 76 := by omega
              subst e
              exact mp_76
            ·
              rcases Nat.lt_or_ge k 78 with q | q
              ·
                have e : k = 77 := by omega
                subst e
                exact mp_77
              ·
                have e : k = 78 := by omega
                subst e
                exact mp_78
          ·
            rcases Nat.lt_or_ge k 81 with q | q
            ·
              rcases Nat.lt_or_ge k 80 with q | q
              ·
                have e : k = 79 := by omega
                subst e
                exact mp_79
              ·
                have e : k = 80 := by omega
                subst e
                exact mp_80
            ·
              rcases Nat.lt_or_ge k 82 with q | q
              ·
                have e : k = 81 := by omega
                subst e
                exact mp_81
              ·
                have e : k = 82 := by omega
                subst e
                exact mp_82
    ·
      rcases Nat.lt_or_ge k 97 with q | q
      ·
        rcases Nat.lt_or_ge k 90 with q | q
        ·
          rcases Nat.lt_or_ge k 86 with q | q
          ·
            rcases Nat.lt_or_ge k 84 with q | q
            ·
              have e : k = 83 := by omega
              subst e
              exact mp_83
            ·
              rcases Nat.lt_or_ge k 85 with q | q
              ·
                have e : k = 84 := by omega
                subst e
                exact mp_84
              ·
                have e : k = 85 := by omega
                subst e
                exact mp_85
          ·
            rcases Nat.lt_or_ge k 88 with q | q
            ·
              rcases Nat.lt_or_ge k 87 with q | q
              ·
                have e : k = 86 := by omega
                subst e
                exact mp_86
              ·
                have e : k = 87 := by omega
                subst e
                exact mp_87
            ·
              rcases Nat.lt_or_ge k 89 with q | q
              ·
                have e : k = 88 := by omega
                subst e
                exact mp_88
              ·
                have e : k = 89 := by omega
                subst e
                exact mp_89
        ·
          rcases Nat.lt_or_ge k 93 with q | q
          ·
            rcases Nat.lt_or_ge k 91 with q | q
            ·
              have e : k = 90 := by omega
              subst e
              exact mp_90
            ·
              rcases Nat.lt_or_ge k 92 with q | q
              ·
                have e : k = 91 := by omega
                subst e
                exact mp_91
              ·
                have e : k = 92 := by omega
                subst e
                exact mp_92
          ·
            rcases Nat.lt_or_ge k 95 with q | q
            ·
              rcases Nat.lt_or_ge k 94 with q | q
              ·
                have e : k = 93 := by omega
                subst e
                exact mp_93
              ·
                have e : k = 94 := by omega
                subst e
                exact mp_94
            ·
              rcases Nat.lt_or_ge k 96 with q | q
              ·
                have e : k = 95 := by omega
                subst e
                exact mp_95
              ·
                have e : k = 96 := by omega
                subst e
                exact mp_96
      ·
        rcases Nat.lt_or_ge k 104 with q | q
        ·
          rcases Nat.lt_or_ge k 100 with q | q
          ·
            rcases Nat.lt_or_ge k 98 with q | q
            ·
              have e : k = 97 := by omega
              subst e
              exact mp_97
            ·
              rcases Nat.lt_or_ge k 99 with q | q
              ·
                have e : k = 98 := by omega
                subst e
                exact mp_98
              ·
                have e : k = 99 := by omega
                subst e
                exact mp_99
          ·
            rcases Nat.lt_or_ge k 102 with q | q
            ·
              rcases Nat.lt_or_ge k 101 with q | q
              ·
                have e : k = 100 := by omega
                subst e
                exact mp_100
              ·
                have e : k = 101 := by omega
                subst e
                exact mp_101
            ·
              rcases Nat.lt_or_ge k 103 with q | q
              ·
                have e : k = 102 := by omega
                subst e
                exact mp_102
              ·
                have e : k = 103 := by omega
                subst e
                exact mp_103
        ·
          rcases Nat.lt_or_ge k 107 with q | q
          ·
            rcases Nat.lt_or_ge k 105 with q | q
            ·
              have e : k = 104 := by omega
              subst e
              exact mp_104
            ·
              rcases Nat.lt_or_ge k 106 with q | q
              ·
                have e : k = 105 := by omega
                subst e
                exact mp_105
              ·
                have e : k = 106 := by omega
                subst e
                exact mp_106
          ·
            rcases Nat.lt_or_ge k 109 with q | q
            ·
              rcases Nat.lt_or_ge k 108 with q | q
              ·
                have e : k = 107 := by omega
                subst e
                exact mp_107
              ·
                have e : k = 108 := by omega
                subst e
                exact mp_108
            ·
              rcases Nat.lt_or_ge k 110 with q | q
              ·
                have e : k = 109 := by omega
                subst e
                exact mp_109
              ·
                have e : k = 110 := by omega
                subst e
                exact mp_110
end
section
theorem blw_0 : okB (m_b 111) (m_cn 111) (m_kd 111) (rkf (m_ret 111)) 0 s_L_law_0 = true := by decide +kernel
theorem blw_119 : okB (m_b 111) (m_cn 111) (m_kd 111) (rkf (m_ret 111)) 119 s_L_law_119 = true := by decide +kernel
theorem blw_120 : okB (m_b 111) (m_cn 111) (m_kd 111) (rkf (m_ret 111)) 120 s_L_law_120 = true := by decide +kernel
theorem blw_125 : okB (m_b 111) (m_cn 111) (m_kd 111) (rkf (m_ret 111)) 125 s_L_law_125 = true := by decide +kernel
theorem blw_147 : okB (m_b 111) (m_cn 111) (m_kd 111) (rkf (m_ret 111)) 147 s_L_law_147 = true := by decide +kernel
theorem blw_159 : okB (m_b 111) (m_cn 111) (m_kd 111) (rkf (m_ret 111)) 159 s_L_law_159 = true := by decide +kernel
theorem blw_170 : okB (m_b 111) (m_cn 111) (m_kd 111) (rkf (m_ret 111)) 170 s_L_law_170 = true := by decide +kernel
theorem blw_181 : okB (m_b 111) (m_cn 111) (m_kd 111) (rkf (m_ret 111)) 181 s_L_law_181 = true := by decide +kernel
theorem blw_191 : okB (m_b 111) (m_cn 111) (m_kd 111) (rkf (m_ret 111)) 191 s_L_law_191 = true := by decide +kernel
theorem blw_225 : okB (m_b 111) (m_cn 111) (m_kd 111) (rkf (m_ret 111)) 225 s_L_law_225 = true := by decide +kernel
theorem blw_237 : okB (m_b 111) (m_cn 111) (m_kd 111) (rkf (m_ret 111)) 237 s_L_law_237 = true := by decide +kernel
theorem blw_256 : okB (m_b 111) (m_cn 111) (m_kd 111) (rkf (m_ret 111)) 256 s_L_law_256 = true := by decide +kernel
theorem blw_268 : okB (m_b 111) (m_cn 111) (m_kd 111) (rkf (m_ret 111)) 268 s_L_law_268 = true := by decide +kernel
theorem blw_280 : okB (m_b 111) (m_cn 111) (m_kd 111) (rkf (m_ret 111)) 280 s_L_law_280 = true := by decide +kernel
theorem blw_282 : okB (m_b 111) (m_cn 111) (m_kd 111) (rkf (m_ret 111)) 282 s_L_law_282 = true := by decide +kernel
theorem blw_342 : okB (m_b 111) (m_cn 111) (m_kd 111) (rkf (m_ret 111)) 342 s_L_law_342 = true := by decide +kernel
theorem blw_346 : okB (m_b 111) (m_cn 111) (m_kd 111) (rkf (m_ret 111)) 346 s_L_law_346 = true := by decide +kernel
theorem blw_347 : okB (m_b 111) (m_cn 111) (m_kd 111) (rkf (m_ret 111)) 347 s_L_law_347 = true := by decide +kernel
theorem blw_355 : okB (m_b 111) (m_cn 111) (m_kd 111) (rkf (m_ret 111)) 355 s_L_law_355 = true := by decide +kernel
set_option maxRecDepth 100000 in
theorem bl_law : blP 111 := by
  show ∀ q ∈ m_bl 111, okB (m_b 111) (m_cn 111) (m_kd 111) (rkf (m_ret 111)) q.1 q.2 = true
  exact List.forall_mem_cons.mpr ⟨blw_0, List.forall_mem_cons.mpr ⟨blw_119, List.forall_mem_cons.mpr ⟨blw_120, List.forall_mem_cons.mpr ⟨blw_125, List.forall_mem_cons.mpr ⟨blw_147, List.forall_mem_cons.mpr ⟨blw_159, List.forall_mem_cons.mpr ⟨blw_170, List.forall_mem_cons.mpr ⟨blw_181, List.forall_mem_cons.mpr ⟨blw_191, List.forall_mem_cons.mpr ⟨blw_225, List.forall_mem_cons.mpr ⟨blw_237, List.forall_mem_cons.mpr ⟨blw_256, List.forall_mem_cons.mpr ⟨blw_268, List.forall_mem_cons.mpr ⟨blw_280, List.forall_mem_cons.mpr ⟨blw_282, List.forall_mem_cons.mpr ⟨blw_342, List.forall_mem_cons.mpr ⟨blw_346, List.forall_mem_cons.mpr ⟨blw_347, List.forall_mem_cons.mpr ⟨blw_355, fun _ h => absurd h List.not_mem_nil⟩⟩⟩⟩⟩⟩⟩⟩⟩⟩⟩⟩⟩⟩⟩⟩⟩⟩⟩
end
section
/-! A MODEL MACHINE: methods as blocks of instructions over cells that are numbered from 1 (0: the script); all answers are reckoned by functions. -/
/-- the law's numbers out of its constants -/
def cstT : List ((Nat × Nat) × Int32) := [((11, 7), 2147483647), ((11, 80), 1000000), ((11, 154), 60000)]
theorem cstT_ok : ∀ q ∈ cstT, Cond.constant (cnm q.1.1) q.1.2 q.2 ∈ lwg := by
  intro q h
  simp only [cstT, List.mem_cons, List.not_mem_nil, or_false] at h
  rcases h with rfl | rfl | rfl
  · exact lwi 260 (by decide +kernel) (by decide +kernel)
  · exact lwi 712 (by decide +kernel) (by decide +kernel)
  · exact lwi 784 (by decide +kernel) (by decide +kernel)
/-- an object (class, fields), ints, longs, references (kind 0: rows of ints, 1: plants) -/
abbrev MC : Type := (Nat × List Value) ⊕ ((Nat × (Nat → Int32)) ⊕ ((Nat × (Nat → Int64)) ⊕ (Nat × Nat × (Nat → Option Nat))))
/-- how many cells, whether no more are made, what they hold -/
abbrev MH : Type := Nat × Bool × (Nat → Option MC)
/-- place, instructions ahead, locals, stack, heap, cells and slots made so far -/
abbrev Cfg : Type := Nat × List Ent × List (Option Value) × List Value × MH × Nat × Nat
abbrev Res : Type := (Option Value ⊕ Nat) × MH × Nat × Nat
abbrev Out : Type := Cfg ⊕ (Res ⊕ (Nat × List Value × Cfg))
abbrev mO (ci : Nat) (fs : List Value) : MC := .inl (ci, fs)
abbrev mI (n : Nat) (f : Nat → Int32) : MC := .inr (.inl (n, f))
abbrev mJ (n : Nat) (f : Nat → Int64) : MC := .inr (.inr (.inl (n, f)))
abbrev mQ (t n : Nat) (g : Nat → Option Nat) : MC := .inr (.inr (.inr (t, n, g)))
def hup (h : MH) (a : Nat) (x : MC) : MH := (h.1, h.2.1, fun j => if j = a then some x else h.2.2 j)
def hpush (h : MH) (x : MC) : MH := (h.1 + 1, h.2.1, fun j => if j = h.1 + 1 then some x else h.2.2 j)
def hgrid (h : MH) (n m : Nat) : MH := (h.1 + 1 + n, h.2.1, fun j => if j = h.1 + 1 then some (mQ 0 n (fun i => if i < n then some (h.1 + 2 + i) else none)) else if h.1 + 1 < j ∧ j ≤ h.1 + 1 + n then some (mI m (fun _ => 0)) else h.2.2 j)
/-- the throw of an exception: its cell, which nobody reads -/
def hth (h : MH) : MH := (h.1 + 1, h.2.1, h.2.2)
def mk_tg (pc : Nat) (off : Int) : Option Nat := if 0 ≤ (pc : Int) + off then some ((pc : Int) + off).toNat else none
def nx (pc : Nat) (is : List Ent) (lv : List (Option Value)) (st : List Value) (h : MH) (c s : Nat) : Option Out := some (.inl (pc, is, lv, st, h, c, s))
def jp (pc : Nat) (off : Int) (lv : List (Option Value)) (st : List Value) (h : MH) (c s : Nat) : Option Out := match mk_tg pc off with
  | some t => nx t [] lv st h c s
  | none => none
def icm (cd : ClassFile.Cond) (x y : Int32) : Bool := match cd with
  | .eq => decide (x = y)
  | .ne => !decide (x = y)
  | .lt => decide (x < y)
  | .ge => decide (y ≤ x)
  | .gt => decide (y < x)
  | .le => decide (x ≤ y)
def tyv (z : Nat) (v : Value) : Bool := match v with
  | .int _ => z % 2 == 0
  | .ref _ => z % 2 == 1
  | _ => false
def s_iload (n : Nat) (pc : Nat) (is : List Ent) (lv : List (Option Value)) (st : List Value) (h : MH) (c s : Nat) : Option Out := match lv[n]? with
  | some (some (.int v)) => nx pc is lv (.int v :: st) h c s
  | _ => none
def s_aload (n : Nat) (pc : Nat) (is : List Ent) (lv : List (Option Value)) (st : List Value) (h : MH) (c s : Nat) : Option Out := match lv[n]? with
  | some (some (.ref v)) => nx pc is lv (.ref v :: st) h c s
  | _ => none
def s_istore (n : Nat) (pc : Nat) (is : List Ent) (lv : List (Option Value)) (st : List Value) (h : MH) (c s : Nat) : Option Out := match st with
  | .int v :: st => if n < lv.length then nx pc is (lv.set n (some (.int v))) st h c s else none
  | _ => none
def s_astore (n : Nat) (pc : Nat) (is : List Ent) (lv : List (Option Value)) (st : List Value) (h : MH) (c s : Nat) : Option Out := match st with
  | .ref v :: st => if n < lv.length then nx pc is (lv.set n (some (.ref v))) st h c s else none
  | _ => none
def s_iinc (n : Nat) (d : Int) (pc : Nat) (is : List Ent) (lv : List (Option Value)) (st : List Value) (h : MH) (c s : Nat) : Option Out := match lv[n]? with
  | some (some (.int v)) => nx pc is (lv.set n (some (.int (v + Int32.ofInt d)))) st h c s
  | _ => none
def s_bin (f : Int32 → Int32 → Int32) (pc : Nat) (is : List Ent) (lv : List (Option Value)) (st : List Value) (h : MH) (c s : Nat) : Option Out := match st with
  | .int y :: .int x :: st => nx pc is lv (.int (f x y) :: st) h c s
  | _ => none
def s_div (f : Int32 → Int32 → Int32) (pc : Nat) (is : List Ent) (lv : List (Option Value)) (st : List Value) (h : MH) (c s : Nat) : Option Out := match st with
  | .int y :: .int x :: st => if y = 0 then none else nx pc is lv (.int (f x y) :: st) h c s
  | _ => none
def s_un (f : Int32 → Int32) (pc : Nat) (is : List Ent) (lv : List (Option Value)) (st : List Value) (h : MH) (c s : Nat) : Option Out := match st with
  | .int x :: st => nx pc is lv (.int (f x) :: st) h c s
  | _ => none
def s_i2l (pc : Nat) (is : List Ent) (lv : List (Option Value)) (st : List Value) (h : MH) (c s : Nat) : Option Out := match st with
  | .int x :: st => nx pc is lv (.long x.toInt64 :: st) h c s
  | _ => none
def s_lcmp (pc : Nat) (is : List Ent) (lv : List (Option Value)) (st : List Value) (h : MH) (c s : Nat) : Option Out := match st with
  | .long y :: .long x :: st => nx pc is lv (.int (lg_cmp x y) :: st) h c s
  | _ => none
def s_dup (pc : Nat) (is : List Ent) (lv : List (Option Value)) (st : List Value) (h : MH) (c s : Nat) : Option Out := match st with
  | v :: st => if v.category = 1 then nx pc is lv (v :: v :: st) h c s else none
  | _ => none
def s_dup2 (pc : Nat) (is : List Ent) (lv : List (Option Value)) (st : List Value) (h : MH) (c s : Nat) : Option Out := match st with
  | v :: w :: st => if v.category = 1 ∧ w.category = 1 then nx pc is lv (v :: w :: v :: w :: st) h c s else none
  | _ => none
def s_ldc (cn ix p0 pc : Nat) (is : List Ent) (lv : List (Option Value)) (st : List Value) (h : MH) (c s : Nat) : Option Out := if pc = p0 + 2 then (match cstT.lookup (cn, ix) with
  | some v => nx pc is lv (.int v :: st) h c s
  | none => none) else none
def s_pop (pc : Nat) (is : List Ent) (lv : List (Option Value)) (st : List Value) (h : MH) (c s : Nat) : Option Out := match st with
  | v :: st => if v.category = 1 then nx pc is lv st h c s else none
  | _ => none
def s_icmp (cd : ClassFile.Cond) (off : Int) (p0 pc : Nat) (is : List Ent) (lv : List (Option Value)) (st : List Value) (h : MH) (c s : Nat) : Option Out := match st with
  | .int y :: .int x :: st => match mk_tg p0 off with
    | some t => if icm cd x y = true then nx t [] lv st h c s else nx pc is lv st h c s
    | none => none
  | _ => none
def s_if (cd : ClassFile.Cond) (off : Int) (p0 pc : Nat) (is : List Ent) (lv : List (Option Value)) (st : List Value) (h : MH) (c s : Nat) : Option Out := match st with
  | .int x :: st => match mk_tg p0 off with
    | some t => if icm cd x 0 = true then nx t [] lv st h c s else nx pc is lv st h c s
    | none => none
  | _ => none
def s_table (d lo hi : Int) (offs : Array Int) (p0 : Nat) (lv : List (Option Value)) (st : List Value) (h : MH) (c s : Nat) : Option Out := match st with
  | .int x :: st => if x.toInt < lo ∨ hi < x.toInt then jp p0 d lv st h c s else match offs[(x.toInt - lo).toNat]? with
    | some o => jp p0 o lv st h c s
    | none => none
  | _ => none
def s_getf (x y : Nat) (pc : Nat) (is : List Ent) (lv : List (Option Value)) (st : List Value) (h : MH) (c s : Nat) : Option Out := match st with
  | .ref a :: st => match h.2.2 a with
    | some (.inl (ci, fs)) => if ci = x then match fs[y]? with
      | some v => nx pc is lv (v :: st) h c s
      | none => none
      else none
    | _ => none
  | _ => none
def s_putf (x y z : Nat) (pc : Nat) (is : List Ent) (lv : List (Option Value)) (st : List Value) (h : MH) (c s : Nat) : Option Out := match st with
  | v :: .ref a :: st => match h.2.2 a with
    | some (.inl (ci, fs)) => if ci = x ∧ y < fs.length ∧ tyv z v = true then nx pc is lv st (hup h a (mO ci (fs.set y v))) c s else none
    | _ => none
  | _ => none
def s_iald (pc : Nat) (is : List Ent) (lv : List (Option Value)) (st : List Value) (h : MH) (c s : Nat) : Option Out := match st with
  | .int i :: .ref a :: st => match h.2.2 a with
    | some (.inr (.inl (n, f))) => if i < 0 ∨ n ≤ i.toNatClampNeg then none else nx pc is lv (.int (f i.toNatClampNeg) :: st) h c s
    | _ => none
  | _ => none
def s_iast (pc : Nat) (is : List Ent) (lv : List (Option Value)) (st : List Value) (h : MH) (c s : Nat) : Option Out := match st with
  | .int x :: .int i :: .ref a :: st => if a = 0 then none else match h.2.2 a with
    | some (.inr (.inl (n, f))) => if i < 0 ∨ n ≤ i.toNatClampNeg then none else nx pc is lv st (hup h a (mI n (upd f i.toNatClampNeg x))) c s
    | _ => none
  | _ => none
def s_aald (pc : Nat) (is : List Ent) (lv : List (Option Value)) (st : List Value) (h : MH) (c s : Nat) : Option Out := match st with
  | .int i :: .ref a :: st => match h.2.2 a with
    | some (.inr (.inr (.inr (_, n, g)))) => if i < 0 ∨ n ≤ i.toNatClampNeg then none else match g i.toNatClampNeg with
      | some q => nx pc is lv (.ref q :: st) h c s
      | none => none
    | _ => none
  | _ => none
def s_aast (pc : Nat) (is : List Ent) (lv : List (Option Value)) (st : List Value) (h : MH) (c s : Nat) : Option Out := match st with
  | .ref q :: .int i :: .ref a :: st => match h.2.2 a with
    | some (.inr (.inr (.inr (t, n, g)))) => if i < 0 ∨ n ≤ i.toNatClampNeg ∨ q = 0 then none else match h.2.2 q with
      | some (.inl (ci, _)) => if t = 1 ∧ ci = 3 then nx pc is lv st (hup h a (mQ t n (va_up g i.toNatClampNeg (some q)))) c s else none
      | some (.inr (.inl _)) => if t = 0 then nx pc is lv st (hup h a (mQ t n (va_up g i.toNatClampNeg (some q)))) c s else none
      | _ => none
    | _ => none
  | _ => none
def s_alen (pc : Nat) (is : List Ent) (lv : List (Option Value)) (st : List Value) (h : MH) (c s : Nat) : Option Out := match st with
  | .ref a :: st => match h.2.2 a with
    | some (.inr (.inl (n, _))) => nx pc is lv (.int (Int32.ofNat n) :: st) h c s
    | _ => none
  | _ => none
def s_newa (at' : ClassFile.ArrayType) (pc : Nat) (is : List Ent) (lv : List (Option Value)) (st : List Value) (h : MH) (c s : Nat) : Option Out := match st with
  | .int n :: st => if h.2.1 = true ∨ n < 0 ∨ 100 < n.toNatClampNeg then none else match at' with
    | .int => nx pc is lv (.ref (h.1 + 1) :: st) (hpush h (mI n.toNatClampNeg (fun _ => 0))) (c + 1) (s + n.toNatClampNeg)
    | _ => none
  | _ => none
def s_ana (pc : Nat) (is : List Ent) (lv : List (Option Value)) (st : List Value) (h : MH) (c s : Nat) : Option Out := match st with
  | .int n :: st => if h.2.1 = true ∨ n < 0 ∨ 100 < n.toNatClampNeg then none else nx pc is lv (.ref (h.1 + 1) :: st) (hpush h (mQ 1 n.toNatClampNeg (fun _ => none))) (c + 1) (s + n.toNatClampNeg)
  | _ => none
def s_mna (pc : Nat) (is : List Ent) (lv : List (Option Value)) (st : List Value) (h : MH) (c s : Nat) : Option Out := match st with
  | .int m :: .int n :: st => if h.2.1 = true ∨ n < 0 ∨ 100 < n.toNatClampNeg ∨ m < 0 ∨ 100 < m.toNatClampNeg then none else nx pc is lv (.ref (h.1 + 1) :: st) (hgrid h n.toNatClampNeg m.toNatClampNeg) (c + 1 + n.toNatClampNeg) (s + n.toNatClampNeg + n.toNatClampNeg * m.toNatClampNeg)
  | _ => none
/-- new X: an object, or the throw of an exception, as one -/
def s_new (cn ix x : Nat) (pc : Nat) (is : List Ent) (lv : List (Option Value)) (st : List Value) (h : MH) (c s : Nat) : Option Out :=
  if x < 8 then (if h.2.1 = true then none else nx pc is lv (.ref (h.1 + 1) :: st) (hpush h (mO x (dfl x))) (c + 1) (s + (dfl x).length))
  else match is with
    | (.dup, 1, _) :: (.ldc si, 2, _) :: (.invokespecial ic, 3, _) :: (.athrow, 1, _) :: _ => if (cn, x - 100, ix, ic, si) ∈ thrT ∧ st = [] then some (.inr (.inl (.inr (x - 100), hth h, c + 1, s + 6))) else none
    | (.dup, 1, _) :: (.ldc_w si, 3, _) :: (.invokespecial ic, 3, _) :: (.athrow, 1, _) :: _ => if (cn, x - 100, ix, ic, si) ∈ thrT ∧ st = [] then some (.inr (.inl (.inr (x - 100), hth h, c + 1, s + 6))) else none
    | _ => none

def okar (ar : List Value) : Prop := ∀ v ∈ ar, v.category = 1
def s_inv (x m pc : Nat) (is : List Ent) (lv : List (Option Value)) (st : List Value) (h : MH) (c s : Nat) : Option Out :=
  if m ≤ st.length ∧ ((st.drop m).map fun v => v.category).sum ≤ 8 ∧ ((st.take m).all fun v => v.category == 1) = true then some (.inr (.inr (x, (st.take m).reverse, (pc, is, lv, st.drop m, h, c, s)))) else none
/-- a call of an object's method: the receiver is an object of class z -/
def s_invO (x y z pc : Nat) (is : List Ent) (lv : List (Option Value)) (st : List Value) (h : MH) (c s : Nat) : Option Out := match st[y]? with
  | some (.ref a) => match h.2.2 a with
    | some (.inl (ci, _)) => if ci = z then s_inv x (y + 1) pc is lv st h c s else none
    | _ => none
  | _ => none
def s_invI (x y pc : Nat) (is : List Ent) (lv : List (Option Value)) (st : List Value) (h : MH) (c s : Nat) : Option Out := match st[y]? with
  | some (.ref _) => if x = 9999 then (match st with
    | .ref _ :: st => if (st.map fun v => v.category).sum ≤ 8 then nx pc is lv st h c s else none
    | _ => none) else s_inv x (y + 1) pc is lv st h c s
  | _ => none
def s_ret (r : Option Value ⊕ Nat) (h : MH) (c s : Nat) : Option Out := some (.inr (.inl (r, h, c, s)))
def s_iret (x : Nat) (st : List Value) (h : MH) (c s : Nat) : Option Out := match st with
  | [.int v] => if x = 0 ∨ v = 0 ∨ v = 1 then s_ret (.inl (some (.int v))) h c s else none
  | _ => none
def s_aret (st : List Value) (h : MH) (c s : Nat) : Option Out := match st with
  | [.ref a] => s_ret (.inl (some (.ref a))) h c s
  | _ => none
def s_vret (st : List Value) (h : MH) (c s : Nat) : Option Out := match st with
  | [] => s_ret (.inl none) h c s
  | _ => none
def stepI (cn : Nat) (i : ClassFile.Instr) (x y z : Nat) (p0 pc : Nat) (is : List Ent) (lv : List (Option Value)) (st : List Value) (h : MH) (c s : Nat) : Option Out := match i with
  | .iload n => s_iload n pc is lv st h c s
  | .iload_n n => s_iload n pc is lv st h c s
  | .aload n => s_aload n pc is lv st h c s
  | .aload_n n => s_aload n pc is lv st h c s
  | .istore n => s_istore n pc is lv st h c s
  | .istore_n n => s_istore n pc is lv st h c s
  | .astore n => s_astore n pc is lv st h c s
  | .astore_n n => s_astore n pc is lv st h c s
  | .iinc n d => s_iinc n d pc is lv st h c s
  | .iconst n => nx pc is lv (.int (Int32.ofInt n) :: st) h c s
  | .bipush n => nx pc is lv (.int (Int8.ofInt n).toInt32 :: st) h c s
  | .sipush n => nx pc is lv (.int (Int16.ofInt n).toInt32 :: st) h c s
  | .iadd => s_bin (· + ·) pc is lv st h c s
  | .isub => s_bin (· - ·) pc is lv st h c s
  | .imul => s_bin (· * ·) pc is lv st h c s
  | .iand => s_bin (· &&& ·) pc is lv st h c s
  | .ishr => s_bin (fun x y => x >>> (y &&& 31)) pc is lv st h c s
  | .idiv => s_div (· / ·) pc is lv st h c s
  | .irem => s_div (fun x y => x - x / y * y) pc is lv st h c s
  | .ineg => s_un (fun x => -x) pc is lv st h c s
  | .i2l => s_i2l pc is lv st h c s
  | .lcmp => s_lcmp pc is lv st h c s
  | .dup => s_dup pc is lv st h c s
  | .ldc ix => s_ldc cn ix p0 pc is lv st h c s
  | .dup2 => s_dup2 pc is lv st h c s
  | .pop => s_pop pc is lv st h c s
  | .if_icmp cd off => s_icmp cd off p0 pc is lv st h c s
  | .ifCond cd off => s_if cd off p0 pc is lv st h c s
  | .goto off => jp p0 off lv st h c s
  | .tableswitch d lo hi offs => s_table d lo hi offs p0 lv st h c s
  | .getfield _ => s_getf x y pc is lv st h c s
  | .putfield _ => s_putf x y z pc is lv st h c s
  | .iaload => s_iald pc is lv st h c s
  | .iastore => s_iast pc is lv st h c s
  | .aaload => s_aald pc is lv st h c s
  | .aastore => s_aast pc is lv st h c s
  | .arraylength => s_alen pc is lv st h c s
  | .newarray t => s_newa t pc is lv st h c s
  | .anewarray _ => s_ana pc is lv st h c s
  | .multianewarray _ _ => s_mna pc is lv st h c s
  | .new ix => s_new cn ix x pc is lv st h c s
  | .invokestatic _ => s_inv x y pc is lv st h c s
  | .invokevirtual _ => s_invO x y z pc is lv st h c s
  | .invokespecial _ => s_invI x y pc is lv st h c s
  | .ireturn => s_iret x st h c s
  | .areturn => s_aret st h c s
  | .return_ => s_vret st h c s
  | _ => none
def step (k : Nat) (g : Cfg) : Option Out := match g with
  | (pc, [], lv, st, h, c, s) => match (m_bl k).lookup pc with
    | some is => nx pc is lv st h c s
    | none => none
  | (pc, (i, len, x, y, z) :: is, lv, st, h, c, s) => stepI (m_cn k) i x y z pc (pc + len) is lv st h c s
/-- where a call at pc goes on that has thrown E -/
def hnd (pc E : Nat) : List (Nat × Nat × Nat × Nat) → Option Nat
  | [] => none
  | q :: hh => if q.1 ≤ pc ∧ pc < q.2.1 then (match ctT.lookup q.2.2.2 with
    | some E' => if E' = E then some q.2.2.1 else hnd pc E hh
    | none => none) else hnd pc E hh
/-- the run of one method's instructions, where C says what the callees do -/
def runR (C : Nat → List Value → MH → Res → Prop) (k : Nat) : Nat → Cfg → Res → Prop
  | 0, _, _ => False
  | f + 1, g, r => match step k g with
    | none => False
    | some (.inl g') => runR C k f g' r
    | some (.inr (.inl r')) => r = r'
    | some (.inr (.inr (x, ar, (pc, is, lv, st, h, c, s)))) => ∃ q, C x ar h q ∧ (match q with
      | (.inl v, h', c', s') => runR C k f (pc, is, lv, v.toList ++ st, h', c + c', s + s') r
      | (.inr E, h', c', s') => match m_hh k with
        | [] => r = (.inr E, h', c + c', s + s')
        | hh => match hnd (pc - 3) E hh with
          | none => False
          | some t => match (m_bl k).lookup t with
            | some ((.astore n, 2, _) :: is') => runR C k f (t + 2, is', lv.set n none, [], h', c + c', s + s') r
            | some ((.astore_n n, 1, _) :: is') => runR C k f (t + 1, is', lv.set n none, [], h', c + c', s + s') r
            | _ => False)
def Rn (C : Nat → List Value → MH → Res → Prop) (k : Nat) (g : Cfg) (r : Res) : Prop := ∃ f, runR C k f g r
def lv0 (n : Nat) (ar : List Value) : List (Option Value) := ar.map some ++ List.replicate (n - ar.length) none
/-- method k, called with these, at depth d: its end -/
def Ev : Nat → Nat → List Value → MH → Res → Prop
  | 0, _, _, _, _ => False
  | d + 1, k, ar, h, r => (ar.length ≤ m_L k ∧ okar ar ∧ ((m_kd k = 2 ∨ m_hh k ≠ []) → ∃ v, r.1 = .inl v) ∧ (∀ E, r.1 = .inr E → 6 ≤ d + 1)) ∧ Rn (Ev d) k (0, [], lv0 (m_L k) ar, [], h, 0, 0) r
end
section
/-! THE MODEL MACHINE AND THE MACHINE: how their states belong together. -/
def ad (b sz : Nat) (a : Nat) : Nat := match a with
  | 0 => b
  | a + 1 => sz + a
def cv (b sz : Nat) (v : Value) : Value := match v with
  | .ref a => .ref (ad b sz a)
  | v => v
theorem cv_cat (b sz : Nat) (v : Value) : (cv b sz v).category = v.category := by cases v <;> rfl
theorem cv_cats (b sz : Nat) (st : List Value) : ((st.map (cv b sz)).map fun v => v.category) = st.map fun v => v.category := by
  rw [List.map_map]
  exact List.map_congr_left fun v _ => cv_cat b sz v
/-- the classes of int[], long[], int[][], Plant[] -/
abbrev KK : Type := ClassId × ClassId × ClassId × ClassId
def ce (K : KK) (b sz : Nat) (x : Option MC) : va_E := match x with
  | some (.inl (ci, fs)) => .inr (ci, fs.map (cv b sz))
  | some (.inr (.inl (n, f))) => .inl (K.1, n, .inl f)
  | some (.inr (.inr (.inl (n, f)))) => .inl (K.2.1, n, .inr (.inl f))
  | some (.inr (.inr (.inr (t, n, g)))) => .inl (if t = 0 then K.2.2.1 else K.2.2.2, n, .inr (.inr (.inr (.inr (fun j => (g j).map (ad b sz))))))
  | none => .inr (0, [])
def mkf (K : KK) (b sz : Nat) (h : MH) (i : Nat) : Option (Nat × va_E) := (h.2.2 (i + 1)).map fun x => (sz + i, ce K b sz (some x))
def mkw (K : KK) (b sz : Nat) (h : MH) : va_W := (List.range h.1).filterMap (mkf K b sz h)
/-- where cell a stands in that list -/
def mps (K : KK) (b sz : Nat) (h : MH) (a : Nat) : Nat := ((List.range (a - 1)).filterMap (mkf K b sz h)).length
theorem fm_congr {α : Type} {f g : Nat → Option α} {l : List Nat} (h : ∀ i ∈ l, f i = g i) : l.filterMap f = l.filterMap g := by
  induction l with
  | nil => rfl
  | cons a l ih =>
    have e := ih (fun i hi => h i (List.mem_cons_of_mem _ hi))
    have e2 := h a List.mem_cons_self
    cases q : g a with
    | none => rw [List.filterMap_cons_none (e2.trans q), List.filterMap_cons_none q, e]
    | some x => rw [List.filterMap_cons_some (e2.trans q), List.filterMap_cons_some q, e]
theorem fm_split {α : Type} (f : Nat → Option α) {n k : Nat} {x : α} (hk : f k = some x) (hn : k < n) : ∃ R : List Nat, (List.range n).filterMap f = (List.range k).filterMap f ++ x :: R.filterMap f ∧ ∀ j ∈ R, k < j := by
  obtain ⟨r, rfl⟩ : ∃ r, n = k + 1 + r := ⟨n - (k + 1), by omega⟩
  refine ⟨(List.range r).map (fun i => k + 1 + i), ?_, fun j hj => ?_⟩
  · rw [List.range_add, List.range_succ, List.filterMap_append, List.filterMap_append, List.append_assoc]
    refine congrArg _ ?_
    show (List.filterMap f [k]) ++ _ = _
    rw [List.filterMap_cons_some hk]
    rfl
  · obtain ⟨i, -, rfl⟩ := List.mem_map.mp hj
    omega
theorem mkf_some {K : KK} {b sz : Nat} {h : MH} {a : Nat} {x : MC} (hx : h.2.2 (a + 1) = some x) : mkf K b sz h a = some (ad b sz (a + 1), ce K b sz (some x)) := by
  unfold mkf
  rw [hx]
  rfl
theorem mkw_get {K : KK} {b sz : Nat} {h : MH} {a : Nat} {x : MC} (hx : h.2.2 a = some x) (h0 : a ≠ 0) (hN : a ≤ h.1) : (mkw K b sz h)[mps K b sz h a]? = some (ad b sz a, ce K b sz (some x)) := by
  obtain ⟨i, rfl⟩ : ∃ i, a = i + 1 := ⟨a - 1, by omega⟩
  obtain ⟨R, e, -⟩ := fm_split (mkf K b sz h) (mkf_some hx) (n := h.1) (by omega)
  unfold mkw mps
  rw [e, Nat.add_sub_cancel, List.getElem?_append_right (Nat.le_refl _), Nat.sub_self]
  rfl
theorem mkw_mem {K : KK} {b sz : Nat} {h : MH} {q : Nat × va_E} (hq : q ∈ mkw K b sz h) : sz ≤ q.1 := by
  obtain ⟨i, -, hi⟩ := List.mem_filterMap.mp hq
  unfold mkf at hi
  cases hx : h.2.2 (i + 1) with
  | none => rw [hx] at hi; cases hi
  | some x =>
    rw [hx] at hi
    cases hi
    exact Nat.le_add_right _ _
theorem mkw_lt {K : KK} {b sz : Nat} {h : MH} : (mkw K b sz h).Pairwise (fun p q => p.1 < q.1) := by
  unfold mkw
  refine List.Pairwise.filterMap (R := fun i j : Nat => i < j) (S := fun p q : Nat × va_E => p.1 < q.1) (mkf K b sz h) ?_ List.pairwise_lt_range
  intro i j hij p hp q hq
  unfold mkf at hp hq
  cases hx : h.2.2 (i + 1) with
  | none => rw [hx] at hp; cases hp
  | some x =>
    cases hy : h.2.2 (j + 1) with
    | none => rw [hy] at hq; cases hq
    | some y =>
      rw [hx] at hp
      rw [hy] at hq
      cases hp
      cases hq
      show sz + i < sz + j
      omega
theorem mkw_D {K : KK} {b sz : Nat} {h : MH} : va_D (fun q => sz ≤ q) (mkw K b sz h) := by
  refine ⟨fun i j p q hi hj e => ?_, fun k q hk => mkw_mem (List.mem_of_getElem? hk)⟩
  have hp := List.pairwise_iff_getElem.mp (mkw_lt (K := K) (b := b) (sz := sz) (h := h))
  obtain ⟨li, ei⟩ := List.getElem?_eq_some_iff.mp hi
  obtain ⟨lj, ej⟩ := List.getElem?_eq_some_iff.mp hj
  rcases Nat.lt_trichotomy i j with c | c | c
  · have := hp i j li lj c
    rw [ei, ej] at this
    omega
  · exact c
  · have := hp j i lj li c
    rw [ei, ej] at this
    omega
theorem mkw_set {K : KK} {b sz : Nat} {h : MH} {a : Nat} {x y : MC} (hy : h.2.2 a = some y) (h0 : a ≠ 0) (hN : a ≤ h.1) : (mkw K b sz h).set (mps K b sz h a) (ad b sz a, ce K b sz (some x)) = mkw K b sz (hup h a x) := by
  obtain ⟨i, rfl⟩ : ∃ i, a = i + 1 := ⟨a - 1, by omega⟩
  have hx : (hup h (i + 1) x).2.2 (i + 1) = some x := if_pos rfl
  have hl : i < h.1 := by omega
  unfold mkw mps
  have e0 : (hup h (i + 1) x).1 = h.1 := rfl
  rw [e0, Nat.add_sub_cancel]
  have e1 : ∀ j, j ≠ i → mkf K b sz h j = mkf K b sz (hup h (i + 1) x) j := fun j hj => by
    unfold mkf hup
    simp only [show ¬ j + 1 = i + 1 by omega, if_false]
  obtain ⟨r, hr⟩ : ∃ r, h.1 = i + 1 + r := ⟨h.1 - (i + 1), by omega⟩
  rw [hr, List.range_add, List.range_succ, List.filterMap_append, List.filterMap_append, List.filterMap_append, List.filterMap_append]
  rw [show (List.range i).filterMap (mkf K b sz (hup h (i + 1) x)) = (List.range i).filterMap (mkf K b sz h) from fm_congr (fun j hj => (e1 j (by have := List.mem_range.mp hj; omega)).symm)]
  rw [show ((List.range r).map (fun z => i + 1 + z)).filterMap (mkf K b sz (hup h (i + 1) x)) = ((List.range r).map (fun z => i + 1 + z)).filterMap (mkf K b sz h) from fm_congr (fun j hj => by
    obtain ⟨z, -, rfl⟩ := List.mem_map.mp hj
    exact (e1 _ (by omega)).symm)]
  rw [List.filterMap_cons_some (mkf_some hy), List.filterMap_cons_some (mkf_some hx), List.append_assoc, List.set_append_right _ _ (Nat.le_refl _), Nat.sub_self, List.append_assoc]
  rfl
theorem mkw_push {K : KK} {b sz : Nat} {h : MH} {x : MC} : mkw K b sz h ++ [(sz + h.1, ce K b sz (some x))] = mkw K b sz (hpush h x) := by
  unfold mkw
  have e0 : (hpush h x).1 = h.1 + 1 := rfl
  have hx : (hpush h x).2.2 (h.1 + 1) = some x := if_pos rfl
  rw [e0, List.range_succ, List.filterMap_append, List.filterMap_cons_some (mkf_some hx)]
  refine congrArg (fun l => l ++ _) (fm_congr (fun i hi => ?_))
  have := List.mem_range.mp hi
  unfold mkf hpush
  simp only [show ¬ i + 1 = h.1 + 1 by omega, if_false]
theorem mkw_th {K : KK} {b sz : Nat} {h : MH} (hh : h.2.2 (h.1 + 1) = none) : mkw K b sz (hth h) = mkw K b sz h := by
  unfold mkw
  have e0 : (hth h).1 = h.1 + 1 := rfl
  have hx : mkf K b sz (hth h) h.1 = none := by
    unfold mkf
    rw [show (hth h).2.2 = h.2.2 from rfl, hh]
    rfl
  rw [e0, List.range_succ, List.filterMap_append, List.filterMap_cons_none hx, List.filterMap_nil, List.append_nil]
  rfl
theorem fm_map {α : Type} (f : Nat → Option α) (g : Nat → α) (l : List Nat) (h : ∀ i ∈ l, f i = some (g i)) : l.filterMap f = l.map g := by
  induction l with
  | nil => rfl
  | cons a l ih =>
    rw [List.filterMap_cons_some (h a List.mem_cons_self), List.map_cons, ih (fun i hi => h i (List.mem_cons_of_mem _ hi))]
theorem mkw_grid {K : KK} {b sz : Nat} {h : MH} {n m : Nat} : (mkw K b sz h ++ [(sz + h.1, ce K b sz (some (mQ 0 n (fun i => if i < n then some (h.1 + 2 + i) else none))))]) ++ (List.range n).map (fun i => (sz + h.1 + 1 + i, ce K b sz (some (mI m (fun _ => 0))))) = mkw K b sz (hgrid h n m) := by
  unfold mkw
  have e0 : (hgrid h n m).1 = h.1 + 1 + n := rfl
  have hx : (hgrid h n m).2.2 (h.1 + 1) = some (mQ 0 n (fun i => if i < n then some (h.1 + 2 + i) else none)) := if_pos rfl
  rw [e0, List.range_add, List.range_succ, List.filterMap_append, List.filterMap_append, List.filterMap_cons_some (mkf_some hx)]
  congr 1
  · refine congrArg (fun l => l ++ _) (fm_congr (fun i hi => ?_))
    have := List.mem_range.mp hi
    unfold mkf hgrid
    simp only [show ¬ i + 1 = h.1 + 1 by omega, show ¬ (h.1 + 1 < i + 1 ∧ i + 1 ≤ h.1 + 1 + n) by omega, if_false]
  · rw [List.filterMap_map]
    refine (fm_map _ _ _ (fun i hi => ?_)).symm
    have := List.mem_range.mp hi
    have hy : (hgrid h n m).2.2 (h.1 + 1 + i + 1) = some (mI m (fun _ => 0)) := by
      unfold hgrid
      simp only [show ¬ h.1 + 1 + i + 1 = h.1 + 1 by omega, show (h.1 + 1 < h.1 + 1 + i + 1 ∧ h.1 + 1 + i + 1 ≤ h.1 + 1 + n) by omega, and_self, if_false, if_true]
    rw [show (mkf K b sz (hgrid h n m) ∘ fun x => h.1 + 1 + x) i = mkf K b sz (hgrid h n m) (h.1 + 1 + i) from rfl, mkf_some hy]
    exact congrArg (fun q => some (q, _)) (by show sz + (h.1 + 1 + i) = sz + h.1 + 1 + i; omega)
/-- the heaps belong together -/
def RH (D : va_G) (K : KK) (b sz L : Nat) (xs : Nat → Int32) (H0 : Heap) (h : MH) (H : Heap) (locs : List Loc) : Prop :=
  va_P D vwCl (mkw K b sz h) H ∧ va_S (fun q => sz ≤ q) H0 H locs ∧ (∀ a x, h.2.2 a = some x → a ≤ h.1) ∧ h.2.2 0 = some (mI L xs) ∧ sz + h.1 ≤ H.size
def lvl (b sz : Nat) : Nat → List (Option Value) → List (Nat × Value)
  | _, [] => []
  | i, none :: l => lvl b sz (i + 1) l
  | i, some v :: l => (i, cv b sz v) :: lvl b sz (i + 1) l
theorem lvl_of {b sz : Nat} : ∀ (l : List (Option Value)) (i : Nat) (q : Nat × Value), q ∈ lvl b sz i l → ∃ j v, l[j]? = some (some v) ∧ q = (i + j, cv b sz v)
  | [], _, _, h => by cases h
  | none :: l, i, q, h => by
    obtain ⟨j, v, h1, h2⟩ := lvl_of l (i + 1) q h
    exact ⟨j + 1, v, h1, by rw [h2]; exact congrArg (fun z => (z, _)) (by omega)⟩
  | some v :: l, i, q, h => by
    rcases List.mem_cons.mp h with h | h
    · exact ⟨0, v, rfl, h⟩
    · obtain ⟨j, w, h1, h2⟩ := lvl_of l (i + 1) q h
      exact ⟨j + 1, w, h1, by rw [h2]; exact congrArg (fun z => (z, _)) (by omega)⟩
theorem lvl_in {b sz : Nat} : ∀ (l : List (Option Value)) (i j : Nat) (v : Value), l[j]? = some (some v) → (i + j, cv b sz v) ∈ lvl b sz i l
  | [], _, _, _, h => by simp at h
  | none :: l, i, 0, _, h => by simp at h
  | none :: l, i, j + 1, v, h => by
    have := lvl_in (b := b) (sz := sz) l (i + 1) j v (by simpa using h)
    rw [show i + (j + 1) = i + 1 + j by omega]
    exact this
  | some w :: l, i, 0, v, h => by
    have e : w = v := by simpa using h
    subst e
    exact List.mem_cons_self
  | some w :: l, i, j + 1, v, h => by
    have := lvl_in (b := b) (sz := sz) l (i + 1) j v (by simpa using h)
    rw [show i + (j + 1) = i + 1 + j by omega]
    exact List.mem_cons_of_mem _ this
/-- the locals belong together -/
def LV (b sz nL : Nat) (lv : List (Option Value)) (ls : Array Slot) : Prop := lv.length = nL ∧ (ls.size = nL ∧ lv_wf ls) ∧ ∀ (j : Nat) (v : Value), lv[j]? = some (some v) → ls[j]? = some (Slot.val (cv b sz v)) ∧ v.category = 1
theorem LV.has {b sz nL : Nat} {lv : List (Option Value)} {ls : Array Slot} (h : LV b sz nL lv ls) : lv_has ls nL (lvl b sz 0 lv) := by
  refine ⟨h.2.1.1, h.2.1.2, fun q hq => ?_⟩
  obtain ⟨j, v, h1, rfl⟩ := lvl_of lv 0 q hq
  show ls[0 + j]? = _
  rw [Nat.zero_add]
  exact (h.2.2 j v h1).1
theorem LV.store {b sz nL n : Nat} {lv : List (Option Value)} {ls ls' : Array Slot} {w : Value} (h : LV b sz nL lv ls) (x : Option Value) (hx : ∀ v, x = some v → cv b sz v = w ∧ v.category = 1)
    (h' : lv_has ls' nL ((n, w) :: (lvl b sz 0 lv).filter (fun q => !(q.1 == n) && !(q.1 + 1 == n && q.2.category == 2)))) : LV b sz nL (lv.set n x) ls' := by
  refine ⟨by rw [List.length_set]; exact h.1, ⟨h'.1, h'.2.1⟩, fun j v hj => ?_⟩
  rw [List.getElem?_set] at hj
  by_cases e : n = j
  · subst e
    rw [if_pos rfl] at hj
    by_cases hl : n < lv.length
    · rw [if_pos hl] at hj
      obtain ⟨h1, h2⟩ := hx v (Option.some.inj hj)
      refine ⟨?_, h2⟩
      rw [h1]
      exact h'.2.2 (n, w) List.mem_cons_self
    · rw [if_neg hl] at hj
      cases hj
  · rw [if_neg e] at hj
    refine ⟨h'.2.2 (j, cv b sz v) (List.mem_cons_of_mem _ (List.mem_filter.mpr ⟨?_, ?_⟩)), (h.2.2 j v hj).2⟩
    · have := lvl_in (b := b) (sz := sz) lv 0 j v hj
      rw [Nat.zero_add] at this
      exact this
    · have e1 : ¬ j = n := fun q => e q.symm
      have e2 : (cv b sz v).category = 1 := (cv_cat b sz v).trans (h.2.2 j v hj).2
      simp [e1, e2]
theorem lookup_mem {α : Type} : ∀ (l : List (Nat × α)) (k : Nat) (x : α), l.lookup k = some x → (k, x) ∈ l
  | [], _, _, h => by cases h
  | (i, y) :: l, k, x, h => by
    rw [List.lookup_cons] at h
    by_cases e : k = i
    · subst e
      rw [beq_self_eq_true] at h
      cases h
      exact List.mem_cons_self
    · have e2 : (k == i) = false := by simp [e]
      rw [e2] at h
      exact List.mem_cons_of_mem _ (lookup_mem l k x (by simpa using h))
end
section
/-! Instructions that call nothing and end nothing: if the model goes on, so does the machine. -/
def okS (k pc : Nat) (is : List Ent) : Prop := okB (m_b k) (m_cn k) (m_kd k) (rkf (m_ret k)) pc is = true
theorem okS.nil {k pc : Nat} : okS k pc [] := rfl
theorem okS.dec {k pc len x y z : Nat} {i : ClassFile.Instr} {is : List Ent} (h : okS k pc ((i, len, x, y, z) :: is)) : decode (m_b k) pc = .ok (i, len) := by
  simp only [okS, okB, Bool.and_eq_true, decide_eq_true_eq] at h
  exact h.1.1
theorem okS.ent {k pc len x y z : Nat} {i : ClassFile.Instr} {is : List Ent} (h : okS k pc ((i, len, x, y, z) :: is)) : okE (m_cn k) (m_kd k) (rkf (m_ret k)) (i, len, x, y, z) = true := by
  simp only [okS, okB, Bool.and_eq_true, decide_eq_true_eq] at h
  exact h.1.2
theorem okS.tail {k pc len x y z : Nat} {i : ClassFile.Instr} {is : List Ent} (h : okS k pc ((i, len, x, y, z) :: is)) : okS k (pc + len) is := by
  simp only [okS, okB, Bool.and_eq_true, decide_eq_true_eq] at h
  exact h.2
/-- the machine comes from here, with what the model has here, to a state with Q -/
def MW (p : Program) (l : Launch) (e : Env) (R : Room) (s : State) (m : MethodId) (args : Array Value) (below : List Frame) (meth : Method) (c : Code) (D : va_G) (K : KK) (b sz L : Nat) (xs : Nat → Int32) (Q : State → Prop) (k : Nat) (pc : Nat) (lv : List (Option Value)) (st : List Value) (h : MH) (c0 s0 : Nat) : Prop :=
  ∀ H locs ls, RH D K b sz L xs s.heap h H locs → (h.2.1 = false → s.heap.size + c0 = sz + h.1) → LV b sz (m_L k) lv ls → W p l e R s m args below meth c H locs c0 s0 Q (F0 m pc ls (st.map (cv b sz)))
section PU
variable {p : Program} {l : Launch} {e : Env} {R : Room} {s : State} {m : MethodId} {args : Array Value} {below : List Frame} {meth : Method} {c : Code} {D : va_G} {K : KK} {b sz L : Nat} {xs : Nat → Int32} {Q : State → Prop} {k : Nat}
variable {pc : Nat} {is : List Ent} {lv : List (Option Value)} {st : List Value} {h : MH} {c0 s0 : Nat} {o : Out}
theorem sd_iload_n (hx : p.tables.exec = Jvm.exec) (hb : c.code = m_b k) {n : Fin 4} (d : decode (m_b k) pc = .ok (.iload_n n, 1)) (hs : s_iload n (pc + 1) is lv st h c0 s0 = some o) (kn : ∀ pc' is' lv' st' h' c' s', o = .inl (pc', is', lv', st', h', c', s') → ((pc' = pc + 1 ∧ is' = is) ∨ is' = []) → MW p l e R s m args below meth c D K b sz L xs Q k pc' lv' st' h' c' s') : MW p l e R s m args below meth c D K b sz L xs Q k pc lv st h c0 s0 := by
  intro H locs ls hR hZ hL
  unfold s_iload at hs
  split at hs
  · next v hv =>
    simp only [nx, Option.some.injEq] at hs
    exact lv_iload_n hx hb d rfl ((hL.2.2 _ _ hv).1) (kn _ _ _ _ _ _ _ hs.symm (Or.inl ⟨rfl, rfl⟩) _ _ _ hR hZ hL)
  · cases hs
theorem sd_iload (hx : p.tables.exec = Jvm.exec) (hb : c.code = m_b k) {n : Nat} (d : decode (m_b k) pc = .ok (.iload n, 2)) (hs : s_iload n (pc + 2) is lv st h c0 s0 = some o) (kn : ∀ pc' is' lv' st' h' c' s', o = .inl (pc', is', lv', st', h', c', s') → ((pc' = pc + 2 ∧ is' = is) ∨ is' = []) → MW p l e R s m args below meth c D K b sz L xs Q k pc' lv' st' h' c' s') : MW p l e R s m args below meth c D K b sz L xs Q k pc lv st h c0 s0 := by
  intro H locs ls hR hZ hL
  unfold s_iload at hs
  split at hs
  · next v hv =>
    simp only [nx, Option.some.injEq] at hs
    exact lv_iload hx hb d ((hL.2.2 _ _ hv).1) (kn _ _ _ _ _ _ _ hs.symm (Or.inl ⟨rfl, rfl⟩) _ _ _ hR hZ hL)
  · cases hs
theorem sd_aload_n (hx : p.tables.exec = Jvm.exec) (hb : c.code = m_b k) {n : Fin 4} (d : decode (m_b k) pc = .ok (.aload_n n, 1)) (hs : s_aload n (pc + 1) is lv st h c0 s0 = some o) (kn : ∀ pc' is' lv' st' h' c' s', o = .inl (pc', is', lv', st', h', c', s') → ((pc' = pc + 1 ∧ is' = is) ∨ is' = []) → MW p l e R s m args below meth c D K b sz L xs Q k pc' lv' st' h' c' s') : MW p l e R s m args below meth c D K b sz L xs Q k pc lv st h c0 s0 := by
  intro H locs ls hR hZ hL
  unfold s_aload at hs
  split at hs
  · next v hv =>
    simp only [nx, Option.some.injEq] at hs
    exact lv_aload_n hx hb d rfl ((hL.2.2 _ _ hv).1) (kn _ _ _ _ _ _ _ hs.symm (Or.inl ⟨rfl, rfl⟩) _ _ _ hR hZ hL)
  · cases hs
theorem sd_aload (hx : p.tables.exec = Jvm.exec) (hb : c.code = m_b k) {n : Nat} (d : decode (m_b k) pc = .ok (.aload n, 2)) (hs : s_aload n (pc + 2) is lv st h c0 s0 = some o) (kn : ∀ pc' is' lv' st' h' c' s', o = .inl (pc', is', lv', st', h', c', s') → ((pc' = pc + 2 ∧ is' = is) ∨ is' = []) → MW p l e R s m args below meth c D K b sz L xs Q k pc' lv' st' h' c' s') : MW p l e R s m args below meth c D K b sz L xs Q k pc lv st h c0 s0 := by
  intro H locs ls hR hZ hL
  unfold s_aload at hs
  split at hs
  · next v hv =>
    simp only [nx, Option.some.injEq] at hs
    exact lv_aload hx hb d ((hL.2.2 _ _ hv).1) (kn _ _ _ _ _ _ _ hs.symm (Or.inl ⟨rfl, rfl⟩) _ _ _ hR hZ hL)
  · cases hs
theorem sd_istore_n (hx : p.tables.exec = Jvm.exec) (hb : c.code = m_b k) {n : Fin 4} (d : decode (m_b k) pc = .ok (.istore_n n, 1)) (hs : s_istore n (pc + 1) is lv st h c0 s0 = some o) (kn : ∀ pc' is' lv' st' h' c' s', o = .inl (pc', is', lv', st', h', c', s') → ((pc' = pc + 1 ∧ is' = is) ∨ is' = []) → MW p l e R s m args below meth c D K b sz L xs Q k pc' lv' st' h' c' s') : MW p l e R s m args below meth c D K b sz L xs Q k pc lv st h c0 s0 := by
  intro H locs ls hR hZ hL
  unfold s_istore at hs
  split at hs
  · next v st' =>
    split at hs
    · next hn =>
      simp only [nx, Option.some.injEq] at hs
      exact lv_istore_n hx hb d rfl hL.has (by rw [← hL.1]; exact hn) rfl (fun ls' h' => kn _ _ _ _ _ _ _ hs.symm (Or.inl ⟨rfl, rfl⟩) _ _ _ hR hZ (hL.store (some (.int v)) (fun w hw => by cases hw; exact ⟨rfl, rfl⟩) h'))
    · cases hs
  · cases hs
theorem sd_istore (hx : p.tables.exec = Jvm.exec) (hb : c.code = m_b k) {n : Nat} (d : decode (m_b k) pc = .ok (.istore n, 2)) (hs : s_istore n (pc + 2) is lv st h c0 s0 = some o) (kn : ∀ pc' is' lv' st' h' c' s', o = .inl (pc', is', lv', st', h', c', s') → ((pc' = pc + 2 ∧ is' = is) ∨ is' = []) → MW p l e R s m args below meth c D K b sz L xs Q k pc' lv' st' h' c' s') : MW p l e R s m args below meth c D K b sz L xs Q k pc lv st h c0 s0 := by
  intro H locs ls hR hZ hL
  unfold s_istore at hs
  split at hs
  · next v st' =>
    split at hs
    · next hn =>
      simp only [nx, Option.some.injEq] at hs
      exact lv_istore hx hb d hL.has (by rw [← hL.1]; exact hn) rfl (fun ls' h' => kn _ _ _ _ _ _ _ hs.symm (Or.inl ⟨rfl, rfl⟩) _ _ _ hR hZ (hL.store (some (.int v)) (fun w hw => by cases hw; exact ⟨rfl, rfl⟩) h'))
    · cases hs
  · cases hs
theorem sd_astore_n (hx : p.tables.exec = Jvm.exec) (hb : c.code = m_b k) {n : Fin 4} (d : decode (m_b k) pc = .ok (.astore_n n, 1)) (hs : s_astore n (pc + 1) is lv st h c0 s0 = some o) (kn : ∀ pc' is' lv' st' h' c' s', o = .inl (pc', is', lv', st', h', c', s') → ((pc' = pc + 1 ∧ is' = is) ∨ is' = []) → MW p l e R s m args below meth c D K b sz L xs Q k pc' lv' st' h' c' s') : MW p l e R s m args below meth c D K b sz L xs Q k pc lv st h c0 s0 := by
  intro H locs ls hR hZ hL
  unfold s_astore at hs
  split at hs
  · next v st' =>
    split at hs
    · next hn =>
      simp only [nx, Option.some.injEq] at hs
      exact lv_astore_n hx hb d rfl hL.has (by rw [← hL.1]; exact hn) rfl (fun ls' h' => kn _ _ _ _ _ _ _ hs.symm (Or.inl ⟨rfl, rfl⟩) _ _ _ hR hZ (hL.store (some (.ref v)) (fun w hw => by cases hw; exact ⟨rfl, rfl⟩) h'))
    · cases hs
  · cases hs
theorem sd_astore (hx : p.tables.exec = Jvm.exec) (hb : c.code = m_b k) {n : Nat} (d : decode (m_b k) pc = .ok (.astore n, 2)) (hs : s_astore n (pc + 2) is lv st h c0 s0 = some o) (kn : ∀ pc' is' lv' st' h' c' s', o = .inl (pc', is', lv', st', h', c', s') → ((pc' = pc + 2 ∧ is' = is) ∨ is' = []) → MW p l e R s m args below meth c D K b sz L xs Q k pc' lv' st' h' c' s') : MW p l e R s m args below meth c D K b sz L xs Q k pc lv st h c0 s0 := by
  intro H locs ls hR hZ hL
  unfold s_astore at hs
  split at hs
  · next v st' =>
    split at hs
    · next hn =>
      simp only [nx, Option.some.injEq] at hs
      exact lv_astore hx hb d hL.has (by rw [← hL.1]; exact hn) rfl (fun ls' h' => kn _ _ _ _ _ _ _ hs.symm (Or.inl ⟨rfl, rfl⟩) _ _ _ hR hZ (hL.store (some (.ref v)) (fun w hw => by cases hw; exact ⟨rfl, rfl⟩) h'))
    · cases hs
  · cases hs
theorem sd_iinc (hx : p.tables.exec = Jvm.exec) (hb : c.code = m_b k) {n : Nat} {d9 : Int} (d : decode (m_b k) pc = .ok (.iinc n d9, 3)) (hs : s_iinc n d9 (pc + 3) is lv st h c0 s0 = some o) (kn : ∀ pc' is' lv' st' h' c' s', o = .inl (pc', is', lv', st', h', c', s') → ((pc' = pc + 3 ∧ is' = is) ∨ is' = []) → MW p l e R s m args below meth c D K b sz L xs Q k pc' lv' st' h' c' s') : MW p l e R s m args below meth c D K b sz L xs Q k pc lv st h c0 s0 := by
  intro H locs ls hR hZ hL
  unfold s_iinc at hs
  split at hs
  · next v hv =>
    simp only [nx, Option.some.injEq] at hs
    have hm := lvl_in (b := b) (sz := sz) lv 0 n (.int v) hv
    rw [Nat.zero_add] at hm
    obtain ⟨i9, hi9⟩ := List.getElem?_of_mem hm
    have hn : n < lv.length := (List.getElem?_eq_some_iff.mp hv).1
    exact lv_iinc hx hb d hL.has hi9 rfl (by rw [← hL.1]; exact hn) rfl (fun ls' h' => kn _ _ _ _ _ _ _ hs.symm (Or.inl ⟨rfl, rfl⟩) _ _ _ hR hZ (hL.store (some (.int (v + Int32.ofInt d9))) (fun w hw => by cases hw; exact ⟨rfl, rfl⟩) h'))
  · cases hs
theorem sd_iconst (hx : p.tables.exec = Jvm.exec) (hb : c.code = m_b k) {n : Int} (d : decode (m_b k) pc = .ok (.iconst n, 1)) (hs : nx (pc + 1) is lv (.int (Int32.ofInt n) :: st) h c0 s0 = some o) (kn : ∀ pc' is' lv' st' h' c' s', o = .inl (pc', is', lv', st', h', c', s') → ((pc' = pc + 1 ∧ is' = is) ∨ is' = []) → MW p l e R s m args below meth c D K b sz L xs Q k pc' lv' st' h' c' s') : MW p l e R s m args below meth c D K b sz L xs Q k pc lv st h c0 s0 := by
  intro H locs ls hR hZ hL
  simp only [nx, Option.some.injEq] at hs
  exact lv_iconst hx hb d rfl (kn _ _ _ _ _ _ _ hs.symm (Or.inl ⟨rfl, rfl⟩) _ _ _ hR hZ hL)
theorem sd_bipush (hx : p.tables.exec = Jvm.exec) (hb : c.code = m_b k) {n : Int} (d : decode (m_b k) pc = .ok (.bipush n, 2)) (hs : nx (pc + 2) is lv (.int (Int8.ofInt n).toInt32 :: st) h c0 s0 = some o) (kn : ∀ pc' is' lv' st' h' c' s', o = .inl (pc', is', lv', st', h', c', s') → ((pc' = pc + 2 ∧ is' = is) ∨ is' = []) → MW p l e R s m args below meth c D K b sz L xs Q k pc' lv' st' h' c' s') : MW p l e R s m args below meth c D K b sz L xs Q k pc lv st h c0 s0 := by
  intro H locs ls hR hZ hL
  simp only [nx, Option.some.injEq] at hs
  exact lv_bipush hx hb d rfl (kn _ _ _ _ _ _ _ hs.symm (Or.inl ⟨rfl, rfl⟩) _ _ _ hR hZ hL)
theorem sd_sipush (hx : p.tables.exec = Jvm.exec) (hb : c.code = m_b k) {n : Int} (d : decode (m_b k) pc = .ok (.sipush n, 3)) (hs : nx (pc + 3) is lv (.int (Int16.ofInt n).toInt32 :: st) h c0 s0 = some o) (kn : ∀ pc' is' lv' st' h' c' s', o = .inl (pc', is', lv', st', h', c', s') → ((pc' = pc + 3 ∧ is' = is) ∨ is' = []) → MW p l e R s m args below meth c D K b sz L xs Q k pc' lv' st' h' c' s') : MW p l e R s m args below meth c D K b sz L xs Q k pc lv st h c0 s0 := by
  intro H locs ls hR hZ hL
  simp only [nx, Option.some.injEq] at hs
  exact lv_sipush hx hb d rfl (kn _ _ _ _ _ _ _ hs.symm (Or.inl ⟨rfl, rfl⟩) _ _ _ hR hZ hL)
theorem sd_iadd (hx : p.tables.exec = Jvm.exec) (hb : c.code = m_b k) (d : decode (m_b k) pc = .ok (.iadd, 1)) (hs : s_bin (· + ·) (pc + 1) is lv st h c0 s0 = some o) (kn : ∀ pc' is' lv' st' h' c' s', o = .inl (pc', is', lv', st', h', c', s') → ((pc' = pc + 1 ∧ is' = is) ∨ is' = []) → MW p l e R s m args below meth c D K b sz L xs Q k pc' lv' st' h' c' s') : MW p l e R s m args below meth c D K b sz L xs Q k pc lv st h c0 s0 := by
  intro H locs ls hR hZ hL
  unfold s_bin at hs
  split at hs
  · next y x st' =>
    simp only [nx, Option.some.injEq] at hs
    exact lv_iadd hx hb d (kn _ _ _ _ _ _ _ hs.symm (Or.inl ⟨rfl, rfl⟩) _ _ _ hR hZ hL)
  · cases hs
theorem sd_isub (hx : p.tables.exec = Jvm.exec) (hb : c.code = m_b k) (d : decode (m_b k) pc = .ok (.isub, 1)) (hs : s_bin (· - ·) (pc + 1) is lv st h c0 s0 = some o) (kn : ∀ pc' is' lv' st' h' c' s', o = .inl (pc', is', lv', st', h', c', s') → ((pc' = pc + 1 ∧ is' = is) ∨ is' = []) → MW p l e R s m args below meth c D K b sz L xs Q k pc' lv' st' h' c' s') : MW p l e R s m args below meth c D K b sz L xs Q k pc lv st h c0 s0 := by
  intro H locs ls hR hZ hL
  unfold s_bin at hs
  split at hs
  · next y x st' =>
    simp only [nx, Option.some.injEq] at hs
    exact lv_isub hx hb d (kn _ _ _ _ _ _ _ hs.symm (Or.inl ⟨rfl, rfl⟩) _ _ _ hR hZ hL)
  · cases hs
theorem sd_imul (hx : p.tables.exec = Jvm.exec) (hb : c.code = m_b k) (d : decode (m_b k) pc = .ok (.imul, 1)) (hs : s_bin (· * ·) (pc + 1) is lv st h c0 s0 = some o) (kn : ∀ pc' is' lv' st' h' c' s', o = .inl (pc', is', lv', st', h', c', s') → ((pc' = pc + 1 ∧ is' = is) ∨ is' = []) → MW p l e R s m args below meth c D K b sz L xs Q k pc' lv' st' h' c' s') : MW p l e R s m args below meth c D K b sz L xs Q k pc lv st h c0 s0 := by
  intro H locs ls hR hZ hL
  unfold s_bin at hs
  split at hs
  · next y x st' =>
    simp only [nx, Option.some.injEq] at hs
    exact lv_imul hx hb d (kn _ _ _ _ _ _ _ hs.symm (Or.inl ⟨rfl, rfl⟩) _ _ _ hR hZ hL)
  · cases hs
theorem sd_iand (hx : p.tables.exec = Jvm.exec) (hb : c.code = m_b k) (d : decode (m_b k) pc = .ok (.iand, 1)) (hs : s_bin (· &&& ·) (pc + 1) is lv st h c0 s0 = some o) (kn : ∀ pc' is' lv' st' h' c' s', o = .inl (pc', is', lv', st', h', c', s') → ((pc' = pc + 1 ∧ is' = is) ∨ is' = []) → MW p l e R s m args below meth c D K b sz L xs Q k pc' lv' st' h' c' s') : MW p l e R s m args below meth c D K b sz L xs Q k pc lv st h c0 s0 := by
  intro H locs ls hR hZ hL
  unfold s_bin at hs
  split at hs
  · next y x st' =>
    simp only [nx, Option.some.injEq] at hs
    exact lv_iand hx hb d (kn _ _ _ _ _ _ _ hs.symm (Or.inl ⟨rfl, rfl⟩) _ _ _ hR hZ hL)
  · cases hs
theorem sd_ishr (hx : p.tables.exec = Jvm.exec) (hb : c.code = m_b k) (d : decode (m_b k) pc = .ok (.ishr, 1)) (hs : s_bin (fun x y => x >>> (y &&& 31)) (pc + 1) is lv st h c0 s0 = some o) (kn : ∀ pc' is' lv' st' h' c' s', o = .inl (pc', is', lv', st', h', c', s') → ((pc' = pc + 1 ∧ is' = is) ∨ is' = []) → MW p l e R s m args below meth c D K b sz L xs Q k pc' lv' st' h' c' s') : MW p l e R s m args below meth c D K b sz L xs Q k pc lv st h c0 s0 := by
  intro H locs ls hR hZ hL
  unfold s_bin at hs
  split at hs
  · next y x st' =>
    simp only [nx, Option.some.injEq] at hs
    exact lv_ishr hx hb d (kn _ _ _ _ _ _ _ hs.symm (Or.inl ⟨rfl, rfl⟩) _ _ _ hR hZ hL)
  · cases hs
theorem sd_idiv (hx : p.tables.exec = Jvm.exec) (hb : c.code = m_b k) (d : decode (m_b k) pc = .ok (.idiv, 1)) (hs : s_div (· / ·) (pc + 1) is lv st h c0 s0 = some o) (kn : ∀ pc' is' lv' st' h' c' s', o = .inl (pc', is', lv', st', h', c', s') → ((pc' = pc + 1 ∧ is' = is) ∨ is' = []) → MW p l e R s m args below meth c D K b sz L xs Q k pc' lv' st' h' c' s') : MW p l e R s m args below meth c D K b sz L xs Q k pc lv st h c0 s0 := by
  intro H locs ls hR hZ hL
  unfold s_div at hs
  split at hs
  · next y x st' =>
    split at hs
    · cases hs
    · next hy =>
      simp only [nx, Option.some.injEq] at hs
      exact lv_idiv hx hb d hy (kn _ _ _ _ _ _ _ hs.symm (Or.inl ⟨rfl, rfl⟩) _ _ _ hR hZ hL)
  · cases hs
theorem sd_irem (hx : p.tables.exec = Jvm.exec) (hb : c.code = m_b k) (d : decode (m_b k) pc = .ok (.irem, 1)) (hs : s_div (fun x y => x - x / y * y) (pc + 1) is lv st h c0 s0 = some o) (kn : ∀ pc' is' lv' st' h' c' s', o = .inl (pc', is', lv', st', h', c', s') → ((pc' = pc + 1 ∧ is' = is) ∨ is' = []) → MW p l e R s m args below meth c D K b sz L xs Q k pc' lv' st' h' c' s') : MW p l e R s m args below meth c D K b sz L xs Q k pc lv st h c0 s0 := by
  intro H locs ls hR hZ hL
  unfold s_div at hs
  split at hs
  · next y x st' =>
    split at hs
    · cases hs
    · next hy =>
      simp only [nx, Option.some.injEq] at hs
      exact lv_irem hx hb d hy (kn _ _ _ _ _ _ _ hs.symm (Or.inl ⟨rfl, rfl⟩) _ _ _ hR hZ hL)
  · cases hs
theorem sd_ineg (hx : p.tables.exec = Jvm.exec) (hb : c.code = m_b k) (d : decode (m_b k) pc = .ok (.ineg, 1)) (hs : s_un (fun x => -x) (pc + 1) is lv st h c0 s0 = some o) (kn : ∀ pc' is' lv' st' h' c' s', o = .inl (pc', is', lv', st', h', c', s') → ((pc' = pc + 1 ∧ is' = is) ∨ is' = []) → MW p l e R s m args below meth c D K b sz L xs Q k pc' lv' st' h' c' s') : MW p l e R s m args below meth c D K b sz L xs Q k pc lv st h c0 s0 := by
  intro H locs ls hR hZ hL
  unfold s_un at hs
  split at hs
  · next x st' =>
    simp only [nx, Option.some.injEq] at hs
    exact lv_ineg hx hb d (kn _ _ _ _ _ _ _ hs.symm (Or.inl ⟨rfl, rfl⟩) _ _ _ hR hZ hL)
  · cases hs
theorem sd_i2l (hx : p.tables.exec = Jvm.exec) (hb : c.code = m_b k) (d : decode (m_b k) pc = .ok (.i2l, 1)) (hs : s_i2l (pc + 1) is lv st h c0 s0 = some o) (kn : ∀ pc' is' lv' st' h' c' s', o = .inl (pc', is', lv', st', h', c', s') → ((pc' = pc + 1 ∧ is' = is) ∨ is' = []) → MW p l e R s m args below meth c D K b sz L xs Q k pc' lv' st' h' c' s') : MW p l e R s m args below meth c D K b sz L xs Q k pc lv st h c0 s0 := by
  intro H locs ls hR hZ hL
  unfold s_i2l at hs
  split at hs
  · next x st' =>
    simp only [nx, Option.some.injEq] at hs
    exact lv_i2l hx hb d rfl (kn _ _ _ _ _ _ _ hs.symm (Or.inl ⟨rfl, rfl⟩) _ _ _ hR hZ hL)
  · cases hs
theorem sd_lcmp (hx : p.tables.exec = Jvm.exec) (hb : c.code = m_b k) (d : decode (m_b k) pc = .ok (.lcmp, 1)) (hs : s_lcmp (pc + 1) is lv st h c0 s0 = some o) (kn : ∀ pc' is' lv' st' h' c' s', o = .inl (pc', is', lv', st', h', c', s') → ((pc' = pc + 1 ∧ is' = is) ∨ is' = []) → MW p l e R s m args below meth c D K b sz L xs Q k pc' lv' st' h' c' s') : MW p l e R s m args below meth c D K b sz L xs Q k pc lv st h c0 s0 := by
  intro H locs ls hR hZ hL
  unfold s_lcmp at hs
  split at hs
  · next y x st' =>
    simp only [nx, Option.some.injEq] at hs
    exact W.lcmp hx hb d (kn _ _ _ _ _ _ _ hs.symm (Or.inl ⟨rfl, rfl⟩) _ _ _ hR hZ hL)
  · cases hs
theorem sd_dup (hx : p.tables.exec = Jvm.exec) (hb : c.code = m_b k) (d : decode (m_b k) pc = .ok (.dup, 1)) (hs : s_dup (pc + 1) is lv st h c0 s0 = some o) (kn : ∀ pc' is' lv' st' h' c' s', o = .inl (pc', is', lv', st', h', c', s') → ((pc' = pc + 1 ∧ is' = is) ∨ is' = []) → MW p l e R s m args below meth c D K b sz L xs Q k pc' lv' st' h' c' s') : MW p l e R s m args below meth c D K b sz L xs Q k pc lv st h c0 s0 := by
  intro H locs ls hR hZ hL
  unfold s_dup at hs
  split at hs
  · next v st' =>
    split at hs
    · next hv =>
      simp only [nx, Option.some.injEq] at hs
      exact lv_dup hx hb d ((cv_cat b sz v).trans hv) (kn _ _ _ _ _ _ _ hs.symm (Or.inl ⟨rfl, rfl⟩) _ _ _ hR hZ hL)
    · cases hs
  · cases hs
theorem sd_dup2 (hx : p.tables.exec = Jvm.exec) (hb : c.code = m_b k) (d : decode (m_b k) pc = .ok (.dup2, 1)) (hs : s_dup2 (pc + 1) is lv st h c0 s0 = some o) (kn : ∀ pc' is' lv' st' h' c' s', o = .inl (pc', is', lv', st', h', c', s') → ((pc' = pc + 1 ∧ is' = is) ∨ is' = []) → MW p l e R s m args below meth c D K b sz L xs Q k pc' lv' st' h' c' s') : MW p l e R s m args below meth c D K b sz L xs Q k pc lv st h c0 s0 := by
  intro H locs ls hR hZ hL
  unfold s_dup2 at hs
  split at hs
  · next v w st' =>
    split at hs
    · next hv =>
      simp only [nx, Option.some.injEq] at hs
      exact lv_dup2_11 hx hb d ((cv_cat b sz v).trans hv.1) ((cv_cat b sz w).trans hv.2) (kn _ _ _ _ _ _ _ hs.symm (Or.inl ⟨rfl, rfl⟩) _ _ _ hR hZ hL)
    · cases hs
  · cases hs
theorem sd_pop (hx : p.tables.exec = Jvm.exec) (hb : c.code = m_b k) (d : decode (m_b k) pc = .ok (.pop, 1)) (hs : s_pop (pc + 1) is lv st h c0 s0 = some o) (kn : ∀ pc' is' lv' st' h' c' s', o = .inl (pc', is', lv', st', h', c', s') → ((pc' = pc + 1 ∧ is' = is) ∨ is' = []) → MW p l e R s m args below meth c D K b sz L xs Q k pc' lv' st' h' c' s') : MW p l e R s m args below meth c D K b sz L xs Q k pc lv st h c0 s0 := by
  intro H locs ls hR hZ hL
  unfold s_pop at hs
  split at hs
  · next v st' =>
    split at hs
    · next hv =>
      simp only [nx, Option.some.injEq] at hs
      exact lv_pop hx hb d ((cv_cat b sz v).trans hv) (kn _ _ _ _ _ _ _ hs.symm (Or.inl ⟨rfl, rfl⟩) _ _ _ hR hZ hL)
    · cases hs
  · cases hs
theorem mk_tg_eq {p0 t : Nat} {off : Int} (h : mk_tg p0 off = some t) : (p0 : Int) + off = (t : Int) := by
  unfold mk_tg at h
  split at h
  · cases h
    omega
  · cases h
theorem jp_some {p0 : Nat} {off : Int} {lv : List (Option Value)} {st : List Value} {h : MH} {c0 s0 : Nat} {o : Out} (hs : jp p0 off lv st h c0 s0 = some o) : ∃ t : Nat, (p0 : Int) + off = (t : Int) ∧ o = .inl (t, [], lv, st, h, c0, s0) := by
  unfold jp at hs
  split at hs
  · next t ht =>
    simp only [nx, Option.some.injEq] at hs
    exact ⟨t, mk_tg_eq ht, hs.symm⟩
  · cases hs
theorem sd_goto (hx : p.tables.exec = Jvm.exec) (hb : c.code = m_b k) {off : Int} (d : decode (m_b k) pc = .ok (.goto off, 3)) (hs : jp pc off lv st h c0 s0 = some o) (kn : ∀ pc' is' lv' st' h' c' s', o = .inl (pc', is', lv', st', h', c', s') → ((pc' = pc + 3 ∧ is' = is) ∨ is' = []) → MW p l e R s m args below meth c D K b sz L xs Q k pc' lv' st' h' c' s') : MW p l e R s m args below meth c D K b sz L xs Q k pc lv st h c0 s0 := by
  intro H locs ls hR hZ hL
  obtain ⟨t, ht, ho⟩ := jp_some hs
  exact lv_goto hx hb d ht (kn _ _ _ _ _ _ _ ho (Or.inr rfl) _ _ _ hR hZ hL)
theorem sd_icmp_eq (hx : p.tables.exec = Jvm.exec) (hb : c.code = m_b k) {off : Int} (d : decode (m_b k) pc = .ok (.if_icmp .eq off, 3)) (hs : s_icmp .eq off pc (pc + 3) is lv st h c0 s0 = some o) (kn : ∀ pc' is' lv' st' h' c' s', o = .inl (pc', is', lv', st', h', c', s') → ((pc' = pc + 3 ∧ is' = is) ∨ is' = []) → MW p l e R s m args below meth c D K b sz L xs Q k pc' lv' st' h' c' s') : MW p l e R s m args below meth c D K b sz L xs Q k pc lv st h c0 s0 := by
  intro H locs ls hR hZ hL
  unfold s_icmp at hs
  split at hs
  · next y x st' =>
    split at hs
    · next t ht =>
      have ht := mk_tg_eq ht
      split at hs
      · next hq =>
        simp only [nx, Option.some.injEq] at hs
        simp only [icm, decide_eq_true_eq, Bool.not_eq_true', decide_eq_false_iff_not] at hq
        exact lv_icmp_eq hx hb d ht (fun _ => kn _ _ _ _ _ _ _ hs.symm (Or.inr rfl) _ _ _ hR hZ hL) (fun q => absurd hq q)
      · next hq =>
        simp only [nx, Option.some.injEq] at hs
        simp only [icm, decide_eq_true_eq, Bool.not_eq_true', decide_eq_false_iff_not, Classical.not_not] at hq
        exact lv_icmp_eq hx hb d ht (fun q => absurd q hq) (fun _ => kn _ _ _ _ _ _ _ hs.symm (Or.inl ⟨rfl, rfl⟩) _ _ _ hR hZ hL)
    · cases hs
  · cases hs
theorem sd_if_eq (hx : p.tables.exec = Jvm.exec) (hb : c.code = m_b k) {off : Int} (d : decode (m_b k) pc = .ok (.ifCond .eq off, 3)) (hs : s_if .eq off pc (pc + 3) is lv st h c0 s0 = some o) (kn : ∀ pc' is' lv' st' h' c' s', o = .inl (pc', is', lv', st', h', c', s') → ((pc' = pc + 3 ∧ is' = is) ∨ is' = []) → MW p l e R s m args below meth c D K b sz L xs Q k pc' lv' st' h' c' s') : MW p l e R s m args below meth c D K b sz L xs Q k pc lv st h c0 s0 := by
  intro H locs ls hR hZ hL
  unfold s_if at hs
  split at hs
  · next x st' =>
    split at hs
    · next t ht =>
      have ht := mk_tg_eq ht
      split at hs
      · next hq =>
        simp only [nx, Option.some.injEq] at hs
        simp only [icm, decide_eq_true_eq, Bool.not_eq_true', decide_eq_false_iff_not] at hq
        exact lv_if_eq hx hb d ht (fun _ => kn _ _ _ _ _ _ _ hs.symm (Or.inr rfl) _ _ _ hR hZ hL) (fun q => absurd hq q)
      · next hq =>
        simp only [nx, Option.some.injEq] at hs
        simp only [icm, decide_eq_true_eq, Bool.not_eq_true', decide_eq_false_iff_not, Classical.not_not] at hq
        exact lv_if_eq hx hb d ht (fun q => absurd q hq) (fun _ => kn _ _ _ _ _ _ _ hs.symm (Or.inl ⟨rfl, rfl⟩) _ _ _ hR hZ hL)
    · cases hs
  · cases hs
theorem sd_icmp_ne (hx : p.tables.exec = Jvm.exec) (hb : c.code = m_b k) {off : Int} (d : decode (m_b k) pc = .ok (.if_icmp .ne off, 3)) (hs : s_icmp .ne off pc (pc + 3) is lv st h c0 s0 = some o) (kn : ∀ pc' is' lv' st' h' c' s', o = .inl (pc', is', lv', st', h', c', s') → ((pc' = pc + 3 ∧ is' = is) ∨ is' = []) → MW p l e R s m args below meth c D K b sz L xs Q k pc' lv' st' h' c' s') : MW p l e R s m args below meth c D K b sz L xs Q k pc lv st h c0 s0 := by
  intro H locs ls hR hZ hL
  unfold s_icmp at hs
  split at hs
  · next y x st' =>
    split at hs
    · next t ht =>
      have ht := mk_tg_eq ht
      split at hs
      · next hq =>
        simp only [nx, Option.some.injEq] at hs
        simp only [icm, decide_eq_true_eq, Bool.not_eq_true', decide_eq_false_iff_not] at hq
        exact lv_icmp_ne hx hb d ht (fun _ => kn _ _ _ _ _ _ _ hs.symm (Or.inr rfl) _ _ _ hR hZ hL) (fun q => absurd q hq)
      · next hq =>
        simp only [nx, Option.some.injEq] at hs
        simp only [icm, decide_eq_true_eq, Bool.not_eq_true', decide_eq_false_iff_not, Classical.not_not] at hq
        exact lv_icmp_ne hx hb d ht (fun q => absurd hq q) (fun _ => kn _ _ _ _ _ _ _ hs.symm (Or.inl ⟨rfl, rfl⟩) _ _ _ hR hZ hL)
    · cases hs
  · cases hs
theorem sd_if_ne (hx : p.tables.exec = Jvm.exec) (hb : c.code = m_b k) {off : Int} (d : decode (m_b k) pc = .ok (.ifCond .ne off, 3)) (hs : s_if .ne off pc (pc + 3) is lv st h c0 s0 = some o) (kn : ∀ pc' is' lv' st' h' c' s', o = .inl (pc', is', lv', st', h', c', s') → ((pc' = pc + 3 ∧ is' = is) ∨ is' = []) → MW p l e R s m args below meth c D K b sz L xs Q k pc' lv' st' h' c' s') : MW p l e R s m args below meth c D K b sz L xs Q k pc lv st h c0 s0 := by
  intro H locs ls hR hZ hL
  unfold s_if at hs
  split at hs
  · next x st' =>
    split at hs
    · next t ht =>
      have ht := mk_tg_eq ht
      split at hs
      · next hq =>
        simp only [nx, Option.some.injEq] at hs
        simp only [icm, decide_eq_true_eq, Bool.not_eq_true', decide_eq_false_iff_not] at hq
        exact lv_if_ne hx hb d ht (fun _ => kn _ _ _ _ _ _ _ hs.symm (Or.inr rfl) _ _ _ hR hZ hL) (fun q => absurd q hq)
      · next hq =>
        simp only [nx, Option.some.injEq] at hs
        simp only [icm, decide_eq_true_eq, Bool.not_eq_true', decide_eq_false_iff_not, Classical.not_not] at hq
        exact lv_if_ne hx hb d ht (fun q => absurd hq q) (fun _ => kn _ _ _ _ _ _ _ hs.symm (Or.inl ⟨rfl, rfl⟩) _ _ _ hR hZ hL)
    · cases hs
  · cases hs
theorem sd_icmp_lt (hx : p.tables.exec = Jvm.exec) (hb : c.code = m_b k) {off : Int} (d : decode (m_b k) pc = .ok (.if_icmp .lt off, 3)) (hs : s_icmp .lt off pc (pc + 3) is lv st h c0 s0 = some o) (kn : ∀ pc' is' lv' st' h' c' s', o = .inl (pc', is', lv', st', h', c', s') → ((pc' = pc + 3 ∧ is' = is) ∨ is' = []) → MW p l e R s m args below meth c D K b sz L xs Q k pc' lv' st' h' c' s') : MW p l e R s m args below meth c D K b sz L xs Q k pc lv st h c0 s0 := by
  intro H locs ls hR hZ hL
  unfold s_icmp at hs
  split at hs
  · next y x st' =>
    split at hs
    · next t ht =>
      have ht := mk_tg_eq ht
      split at hs
      · next hq =>
        simp only [nx, Option.some.injEq] at hs
        simp only [icm, decide_eq_true_eq, Bool.not_eq_true', decide_eq_false_iff_not] at hq
        exact lv_icmp_lt hx hb d ht (fun _ => kn _ _ _ _ _ _ _ hs.symm (Or.inr rfl) _ _ _ hR hZ hL) (fun q => absurd hq q)
      · next hq =>
        simp only [nx, Option.some.injEq] at hs
        simp only [icm, decide_eq_true_eq, Bool.not_eq_true', decide_eq_false_iff_not, Classical.not_not] at hq
        exact lv_icmp_lt hx hb d ht (fun q => absurd q hq) (fun _ => kn _ _ _ _ _ _ _ hs.symm (Or.inl ⟨rfl, rfl⟩) _ _ _ hR hZ hL)
    · cases hs
  · cases hs
theorem sd_if_lt (hx : p.tables.exec = Jvm.exec) (hb : c.code = m_b k) {off : Int} (d : decode (m_b k) pc = .ok (.ifCond .lt off, 3)) (hs : s_if .lt off pc (pc + 3) is lv st h c0 s0 = some o) (kn : ∀ pc' is' lv' st' h' c' s', o = .inl (pc', is', lv', st', h', c', s') → ((pc' = pc + 3 ∧ is' = is) ∨ is' = []) → MW p l e R s m args below meth c D K b sz L xs Q k pc' lv' st' h' c' s') : MW p l e R s m args below meth c D K b sz L xs Q k pc lv st h c0 s0 := by
  intro H locs ls hR hZ hL
  unfold s_if at hs
  split at hs
  · next x st' =>
    split at hs
    · next t ht =>
      have ht := mk_tg_eq ht
      split at hs
      · next hq =>
        simp only [nx, Option.some.injEq] at hs
        simp only [icm, decide_eq_true_eq, Bool.not_eq_true', decide_eq_false_iff_not] at hq
        exact lv_if_lt hx hb d ht (fun _ => kn _ _ _ _ _ _ _ hs.symm (Or.inr rfl) _ _ _ hR hZ hL) (fun q => absurd hq q)
      · next hq =>
        simp only [nx, Option.some.injEq] at hs
        simp only [icm, decide_eq_true_eq, Bool.not_eq_true', decide_eq_false_iff_not, Classical.not_not] at hq
        exact lv_if_lt hx hb d ht (fun q => absurd q hq) (fun _ => kn _ _ _ _ _ _ _ hs.symm (Or.inl ⟨rfl, rfl⟩) _ _ _ hR hZ hL)
    · cases hs
  · cases hs
theorem sd_icmp_ge (hx : p.tables.exec = Jvm.exec) (hb : c.code = m_b k) {off : Int} (d : decode (m_b k) pc = .ok (.if_icmp .ge off, 3)) (hs : s_icmp .ge off pc (pc + 3) is lv st h c0 s0 = some o) (kn : ∀ pc' is' lv' st' h' c' s', o = .inl (pc', is', lv', st', h', c', s') → ((pc' = pc + 3 ∧ is' = is) ∨ is' = []) → MW p l e R s m args below meth c D K b sz L xs Q k pc' lv' st' h' c' s') : MW p l e R s m args below meth c D K b sz L xs Q k pc lv st h c0 s0 := by
  intro H locs ls hR hZ hL
  unfold s_icmp at hs
  split at hs
  · next y x st' =>
    split at hs
    · next t ht =>
      have ht := mk_tg_eq ht
      split at hs
      · next hq =>
        simp only [nx, Option.some.injEq] at hs
        simp only [icm, decide_eq_true_eq, Bool.not_eq_true', decide_eq_false_iff_not] at hq
        exact lv_icmp_ge hx hb d ht (fun _ => kn _ _ _ _ _ _ _ hs.symm (Or.inr rfl) _ _ _ hR hZ hL) (fun q => absurd hq q)
      · next hq =>
        simp only [nx, Option.some.injEq] at hs
        simp only [icm, decide_eq_true_eq, Bool.not_eq_true', decide_eq_false_iff_not, Classical.not_not] at hq
        exact lv_icmp_ge hx hb d ht (fun q => absurd q hq) (fun _ => kn _ _ _ _ _ _ _ hs.symm (Or.inl ⟨rfl, rfl⟩) _ _ _ hR hZ hL)
    · cases hs
  · cases hs
theorem sd_if_ge (hx : p.tables.exec = Jvm.exec) (hb : c.code = m_b k) {off : Int} (d : decode (m_b k) pc = .ok (.ifCond .ge off, 3)) (hs : s_if .ge off pc (pc + 3) is lv st h c0 s0 = some o) (kn : ∀ pc' is' lv' st' h' c' s', o = .inl (pc', is', lv', st', h', c', s') → ((pc' = pc + 3 ∧ is' = is) ∨ is' = []) → MW p l e R s m args below meth c D K b sz L xs Q k pc' lv' st' h' c' s') : MW p l e R s m args below meth c D K b sz L xs Q k pc lv st h c0 s0 := by
  intro H locs ls hR hZ hL
  unfold s_if at hs
  split at hs
  · next x st' =>
    split at hs
    · next t ht =>
      have ht := mk_tg_eq ht
      split at hs
      · next hq =>
        simp only [nx, Option.some.injEq] at hs
        simp only [icm, decide_eq_true_eq, Bool.not_eq_true', decide_eq_false_iff_not] at hq
        exact lv_if_ge hx hb d ht (fun _ => kn _ _ _ _ _ _ _ hs.symm (Or.inr rfl) _ _ _ hR hZ hL) (fun q => absurd hq q)
      · next hq =>
        simp only [nx, Option.some.injEq] at hs
        simp only [icm, decide_eq_true_eq, Bool.not_eq_true', decide_eq_false_iff_not, Classical.not_not] at hq
        exact lv_if_ge hx hb d ht (fun q => absurd q hq) (fun _ => kn _ _ _ _ _ _ _ hs.symm (Or.inl ⟨rfl, rfl⟩) _ _ _ hR hZ hL)
    · cases hs
  · cases hs
theorem sd_icmp_gt (hx : p.tables.exec = Jvm.exec) (hb : c.code = m_b k) {off : Int} (d : decode (m_b k) pc = .ok (.if_icmp .gt off, 3)) (hs : s_icmp .gt off pc (pc + 3) is lv st h c0 s0 = some o) (kn : ∀ pc' is' lv' st' h' c' s', o = .inl (pc', is', lv', st', h', c', s') → ((pc' = pc + 3 ∧ is' = is) ∨ is' = []) → MW p l e R s m args below meth c D K b sz L xs Q k pc' lv' st' h' c' s') : MW p l e R s m args below meth c D K b sz L xs Q k pc lv st h c0 s0 := by
  intro H locs ls hR hZ hL
  unfold s_icmp at hs
  split at hs
  · next y x st' =>
    split at hs
    · next t ht =>
      have ht := mk_tg_eq ht
      split at hs
      · next hq =>
        simp only [nx, Option.some.injEq] at hs
        simp only [icm, decide_eq_true_eq, Bool.not_eq_true', decide_eq_false_iff_not] at hq
        exact lv_icmp_gt hx hb d ht (fun _ => kn _ _ _ _ _ _ _ hs.symm (Or.inr rfl) _ _ _ hR hZ hL) (fun q => absurd hq q)
      · next hq =>
        simp only [nx, Option.some.injEq] at hs
        simp only [icm, decide_eq_true_eq, Bool.not_eq_true', decide_eq_false_iff_not, Classical.not_not] at hq
        exact lv_icmp_gt hx hb d ht (fun q => absurd q hq) (fun _ => kn _ _ _ _ _ _ _ hs.symm (Or.inl ⟨rfl, rfl⟩) _ _ _ hR hZ hL)
    · cases hs
  · cases hs
theorem sd_if_gt (hx : p.tables.exec = Jvm.exec) (hb : c.code = m_b k) {off : Int} (d : decode (m_b k) pc = .ok (.ifCond .gt off, 3)) (hs : s_if .gt off pc (pc + 3) is lv st h c0 s0 = some o) (kn : ∀ pc' is' lv' st' h' c' s', o = .inl (pc', is', lv', st', h', c', s') → ((pc' = pc + 3 ∧ is' = is) ∨ is' = []) → MW p l e R s m args below meth c D K b sz L xs Q k pc' lv' st' h' c' s') : MW p l e R s m args below meth c D K b sz L xs Q k pc lv st h c0 s0 := by
  intro H locs ls hR hZ hL
  unfold s_if at hs
  split at hs
  · next x st' =>
    split at hs
    · next t ht =>
      have ht := mk_tg_eq ht
      split at hs
      · next hq =>
        simp only [nx, Option.some.injEq] at hs
        simp only [icm, decide_eq_true_eq, Bool.not_eq_true', decide_eq_false_iff_not] at hq
        exact lv_if_gt hx hb d ht (fun _ => kn _ _ _ _ _ _ _ hs.symm (Or.inr rfl) _ _ _ hR hZ hL) (fun q => absurd hq q)
      · next hq =>
        simp only [nx, Option.some.injEq] at hs
        simp only [icm, decide_eq_true_eq, Bool.not_eq_true', decide_eq_false_iff_not, Classical.not_not] at hq
        exact lv_if_gt hx hb d ht (fun q => absurd q hq) (fun _ => kn _ _ _ _ _ _ _ hs.symm (Or.inl ⟨rfl, rfl⟩) _ _ _ hR hZ hL)
    · cases hs
  · cases hs
theorem sd_icmp_le (hx : p.tables.exec = Jvm.exec) (hb : c.code = m_b k) {off : Int} (d : decode (m_b k) pc = .ok (.if_icmp .le off, 3)) (hs : s_icmp .le off pc (pc + 3) is lv st h c0 s0 = some o) (kn : ∀ pc' is' lv' st' h' c' s', o = .inl (pc', is', lv', st', h', c', s') → ((pc' = pc + 3 ∧ is' = is) ∨ is' = []) → MW p l e R s m args below meth c D K b sz L xs Q k pc' lv' st' h' c' s') : MW p l e R s m args below meth c D K b sz L xs Q k pc lv st h c0 s0 := by
  intro H locs ls hR hZ hL
  unfold s_icmp at hs
  split at hs
  · next y x st' =>
    split at hs
    · next t ht =>
      have ht := mk_tg_eq ht
      split at hs
      · next hq =>
        simp only [nx, Option.some.injEq] at hs
        simp only [icm, decide_eq_true_eq, Bool.not_eq_true', decide_eq_false_iff_not] at hq
        exact lv_icmp_le hx hb d ht (fun _ => kn _ _ _ _ _ _ _ hs.symm (Or.inr rfl) _ _ _ hR hZ hL) (fun q => absurd hq q)
      · next hq =>
        simp only [nx, Option.some.injEq] at hs
        simp only [icm, decide_eq_true_eq, Bool.not_eq_true', decide_eq_false_iff_not, Classical.not_not] at hq
        exact lv_icmp_le hx hb d ht (fun q => absurd q hq) (fun _ => kn _ _ _ _ _ _ _ hs.symm (Or.inl ⟨rfl, rfl⟩) _ _ _ hR hZ hL)
    · cases hs
  · cases hs
theorem sd_if_le (hx : p.tables.exec = Jvm.exec) (hb : c.code = m_b k) {off : Int} (d : decode (m_b k) pc = .ok (.ifCond .le off, 3)) (hs : s_if .le off pc (pc + 3) is lv st h c0 s0 = some o) (kn : ∀ pc' is' lv' st' h' c' s', o = .inl (pc', is', lv', st', h', c', s') → ((pc' = pc + 3 ∧ is' = is) ∨ is' = []) → MW p l e R s m args below meth c D K b sz L xs Q k pc' lv' st' h' c' s') : MW p l e R s m args below meth c D K b sz L xs Q k pc lv st h c0 s0 := by
  intro H locs ls hR hZ hL
  unfold s_if at hs
  split at hs
  · next x st' =>
    split at hs
    · next t ht =>
      have ht := mk_tg_eq ht
      split at hs
      · next hq =>
        simp only [nx, Option.some.injEq] at hs
        simp only [icm, decide_eq_true_eq, Bool.not_eq_true', decide_eq_false_iff_not] at hq
        exact lv_if_le hx hb d ht (fun _ => kn _ _ _ _ _ _ _ hs.symm (Or.inr rfl) _ _ _ hR hZ hL) (fun q => absurd hq q)
      · next hq =>
        simp only [nx, Option.some.injEq] at hs
        simp only [icm, decide_eq_true_eq, Bool.not_eq_true', decide_eq_false_iff_not, Classical.not_not] at hq
        exact lv_if_le hx hb d ht (fun q => absurd q hq) (fun _ => kn _ _ _ _ _ _ _ hs.symm (Or.inl ⟨rfl, rfl⟩) _ _ _ hR hZ hL)
    · cases hs
  · cases hs
theorem sd_table (hx : p.tables.exec = Jvm.exec) (hb : c.code = m_b k) {d9 lo hi : Int} {offs : Array Int} {len : Nat} (d : decode (m_b k) pc = .ok (.tableswitch d9 lo hi offs, len)) (hs : s_table d9 lo hi offs pc lv st h c0 s0 = some o) (kn : ∀ pc' is' lv' st' h' c' s', o = .inl (pc', is', lv', st', h', c', s') → ((pc' = pc + 0 ∧ is' = is) ∨ is' = []) → MW p l e R s m args below meth c D K b sz L xs Q k pc' lv' st' h' c' s') : MW p l e R s m args below meth c D K b sz L xs Q k pc lv st h c0 s0 := by
  intro H locs ls hR hZ hL
  unfold s_table at hs
  split at hs
  · next x st' =>
    split at hs
    · next hq =>
      obtain ⟨t, ht, ho⟩ := jp_some hs
      exact lv_tableOut hx hb d hq ht (kn _ _ _ _ _ _ _ ho (Or.inr rfl) _ _ _ hR hZ hL)
    · next hq =>
      split at hs
      · next o9 ho9 =>
        obtain ⟨t, ht, ho⟩ := jp_some hs
        exact lv_tableIn hx hb d (fun q => hq (Or.inl q)) (fun q => hq (Or.inr q)) ho9 ht (kn _ _ _ _ _ _ _ ho (Or.inr rfl) _ _ _ hR hZ hL)
      · cases hs
  · cases hs
end PU
end
section
/-! Fields and arrays. -/
def tysK (K : KK) : List (ClassId × FieldType) := [(K.1, .int), (K.1, .int), (K.2.2.1, .array .int), (K.2.2.2, .object "PoleShop$Plant")]
theorem ad_ge {b sz : Nat} {a : Nat} (h : a ≠ 0) : sz ≤ ad b sz a := by
  cases a with
  | zero => exact absurd rfl h
  | succ j => exact Nat.le_add_right _ _
theorem vwlt {ci : Nat} {q : vw_C} (h : vwCl[ci]? = some q) : ci < 8 := (List.getElem?_eq_some_iff.mp h).1
theorem va_S.rfl2 {A : Nat → Prop} {H0 H : Heap} {locs : List Loc} (h : va_S A H0 H locs) : va_S A H H locs := ⟨Nat.le_refl _, fun _ _ _ => rfl, h.2.2⟩
theorem va_S.tr2 {A : Nat → Prop} {H0 H H1 : Heap} {locs locs1 : List Loc} (h : va_S A H0 H locs) (h' : va_S A H H1 locs1) : va_S A H0 H1 locs1 := ⟨Nat.le_trans h.1 h'.1, fun q h1 h2 => (h'.2.1 q (Nat.lt_of_lt_of_le h1 h.1) h2).trans (h.2.1 q h1 h2), h'.2.2⟩
theorem RH.rf {D : va_G} {K : KK} {b sz L : Nat} {xs : Nat → Int32} {H0 : Heap} {h : MH} {H : Heap} {locs : List Loc} (hR : RH D K b sz L xs H0 h H locs) : va_S (fun q => sz ≤ q) H H locs := hR.2.1.rfl2
theorem RH.up {D : va_G} {K : KK} {b sz L : Nat} {xs : Nat → Int32} {H0 H1 : Heap} {h : MH} {H : Heap} {locs locs1 : List Loc} {a : Nat} {x y : MC} (hR : RH D K b sz L xs H0 h H locs) (h0 : a ≠ 0) (hy : h.2.2 a = some y) (hP : va_P D vwCl ((mkw K b sz h).set (mps K b sz h a) (ad b sz a, ce K b sz (some x))) H1) (hS : va_S (fun q => sz ≤ q) H H1 locs1) : RH D K b sz L xs H0 (hup h a x) H1 locs1 := by
  have hN := hR.2.2.1 _ _ hy
  refine ⟨by rw [← mkw_set hy h0 hN]; exact hP, hR.2.1.tr2 hS, fun j y hj => ?_, ?_, Nat.le_trans hR.2.2.2.2 hS.1⟩
  · by_cases e : j = a
    · rw [e]; exact hN
    · exact hR.2.2.1 j y (by simpa [hup, e] using hj)
  · show (if 0 = a then some x else h.2.2 0) = _
    rw [if_neg (Ne.symm h0)]
    exact hR.2.2.2.1
section ME
variable {p : Program} {l : Launch} {e : Env} {R : Room} {s : State} {m : MethodId} {args : Array Value} {below : List Frame} {meth : Method} {c : Code} {D : va_G} {K : KK} {b sz L : Nat} {xs : Nat → Int32} {Q : State → Prop} {k : Nat}
variable {pc : Nat} {is : List Ent} {lv : List (Option Value)} {st : List Value} {h : MH} {c0 s0 : Nat} {o : Out}
theorem RH.ne0 {H0 : Heap} {H : Heap} {locs : List Loc} {a : Nat} {x : MC} (hR : RH D K b sz L xs H0 h H locs) (ha : h.2.2 a = some x) (hx : ∀ n f, x ≠ mI n f) : a ≠ 0 := by
  intro e
  subst e
  rw [hR.2.2.2.1] at ha
  exact hx _ _ (Option.some.inj ha).symm
set_option maxHeartbeats 1000000 in
theorem sd_getf (hx : p.tables.exec = Jvm.exec) (hb : c.code = m_b k) (hts : ∀ w ∈ lwg, w.before args s = true) (hown : s.vm.findClass (cnm (m_cn k)) = some m.cls) (hK : va_K D vwCl (tysK K) s) {ix x y : Nat} (hE : (m_cn k, ix, x, y) ∈ fldT) (d : decode (m_b k) pc = .ok (.getfield ix, 3)) (hs : s_getf x y (pc + 3) is lv st h c0 s0 = some o) (kn : ∀ pc' is' lv' st' h' c' s', o = .inl (pc', is', lv', st', h', c', s') → ((pc' = pc + 3 ∧ is' = is) ∨ is' = []) → MW p l e R s m args below meth c D K b sz L xs Q k pc' lv' st' h' c' s') : MW p l e R s m args below meth c D K b sz L xs Q k pc lv st h c0 s0 := by
  intro H locs ls hR hZ hL
  unfold s_getf at hs
  split at hs
  · next a st' =>
    split at hs
    · next ci fs ha =>
      split at hs
      · next hci =>
        split at hs
        · next v hv =>
          simp only [nx, Option.some.injEq] at hs
          subst hci
          obtain ⟨C, T, N, h1, h2, h3⟩ := fldT_ok _ hE
          obtain ⟨C', T', N', ty, g1, g2, g3, g4, -⟩ := cls_ok ci (vwlt h1)
          cases Option.some.inj (g1.symm.trans h1)
          have ha0 : a ≠ 0 := hR.ne0 ha (fun _ _ q => by cases q)
          exact va_get hx hb hts g4 hown hK hR.1 (mps K b sz h a) (mkw_get ha ha0 (hR.2.2.1 _ _ ha)) h1 y h2 (hts _ h3) (fun _ q => q) (v := cv b sz v) (by rw [List.getElem?_map, hv]; rfl) d (kn _ _ _ _ _ _ _ hs.symm (Or.inl ⟨rfl, rfl⟩) _ _ _ hR hZ hL)
        · cases hs
      · cases hs
    · cases hs
  · cases hs
set_option maxHeartbeats 1000000 in
theorem sd_putf (hx : p.tables.exec = Jvm.exec) (hb : c.code = m_b k) (hts : ∀ w ∈ lwg, w.before args s = true) (hown : s.vm.findClass (cnm (m_cn k)) = some m.cls) (hK : va_K D vwCl (tysK K) s) {ix x y z : Nat} (hE : (m_cn k, ix, x, y) ∈ fldT) (hF : (x, y, z) ∈ ftyT) (hG : z < 2 ∨ (m_kd k = 2 ∧ (m_cn k, x) ∈ cnciT)) (hin : m_kd k = 2 → meth.name = "<init>") (d : decode (m_b k) pc = .ok (.putfield ix, 3)) (hs : s_putf x y z (pc + 3) is lv st h c0 s0 = some o) (kn : ∀ pc' is' lv' st' h' c' s', o = .inl (pc', is', lv', st', h', c', s') → ((pc' = pc + 3 ∧ is' = is) ∨ is' = []) → MW p l e R s m args below meth c D K b sz L xs Q k pc' lv' st' h' c' s') : MW p l e R s m args below meth c D K b sz L xs Q k pc lv st h c0 s0 := by
  intro H locs ls hR hZ hL
  unfold s_putf at hs
  split at hs
  · next v a st' =>
    split at hs
    · next ci fs ha =>
      split at hs
      · next hci =>
        obtain ⟨hci, hyl, htv⟩ := hci
        simp only [nx, Option.some.injEq] at hs
        subst hci
        obtain ⟨C, T, N, h1, h2, h3⟩ := fldT_ok _ hE
        obtain ⟨C', T', N', ty, g1, g2, g3, g4, -⟩ := cls_ok ci (vwlt h1)
        cases Option.some.inj (g1.symm.trans h1)
        obtain ⟨C', T', N', f1, f2, f3, f4, f5⟩ := ftyT_ok _ hF
        cases Option.some.inj (f1.symm.trans h1)
        have ha0 : a ≠ 0 := hR.ne0 ha (fun _ _ q => by cases q)
        have haN := hR.2.2.1 _ _ ha
        obtain ⟨ty9, t1, t2, t3⟩ : ∃ ty9, parseFieldDescriptor (T y).2.2.1 = some ty9 ∧ narrow ty9 (cv b sz v) = cv b sz v ∧ fits ty9 (cv b sz v) = true := by
          cases v with
          | int w =>
            rcases f5 with ⟨-, f5⟩ | ⟨f5, -⟩
            · exact ⟨.int, f5, rfl, rfl⟩
            · simp only [tyv, beq_iff_eq] at htv
              exact absurd (f5.symm.trans htv) (by decide)
          | ref w =>
            rcases f5 with ⟨f5, -⟩ | ⟨-, ty9, q1, q2⟩
            · simp only [tyv, beq_iff_eq] at htv
              exact absurd (f5.symm.trans htv) (by decide)
            · exact ⟨ty9, q1, (q2 _).1, (q2 _).2⟩
          | _ => simp [tyv] at htv
        have e9 : ce K b sz (some (mO ci (fs.set y v))) = .inr (ci, (fs.map (cv b sz)).set y (cv b sz v)) := by
          show Sum.inr (ci, (fs.set y v).map (cv b sz)) = _
          rw [List.map_set]
        rcases Nat.lt_or_ge z 2 with hz | hz
        · refine va_put hx hb hts g4 ty g2 g3 hown hK hR.1 mkw_D hR.rf (mps K b sz h a) (mkw_get ha ha0 haN) h1 y h2 (hts _ h3) (fun _ q => q) (by rw [f4]; exact decide_eq_false (Nat.not_le.mpr hz)) t1 t2 t3 (by rw [List.length_map]; exact hyl) d (fun H1 locs1 hP1 hD1 hS1 => ?_)
          rw [← e9] at hP1
          exact kn _ _ _ _ _ _ _ hs.symm (Or.inl ⟨rfl, rfl⟩) _ _ _ (hR.up ha0 ha hP1 hS1) hZ hL
        · obtain ⟨hkd, hcn⟩ := hG.resolve_left (by omega)
          obtain ⟨T9, N9, q9⟩ := cnciT_ok _ hcn
          cases Option.some.inj (h1.symm.trans q9)
          refine va_putF hx hb hts g4 ty g2 g3 hown hK hR.1 mkw_D hR.rf (mps K b sz h a) (mkw_get ha ha0 haN) h1 y h2 (hts _ h3) (fun _ q => q) (by rw [f4]; exact decide_eq_true hz) (hin hkd) f3 t1 t2 t3 (by rw [List.length_map]; exact hyl) d (fun H1 locs1 hP1 hD1 hS1 => ?_)
          rw [← e9] at hP1
          exact kn _ _ _ _ _ _ _ hs.symm (Or.inl ⟨rfl, rfl⟩) _ _ _ (hR.up ha0 ha hP1 hS1) hZ hL
      · cases hs
    · cases hs
  · cases hs
set_option maxHeartbeats 1000000 in
theorem sd_iald (hx : p.tables.exec = Jvm.exec) (hb : c.code = m_b k) (hts : ∀ w ∈ lwg, w.before args s = true) (hown : s.vm.findClass (cnm (m_cn k)) = some m.cls) (hK : va_K D vwCl (tysK K) s) (hX : va_X b L xs s s.heap) (hbl : b < s.heap.size) (hbs : b < sz) (d : decode (m_b k) pc = .ok (.iaload, 1)) (hs : s_iald (pc + 1) is lv st h c0 s0 = some o) (kn : ∀ pc' is' lv' st' h' c' s', o = .inl (pc', is', lv', st', h', c', s') → ((pc' = pc + 1 ∧ is' = is) ∨ is' = []) → MW p l e R s m args below meth c D K b sz L xs Q k pc' lv' st' h' c' s') : MW p l e R s m args below meth c D K b sz L xs Q k pc lv st h c0 s0 := by
  intro H locs ls hR hZ hL
  unfold s_iald at hs
  split at hs
  · next i a st' =>
    split at hs
    · next n f ha =>
      split at hs
      · cases hs
      · next hi =>
        simp only [nx, Option.some.injEq] at hs
        by_cases ha0 : a = 0
        · subst ha0
          rw [hR.2.2.2.1] at ha
          cases ha
          exact va_sld hx hb hX hbl (Nat.not_le.mpr hbs) hR.2.1 hi d (kn _ _ _ _ _ _ _ hs.symm (Or.inl ⟨rfl, rfl⟩) _ _ _ hR hZ hL)
        · exact va_iald (tys := tysK K) hx hb hK hR.1 (mps K b sz h a) 0 (mkw_get ha ha0 (hR.2.2.1 _ _ ha)) rfl hi d (kn _ _ _ _ _ _ _ hs.symm (Or.inl ⟨rfl, rfl⟩) _ _ _ hR hZ hL)
    · cases hs
  · cases hs
set_option maxHeartbeats 1000000 in
theorem sd_alen (hx : p.tables.exec = Jvm.exec) (hb : c.code = m_b k) (hts : ∀ w ∈ lwg, w.before args s = true) (hown : s.vm.findClass (cnm (m_cn k)) = some m.cls) (hK : va_K D vwCl (tysK K) s) (hX : va_X b L xs s s.heap) (hbl : b < s.heap.size) (hbs : b < sz) (d : decode (m_b k) pc = .ok (.arraylength, 1)) (hs : s_alen (pc + 1) is lv st h c0 s0 = some o) (kn : ∀ pc' is' lv' st' h' c' s', o = .inl (pc', is', lv', st', h', c', s') → ((pc' = pc + 1 ∧ is' = is) ∨ is' = []) → MW p l e R s m args below meth c D K b sz L xs Q k pc' lv' st' h' c' s') : MW p l e R s m args below meth c D K b sz L xs Q k pc lv st h c0 s0 := by
  intro H locs ls hR hZ hL
  unfold s_alen at hs
  split at hs
  · next a st' =>
    split at hs
    · next n f ha =>
      simp only [nx, Option.some.injEq] at hs
      by_cases ha0 : a = 0
      · subst ha0
        rw [hR.2.2.2.1] at ha
        cases ha
        exact va_slen hx hb hX hbl (Nat.not_le.mpr hbs) hR.2.1 d (kn _ _ _ _ _ _ _ hs.symm (Or.inl ⟨rfl, rfl⟩) _ _ _ hR hZ hL)
      · exact va_alen (tys := tysK K) hx hb hK hR.1 (mps K b sz h a) 0 (mkw_get ha ha0 (hR.2.2.1 _ _ ha)) rfl rfl d (kn _ _ _ _ _ _ _ hs.symm (Or.inl ⟨rfl, rfl⟩) _ _ _ hR hZ hL)
    · cases hs
  · cases hs
set_option maxHeartbeats 1000000 in
theorem sd_iast (hx : p.tables.exec = Jvm.exec) (hb : c.code = m_b k) (hts : ∀ w ∈ lwg, w.before args s = true) (hown : s.vm.findClass (cnm (m_cn k)) = some m.cls) (hK : va_K D vwCl (tysK K) s) (d : decode (m_b k) pc = .ok (.iastore, 1)) (hs : s_iast (pc + 1) is lv st h c0 s0 = some o) (kn : ∀ pc' is' lv' st' h' c' s', o = .inl (pc', is', lv', st', h', c', s') → ((pc' = pc + 1 ∧ is' = is) ∨ is' = []) → MW p l e R s m args below meth c D K b sz L xs Q k pc' lv' st' h' c' s') : MW p l e R s m args below meth c D K b sz L xs Q k pc lv st h c0 s0 := by
  intro H locs ls hR hZ hL
  unfold s_iast at hs
  split at hs
  · next x i a st' =>
    split at hs
    · cases hs
    · next ha0 =>
      split at hs
      · next n f ha =>
        split at hs
        · cases hs
        · next hi =>
          simp only [nx, Option.some.injEq] at hs
          exact va_iast (tys := tysK K) hx hb hK hR.1 mkw_D hR.rf (mps K b sz h a) 0 (mkw_get ha ha0 (hR.2.2.1 _ _ ha)) rfl hi d (fun H1 locs1 hP1 hD1 hS1 => kn _ _ _ _ _ _ _ hs.symm (Or.inl ⟨rfl, rfl⟩) _ _ _ (hR.up ha0 ha hP1 hS1) hZ hL)
      · cases hs
  · cases hs
/-- what a place of an array of references holds -/
theorem mq_at {H : Heap} {locs : List Loc} {H0 : Heap} {a t n : Nat} {g : Nat → Option Nat} (hR : RH D K b sz L xs H0 h H locs) (ha : h.2.2 a = some (mQ t n g)) : H[ad b sz a]? = some (arrV (if t = 0 then K.2.2.1 else K.2.2.2) n (fun j => va_rf ((g j).map (ad b sz)))) := by
  have ha0 : a ≠ 0 := hR.ne0 ha (fun _ _ q => by cases q)
  exact hR.1 (mps K b sz h a) _ (mkw_get ha ha0 (hR.2.2.1 _ _ ha))
theorem mq_arr {t : Nat} (hK : va_K D vwCl (tysK K) s) : ∃ ty, ty.isReference = true ∧ ArrOfT s (if t = 0 then K.2.2.1 else K.2.2.2) ty := by
  by_cases e : t = 0
  · rw [if_pos e]
    exact ⟨.array .int, rfl, (hK.2 2 (K.2.2.1, .array .int) rfl).1⟩
  · rw [if_neg e]
    exact ⟨.object "PoleShop$Plant", rfl, (hK.2 3 (K.2.2.2, .object "PoleShop$Plant") rfl).1⟩
set_option maxHeartbeats 1000000 in
theorem sd_aald (hx : p.tables.exec = Jvm.exec) (hb : c.code = m_b k) (hts : ∀ w ∈ lwg, w.before args s = true) (hown : s.vm.findClass (cnm (m_cn k)) = some m.cls) (hK : va_K D vwCl (tysK K) s) (d : decode (m_b k) pc = .ok (.aaload, 1)) (hs : s_aald (pc + 1) is lv st h c0 s0 = some o) (kn : ∀ pc' is' lv' st' h' c' s', o = .inl (pc', is', lv', st', h', c', s') → ((pc' = pc + 1 ∧ is' = is) ∨ is' = []) → MW p l e R s m args below meth c D K b sz L xs Q k pc' lv' st' h' c' s') : MW p l e R s m args below meth c D K b sz L xs Q k pc lv st h c0 s0 := by
  intro H locs ls hR hZ hL
  unfold s_aald at hs
  split at hs
  · next i a st' =>
    split at hs
    · next t n g ha =>
      split at hs
      · cases hs
      · next hi =>
        split at hs
        · next q hq =>
          simp only [nx, Option.some.injEq] at hs
          obtain ⟨ty, t1, t2⟩ := mq_arr (t := t) hK
          have hlt : i.toNatClampNeg < n := Nat.not_le.mp fun q => hi (Or.inr q)
          refine W.aald (v := .ref (ad b sz q)) (ty := ty) hx hb (mq_at hR ha) (t2 n (fun j => va_rf ((g j).map (ad b sz)))) t1 (fun q => by cases q) (by rw [arrV_size]; exact hi) ?_ rfl rfl d (kn _ _ _ _ _ _ _ hs.symm (Or.inl ⟨rfl, rfl⟩) _ _ _ hR hZ hL)
          rw [arrV_read _ _ hlt, hq]
          rfl
        · cases hs
    · cases hs
  · cases hs
theorem ce_q {K : KK} {b sz t n : Nat} {g : Nat → Option Nat} : vp_cell (if t = 0 then K.2.2.1 else K.2.2.2) (n, .inr (.inr (.inr (.inr (fun j => (g j).map (ad b sz)))))) = arrV (if t = 0 then K.2.2.1 else K.2.2.2) n (fun j => va_rf ((g j).map (ad b sz))) := rfl
theorem up_q {b sz q i : Nat} {g : Nat → Option Nat} : (fun j => va_rf ((va_up g i (some q) j).map (ad b sz))) = updV (fun j => va_rf ((g j).map (ad b sz))) i (.ref (ad b sz q)) := by
  funext j
  by_cases e : j = i
  · simp [va_up, updV, e, va_rf]
  · simp [va_up, updV, e]
set_option maxHeartbeats 1000000 in
theorem sd_aast (hx : p.tables.exec = Jvm.exec) (hb : c.code = m_b k) (hts : ∀ w ∈ lwg, w.before args s = true) (hown : s.vm.findClass (cnm (m_cn k)) = some m.cls) (hK : va_K D vwCl (tysK K) s) (hA : ∃ kA kI, s.vm.classes[K.2.2.1]? = some kA ∧ kA.kind = .array K.1 (.array .int) ∧ s.vm.classes[K.1]? = some kI ∧ s.vm.assignable K.1 K.1 = true) (d : decode (m_b k) pc = .ok (.aastore, 1)) (hs : s_aast (pc + 1) is lv st h c0 s0 = some o) (kn : ∀ pc' is' lv' st' h' c' s', o = .inl (pc', is', lv', st', h', c', s') → ((pc' = pc + 1 ∧ is' = is) ∨ is' = []) → MW p l e R s m args below meth c D K b sz L xs Q k pc' lv' st' h' c' s') : MW p l e R s m args below meth c D K b sz L xs Q k pc lv st h c0 s0 := by
  intro H locs ls hR hZ hL
  unfold s_aast at hs
  split at hs
  · next q i a st' =>
    split at hs
    · next t n g ha =>
      split at hs
      · cases hs
      · next hi =>
        have hi1 : ¬ i < 0 := fun z => hi (Or.inl z)
        have hi2 : i.toNatClampNeg < n := Nat.not_le.mp fun z => hi (Or.inr (Or.inl z))
        have hq0 : q ≠ 0 := fun z => hi (Or.inr (Or.inr z))
        have ha0 : a ≠ 0 := hR.ne0 ha (fun _ _ q => by cases q)
        have haN := hR.2.2.1 _ _ ha
        have key : ∀ (kA kv kC : Class) (comp : ClassId) (cellV : Cell) (ty : FieldType), s.vm.classes[(if t = 0 then K.2.2.1 else K.2.2.2)]? = some kA → kA.kind = .array comp ty → ty.isReference = true → s.vm.classes[comp]? = some kC → H[ad b sz q]? = some cellV → (∀ z, cellV.vm ≠ .statics z) → s.vm.classes[cellV.cls]? = some kv → s.vm.assignable cellV.cls comp = true → o = .inl (pc + 1, is, lv, st', hup h a (mQ t n (va_up g i.toNatClampNeg (some q))), c0, s0) → W p l e R s m args below meth c H locs c0 s0 Q (F0 m pc ls ((.ref q :: .int i :: .ref a :: st').map (cv b sz))) := by
          intro kA kv kC comp cellV ty k1 k2 k3 k4 k5 k6 k7 k8 ho
          refine W.aast hx hb (mq_at hR ha) (fun q h => by cases h) (fun h => by cases h) k1 k2 k3 k4 ⟨hi1, by rw [arrV_size]; exact hi2⟩ k5 k6 k7 k8 rfl rfl d fun H1 e1 z1 oq => ?_
          refine kn _ _ _ _ _ _ _ ho (Or.inl ⟨rfl, rfl⟩) H1 _ ls (hR.up ha0 ha (hR.1.set mkw_D (mkw_get ha ha0 haN) ?_ oq) (hR.rf.put z1 oq (ad_ge ha0))) hZ hL
          show H1[ad b sz a]? = some (vp_cell (if t = 0 then K.2.2.1 else K.2.2.2) (n, .inr (.inr (.inr (.inr (fun j => (va_up g i.toNatClampNeg (some q) j).map (ad b sz)))))))
          rw [e1, arrV_store, ce_q, up_q]
        split at hs
        · next ci fs hv =>
          split at hs
          · next htc =>
            obtain ⟨rfl, rfl⟩ := htc
            simp only [nx, Option.some.injEq] at hs
            obtain ⟨r', hr', cellV, g1, g2, g3, -⟩ := hR.1 (mps K b sz h q) _ (mkw_get hv hq0 (hR.2.2.1 _ _ hv))
            cases hr'
            have hcls := (hK.1 3 _ rfl).2
            obtain ⟨kA, comp, k1, k2, k3, -⟩ := (hK.2 3 (K.2.2.2, .object "PoleShop$Plant") rfl).2
            have hcomp : comp = D.1 3 := Option.some.inj (k3.symm.trans hcls.1)
            subst hcomp
            obtain ⟨kC, hkC, -⟩ := hcls.2
            exact key kA kC kC (D.1 3) cellV _ k1 k2 rfl hkC g1 (fun q h => by rw [g3] at h; cases h) (by rw [g2]; exact hkC) (by rw [g2]; exact va_assign hcls) hs.symm
          · cases hs
        · next p9 hv =>
          obtain ⟨n9, f9⟩ := p9
          split at hs
          · next htc =>
            subst htc
            simp only [nx, Option.some.injEq] at hs
            have hv2 : H[ad b sz q]? = some (arrV K.1 n9 (fun j => .int (f9 j))) := hR.1 (mps K b sz h q) _ (mkw_get hv hq0 (hR.2.2.1 _ _ hv))
            obtain ⟨kA, kI, k1, k2, k3, k4⟩ := hA
            exact key kA kI kI K.1 _ _ k1 k2 rfl k3 hv2 (fun q h => by cases h) k3 k4 hs.symm
          · cases hs
        · cases hs
    · cases hs
  · cases hs
end ME
end
section
/-! What makes cells. -/
section MA
variable {p : Program} {l : Launch} {e : Env} {R : Room} {s : State} {m : MethodId} {args : Array Value} {below : List Frame} {meth : Method} {c : Code} {D : va_G} {K : KK} {b sz L : Nat} {xs : Nat → Int32} {Q : State → Prop} {k : Nat}
variable {pc : Nat} {is : List Ent} {lv : List (Option Value)} {st : List Value} {h : MH} {c0 s0 : Nat} {o : Out}
theorem W_sz {H : Heap} {locs : List Loc} {g : JFrame} (kk : H.size ≤ s.heap.size + c0 → W p l e R s m args below meth c H locs c0 s0 Q g) : W p l e R s m args below meth c H locs c0 s0 Q g := fun T hT X => by
  have h1 : T.heap.size ≤ s.heap.size + c0 := X.same.2.2.1
  rw [hT] at h1
  exact kk h1 T hT X
theorem RH.lo {H0 H : Heap} {locs : List Loc} (hR : RH D K b sz L xs H0 h H locs) (hsz : sz ≤ H0.size) : sz + h.1 ≤ H.size := hR.2.2.2.2
theorem RH.push {H0 H H1 : Heap} {locs : List Loc} {x : MC} (hR : RH D K b sz L xs H0 h H locs) (hs : H.size = sz + h.1) (z1 : H1.size = H.size + 1) (o1 : ∀ q, q < H.size → H1[q]? = H[q]?) (e1 : va_at D vwCl (sz + h.1, ce K b sz (some x)) H1) : RH D K b sz L xs H0 (hpush h x) H1 locs := by
  refine ⟨?_, ⟨Nat.le_trans hR.2.1.1 (by omega), fun q h1 h2 => (o1 q (Nat.lt_of_lt_of_le h1 hR.2.1.1)).trans (hR.2.1.2.1 q h1 h2), hR.2.1.2.2⟩, fun a y hy => ?_, ?_, ?_⟩
  · rw [← mkw_push]
    refine (hR.1.kept (fun k x hx => o1 x.1 ((hR.1 k x hx).lt))).app (fun k x hx => ?_)
    have hz : k < 1 := (List.getElem?_eq_some_iff.mp hx).1
    rw [show k = 0 by omega] at hx
    cases hx
    exact e1
  · show a ≤ h.1 + 1
    by_cases e : a = h.1 + 1
    · omega
    · have := hR.2.2.1 a y (by simpa [hpush, e] using hy)
      omega
  · show (if 0 = h.1 + 1 then some x else h.2.2 0) = _
    rw [if_neg (by omega)]
    exact hR.2.2.2.1
  · show sz + (h.1 + 1) ≤ H1.size
    omega
theorem dfl_cv (x : Nat) : (dfl x).map (cv b sz) = dfl x := by
  unfold dfl
  split <;> rfl
theorem sd_new (hx : p.tables.exec = Jvm.exec) (hb : c.code = m_b k) (hts : ∀ w ∈ lwg, w.before args s = true) (hown : s.vm.findClass (cnm (m_cn k)) = some m.cls) (hK : va_K D vwCl (tysK K) s) (hsz : sz ≤ s.heap.size) {ix x : Nat} (hx9 : x < 8) (hE : (m_cn k, ix, x) ∈ newT) (d : decode (m_b k) pc = .ok (.new ix, 3)) (hs : s_new (m_cn k) ix x (pc + 3) is lv st h c0 s0 = some o)
    (hB : ∀ g, o = .inl g → g.2.2.2.2.2.1 ≤ R.cells ∧ g.2.2.2.2.2.2 ≤ R.slots) (kn : ∀ pc' is' lv' st' h' c' s', o = .inl (pc', is', lv', st', h', c', s') → ((pc' = pc + 3 ∧ is' = is) ∨ is' = []) → MW p l e R s m args below meth c D K b sz L xs Q k pc' lv' st' h' c' s') : MW p l e R s m args below meth c D K b sz L xs Q k pc lv st h c0 s0 := by
  intro H locs ls hR hZ hL
  refine W_sz fun hle => ?_
  unfold s_new at hs
  rw [if_pos hx9] at hs
  split at hs
  · cases hs
  · next hf =>
    have hf : h.2.1 = false := by simpa using hf
    simp only [nx, Option.some.injEq] at hs
    have hse : H.size = sz + h.1 := by have := hR.lo hsz; have := hZ hf; omega
    obtain ⟨-, C, T, N, n1, n2⟩ := newT_ok _ hE
    obtain ⟨C', T', N', ty, g1, g2, g3, g4, g5, g6, g7, g8⟩ := cls_ok x hx9
    cases Option.some.inj (g1.symm.trans n1)
    have hB' := hB _ hs.symm
    have hKn := hK.1 x _ n1
    refine W.newcK hx hb hown (hts _ n2) (hts _ g6) (hts _ g7) rfl d (by rw [g8] at hB'; exact hB'.1) (by rw [g8] at hB'; exact hB'.2) hKn.2.1 rfl fun H1 kC hkC e1 z1 o1 => ?_
    rw [← g8]
    have hR1 : RH D K b sz L xs s.heap (hpush h (mO x (dfl x))) H1 locs := by
      refine hR.push hse z1 o1 ⟨_, n1, ?_⟩
      show t_OB (sz + h.1) (D.1 x) N (D.2 x) H1 (vp_V ((dfl x).map (cv b sz)))
      rw [dfl_cv, ← hse]
      exact (u_born ty hts g4 hKn hkC e1 g2).to g5
    have h9 := kn _ _ _ _ _ _ _ hs.symm (Or.inl ⟨rfl, rfl⟩) H1 locs ls hR1 (fun _ => by show s.heap.size + (c0 + 1) = sz + (h.1 + 1); have := hZ hf; omega) hL
    have ea : ad b sz (h.1 + 1) = H.size := hse.symm
    simp only [List.map_cons, cv, ea] at h9
    exact h9
theorem sd_newa (hx : p.tables.exec = Jvm.exec) (hb : c.code = m_b k) (hts : ∀ w ∈ lwg, w.before args s = true) (hown : s.vm.findClass (cnm (m_cn k)) = some m.cls) (hK : va_K D vwCl (tysK K) s) (hsz : sz ≤ s.heap.size) {t : ClassFile.ArrayType} (d : decode (m_b k) pc = .ok (.newarray t, 2)) (hs : s_newa t (pc + 2) is lv st h c0 s0 = some o)
    (hB : ∀ g, o = .inl g → g.2.2.2.2.2.1 ≤ R.cells ∧ g.2.2.2.2.2.2 ≤ R.slots) (kn : ∀ pc' is' lv' st' h' c' s', o = .inl (pc', is', lv', st', h', c', s') → ((pc' = pc + 2 ∧ is' = is) ∨ is' = []) → MW p l e R s m args below meth c D K b sz L xs Q k pc' lv' st' h' c' s') : MW p l e R s m args below meth c D K b sz L xs Q k pc lv st h c0 s0 := by
  intro H locs ls hR hZ hL
  refine W_sz fun hle => ?_
  unfold s_newa at hs
  split at hs
  · next n st' =>
    split at hs
    · cases hs
    · next hf =>
      have hf1 : h.2.1 = false := by
        cases q : h.2.1
        · rfl
        · exact absurd (Or.inl q) hf
      have hn : ¬ n < 0 := fun q => hf (Or.inr (Or.inl q))
      have hn2 : n.toNatClampNeg ≤ 100 := Nat.not_lt.mp fun q => hf (Or.inr (Or.inr q))
      have hse : H.size = sz + h.1 := by have := hR.lo hsz; have := hZ hf1; omega
      have ea : ad b sz (h.1 + 1) = H.size := hse.symm
      split at hs
      · simp only [nx, Option.some.injEq] at hs
        have hB' := hB _ hs.symm
        refine va_newaK (atype := .int) hx hb (hts _ w_ci) rfl d rfl hn rfl (by show n.toNatClampNeg * 4 ≤ _; omega) hB'.1 hB'.2 rfl fun H1 cA e1 z1 o1 hAr hNm => ?_
        have hcA : K.1 = cA := Option.some.inj ((hK.2 0 (K.1, .int) rfl).2.symm.trans hNm)
        have hR1 : RH D K b sz L xs s.heap (hpush h (mI n.toNatClampNeg (fun _ => 0))) H1 locs := by
          refine hR.push hse z1 o1 ?_
          show H1[sz + h.1]? = some (arrV K.1 n.toNatClampNeg (fun _ => .int 0))
          rw [← hse, hcA]
          exact e1
        have h9 := kn _ _ _ _ _ _ _ hs.symm (Or.inl ⟨rfl, rfl⟩) H1 locs ls hR1 (fun _ => by show s.heap.size + (c0 + 1) = sz + (h.1 + 1); have := hZ hf1; omega) hL
        simp only [List.map_cons, cv, ea] at h9
        exact h9
      · cases hs
  · cases hs
theorem sd_ana (hx : p.tables.exec = Jvm.exec) (hb : c.code = m_b k) (hts : ∀ w ∈ lwg, w.before args s = true) (hown : s.vm.findClass (cnm (m_cn k)) = some m.cls) (hK : va_K D vwCl (tysK K) s) (hsz : sz ≤ s.heap.size) (hO : va_AO "PoleShop$Plant" s) {ix : Nat} (hE : (m_cn k, ix) ∈ anaT) (d : decode (m_b k) pc = .ok (.anewarray ix, 3)) (hs : s_ana (pc + 3) is lv st h c0 s0 = some o)
    (hB : ∀ g, o = .inl g → g.2.2.2.2.2.1 ≤ R.cells ∧ g.2.2.2.2.2.2 ≤ R.slots) (kn : ∀ pc' is' lv' st' h' c' s', o = .inl (pc', is', lv', st', h', c', s') → ((pc' = pc + 3 ∧ is' = is) ∨ is' = []) → MW p l e R s m args below meth c D K b sz L xs Q k pc' lv' st' h' c' s') : MW p l e R s m args below meth c D K b sz L xs Q k pc lv st h c0 s0 := by
  intro H locs ls hR hZ hL
  refine W_sz fun hle => ?_
  unfold s_ana at hs
  split at hs
  · next n st' =>
    split at hs
    · cases hs
    · next hf =>
      have hf1 : h.2.1 = false := by
        cases q : h.2.1
        · rfl
        · exact absurd (Or.inl q) hf
      have hn : ¬ n < 0 := fun q => hf (Or.inr (Or.inl q))
      have hn2 : n.toNatClampNeg ≤ 100 := Nat.not_lt.mp fun q => hf (Or.inr (Or.inr q))
      have hse : H.size = sz + h.1 := by have := hR.lo hsz; have := hZ hf1; omega
      have ea : ad b sz (h.1 + 1) = H.size := hse.symm
      simp only [nx, Option.some.injEq] at hs
      have hB' := hB _ hs.symm
      refine W.anew hx hb hown (hts _ (anaT_ok _ hE)) (va_AO.use hO) rfl d rfl hn (by omega) hB'.1 hB'.2 fun cA kA comp f1 f2 f3 f4 => ?_
      generalize hH1 : H.push ({ cls := cA, slots := Array.replicate n.toNatClampNeg .null, vm := .none } : Cell) = H1
      have z1 : H1.size = H.size + 1 := by rw [← hH1, Array.size_push]
      have e1 : H1[H.size]? = some (arrV cA n.toNatClampNeg (fun _ => .null)) := by rw [← hH1, Array.getElem?_push_size, ← arrV_new]
      have o1 : ∀ q : Nat, q < H.size → H1[q]? = H[q]? := fun q hq => by rw [← hH1, Array.getElem?_push, if_neg (Nat.ne_of_lt hq)]
      obtain ⟨kA', comp', -, -, -, r4⟩ := (hK.2 3 (K.2.2.2, .object "PoleShop$Plant") rfl).2
      have hcA : K.2.2.2 = cA := Option.some.inj (r4.symm.trans f1)
      have hR1 : RH D K b sz L xs s.heap (hpush h (mQ 1 n.toNatClampNeg (fun _ => none))) H1 locs := by
        refine hR.push hse z1 o1 ?_
        show H1[sz + h.1]? = some (arrV K.2.2.2 n.toNatClampNeg (fun _ => .null))
        rw [← hse, hcA]
        exact e1
      have h9 := kn _ _ _ _ _ _ _ hs.symm (Or.inl ⟨rfl, rfl⟩) H1 locs ls hR1 (fun _ => by show s.heap.size + (c0 + 1) = sz + (h.1 + 1); have := hZ hf1; omega) hL
      simp only [List.map_cons, cv, ea] at h9
      exact h9
  · cases hs
theorem g_outer (c : ClassId) (N h0 : Nat) : ∀ i : Nat, Jvm.Free.Multi.outerC c N h0 i = arrV c N (fun j => va_rf (if j < i then some (h0 + 1 + j) else none)) := vr_outer c N h0
theorem RH.grid {H0 H H1 : Heap} {locs : List Loc} {n m : Nat} (hR : RH D K b sz L xs H0 h H locs) (hs : H.size = sz + h.1) (z1 : H1.size = H.size + 1 + n) (o1 : ∀ q, q < H.size → H1[q]? = H[q]?) (e1 : H1[H.size]? = some (arrV K.2.2.1 n (fun j => va_rf (if j < n then some (H.size + 1 + j) else none)))) (e2 : ∀ j, j < n → H1[H.size + 1 + j]? = some (arrV K.1 m (fun _ => .int 0))) : RH D K b sz L xs H0 (hgrid h n m) H1 locs := by
  refine ⟨?_, ⟨Nat.le_trans hR.2.1.1 (by omega), fun q h1 h2 => (o1 q (Nat.lt_of_lt_of_le h1 hR.2.1.1)).trans (hR.2.1.2.1 q h1 h2), hR.2.1.2.2⟩, fun a y hy => ?_, ?_, ?_⟩
  · rw [← mkw_grid]
    refine ((hR.1.kept (fun k x hx => o1 x.1 ((hR.1 k x hx).lt))).app (fun k x hx => ?_)).app (fun k x hx => ?_)
    · have hz : k < 1 := (List.getElem?_eq_some_iff.mp hx).1
      rw [show k = 0 by omega] at hx
      cases hx
      show H1[sz + h.1]? = some (arrV K.2.2.1 n (fun j => va_rf ((if j < n then some (h.1 + 2 + j) else none).map (ad b sz))))
      rw [← hs, e1]
      refine congrArg (fun f => some (arrV K.2.2.1 n f)) (funext fun j => ?_)
      by_cases q : j < n
      · rw [if_pos q, if_pos q]
        show Value.ref _ = Value.ref (ad b sz (h.1 + 2 + j))
        have : ad b sz (h.1 + 2 + j) = sz + (h.1 + 1 + j) := by
          rw [show h.1 + 2 + j = (h.1 + 1 + j) + 1 by omega]
          rfl
        rw [this]
        exact congrArg _ (by omega)
      · rw [if_neg q, if_neg q]
        rfl
    · obtain ⟨i, hi, rfl⟩ := List.mem_map.mp (List.mem_of_getElem? hx)
      have hi := List.mem_range.mp hi
      show H1[sz + h.1 + 1 + i]? = some (arrV K.1 m (fun _ => .int 0))
      rw [← hs]
      exact e2 i hi
  · show a ≤ h.1 + 1 + n
    by_cases e : a = h.1 + 1
    · omega
    · by_cases e' : h.1 + 1 < a ∧ a ≤ h.1 + 1 + n
      · omega
      · have := hR.2.2.1 a y (by simpa [hgrid, e, e'] using hy)
        omega
  · have q1 : ¬ 0 = h.1 + 1 := by omega
    have q2 : ¬ (h.1 + 1 < 0 ∧ 0 ≤ h.1 + 1 + n) := by omega
    simp only [hgrid, q1, q2, if_false]
    exact hR.2.2.2.1
  · show sz + (h.1 + 1 + n) ≤ H1.size
    omega
theorem sd_mna (hx : p.tables.exec = Jvm.exec) (hb : c.code = m_b k) (hts : ∀ w ∈ lwg, w.before args s = true) (hown : s.vm.findClass (cnm (m_cn k)) = some m.cls) (hK : va_K D vwCl (tysK K) s) (hsz : sz ≤ s.heap.size) (hO : (Cond.arrayOver (.array .int)).before args s = true) {ix : Nat} (hE : (m_cn k, ix) ∈ mnaT) (d : decode (m_b k) pc = .ok (.multianewarray ix 2, 4)) (hs : s_mna (pc + 4) is lv st h c0 s0 = some o)
    (hB : ∀ g, o = .inl g → g.2.2.2.2.2.1 ≤ R.cells ∧ g.2.2.2.2.2.2 ≤ R.slots) (kn : ∀ pc' is' lv' st' h' c' s', o = .inl (pc', is', lv', st', h', c', s') → ((pc' = pc + 4 ∧ is' = is) ∨ is' = []) → MW p l e R s m args below meth c D K b sz L xs Q k pc' lv' st' h' c' s') : MW p l e R s m args below meth c D K b sz L xs Q k pc lv st h c0 s0 := by
  intro H locs ls hR hZ hL
  refine W_sz fun hle => ?_
  unfold s_mna at hs
  split at hs
  · next n2 n1 st' =>
    split at hs
    · cases hs
    · next hf =>
      have hf1 : h.2.1 = false := by
        cases q : h.2.1
        · rfl
        · exact absurd (Or.inl q) hf
      have hn : ¬ n1 < 0 := fun q => hf (Or.inr (Or.inl q))
      have hn2 : n1.toNatClampNeg ≤ 100 := Nat.not_lt.mp fun q => hf (Or.inr (Or.inr (Or.inl q)))
      have hm : ¬ n2 < 0 := fun q => hf (Or.inr (Or.inr (Or.inr (Or.inl q))))
      have hm2 : n2.toNatClampNeg ≤ 100 := Nat.not_lt.mp fun q => hf (Or.inr (Or.inr (Or.inr (Or.inr q))))
      have hse : H.size = sz + h.1 := by have := hR.lo hsz; have := hZ hf1; omega
      have ea : ad b sz (h.1 + 1) = H.size := hse.symm
      simp only [nx, Option.some.injEq] at hs
      have hB' := hB _ hs.symm
      intro T hT Xs
      obtain ⟨vm₁, cA, comp, -, fA, fC, hO9, -, X', st9⟩ := Xs.multianewarray2F (ty := .int) hx hown (hts _ (mnaT_ok _ hE)) hO (hts _ w_ci) (g := F0 m pc ls (.int n2 :: .int n1 :: st'.map (cv b sz))) rfl (by rw [hb]; exact d) rfl hn hm (by omega) (by show n2.toNatClampNeg * 4 ≤ _; omega) (by omega) rfl rfl (by have := hB'.1; simp only at this; omega) (by have := hB'.2; simp only at this; omega)
      have ec : comp = K.1 := Option.some.inj (fC.symm.trans (hK.2 0 (K.1, .int) rfl).2)
      have eA : cA = K.2.2.1 := Option.some.inj (fA.symm.trans (hK.2 2 (K.2.2.1, .array .int) rfl).2)
      subst ec
      subst eA
      generalize hF : Jvm.Free.Multi.fill (T.setVm vm₁) K.2.2.1 K.1 n1.toNatClampNeg n2.toNatClampNeg (defaultValue .int) n1.toNatClampNeg = F at X' st9
      have hTh : (T.setVm vm₁).heap = H := hT
      obtain ⟨f1, f2, -, -⟩ := Jvm.Free.Multi.fill_facts (T.setVm vm₁) K.2.2.1 K.1 n1.toNatClampNeg n2.toNatClampNeg (defaultValue .int) n1.toNatClampNeg
      rw [hF, hTh] at f1 f2
      have hold : ∀ x : Nat, x < H.size → F.heap[x]? = H[x]? := fun x hx => by
        have := Jvm.Free.Multi.fill_old (T.setVm vm₁) K.2.2.1 K.1 n1.toNatClampNeg n2.toNatClampNeg (defaultValue .int) (a := x) (by rw [hTh]; exact hx) n1.toNatClampNeg
        rw [hF, hTh] at this
        exact this
      have hrow : ∀ j : Nat, j < n1.toNatClampNeg → F.heap[H.size + 1 + j]? = some (arrV K.1 n2.toNatClampNeg (fun _ => .int 0)) := fun j hj => by
        have := Jvm.Free.Multi.fill_inner (T.setVm vm₁) K.2.2.1 K.1 n1.toNatClampNeg n2.toNatClampNeg (defaultValue .int) n1.toNatClampNeg j hj
        rw [hF, hTh] at this
        rw [this]
        show some ({ cls := K.1, slots := Array.replicate n2.toNatClampNeg (defaultValue .int), vm := .none } : Cell) = _
        rw [arrV_new]
        rfl
      rw [g_outer] at f2
      have hR1 : RH D K b sz L xs s.heap (hgrid h n1.toNatClampNeg n2.toNatClampNeg) F.heap locs := hR.grid hse (by rw [f1]) hold f2 hrow
      have h9 := kn _ _ _ _ _ _ _ hs.symm (Or.inl ⟨rfl, rfl⟩) F.heap locs ls hR1 (fun _ => by show s.heap.size + (c0 + 1 + n1.toNatClampNeg) = sz + (h.1 + 1 + n1.toNatClampNeg); have := hZ hf1; omega) hL
      simp only [List.map_cons, cv, ea] at h9
      obtain ⟨t, a1, b1⟩ := h9 F rfl X'
      have e9 : T.heap.size = H.size := by rw [hT]
      exact ⟨t, st9 t (by rw [e9]; exact a1), b1⟩
  · cases hs
end MA
end
section
/-! What the model has made only grows, and is counted. -/
def gm (N : Nat) (fz : Bool) (c s : Nat) (N' : Nat) (fz' : Bool) (c' s' : Nat) : Prop := c ≤ c' ∧ s ≤ s' ∧ (fz' = false → fz = false ∧ N' + c = N + c')
theorem gm.rf {N : Nat} {fz : Bool} {c s : Nat} : gm N fz c s N fz c s := ⟨Nat.le_refl _, Nat.le_refl _, fun h => ⟨h, rfl⟩⟩
theorem gm.tr {N N1 N2 c c1 c2 s s1 s2 : Nat} {f f1 f2 : Bool} (h : gm N f c s N1 f1 c1 s1) (h' : gm N1 f1 c1 s1 N2 f2 c2 s2) : gm N f c s N2 f2 c2 s2 := by
  refine ⟨Nat.le_trans h.1 h'.1, Nat.le_trans h.2.1 h'.2.1, fun q => ?_⟩
  obtain ⟨a1, a2⟩ := h'.2.2 q
  obtain ⟨b1, b2⟩ := h.2.2 a1
  have := h.1
  have := h'.1
  exact ⟨b1, by omega⟩
/-- what a step leaves: a state, an end, a call -/
def og (N : Nat) (fz : Bool) (c s : Nat) (o : Out) : Prop := match o with
  | .inl g => gm N fz c s g.2.2.2.2.1.1 g.2.2.2.2.1.2.1 g.2.2.2.2.2.1 g.2.2.2.2.2.2
  | .inr (.inl r) => gm N fz c s r.2.1.1 r.2.1.2.1 r.2.2.1 r.2.2.2
  | .inr (.inr (_, _, g)) => g.2.2.2.2.1.1 = N ∧ g.2.2.2.2.1.2.1 = fz ∧ g.2.2.2.2.2.1 = c ∧ g.2.2.2.2.2.2 = s
section OG
variable {pc p0 : Nat} {is : List Ent} {lv : List (Option Value)} {st : List Value} {h : MH} {c s : Nat} {o : Out}
theorem og_nx (hs : nx pc is lv st h c s = some o) : og h.1 h.2.1 c s o := by
  simp only [nx, Option.some.injEq] at hs
  subst hs
  exact gm.rf
theorem og_jp {off : Int} (hs : jp p0 off lv st h c s = some o) : og h.1 h.2.1 c s o := by
  unfold jp at hs
  split at hs
  · exact og_nx hs
  · cases hs
theorem og_up {a : Nat} {x : MC} (hs : nx pc is lv st (hup h a x) c s = some o) : og h.1 h.2.1 c s o := by
  simp only [nx, Option.some.injEq] at hs
  subst hs
  exact gm.rf
theorem og_step {cn : Nat} {i : ClassFile.Instr} {x y z : Nat} (hs : stepI cn i x y z p0 pc is lv st h c s = some o) : og h.1 h.2.1 c s o := by
  cases i <;> simp only [stepI] at hs <;> first
    | exact og_nx hs
    | exact og_jp hs
    | cases hs; done
    | (unfold s_iload at hs; split at hs; exact og_nx hs; cases hs)
    | (unfold s_aload at hs; split at hs; exact og_nx hs; cases hs)
    | (unfold s_istore at hs; split at hs; (split at hs; exact og_nx hs; cases hs); cases hs)
    | (unfold s_astore at hs; split at hs; (split at hs; exact og_nx hs; cases hs); cases hs)
    | (unfold s_iinc at hs; split at hs; exact og_nx hs; cases hs)
    | (unfold s_bin at hs; split at hs; exact og_nx hs; cases hs)
    | (unfold s_div at hs; split at hs; (split at hs; cases hs; exact og_nx hs); cases hs)
    | (unfold s_un at hs; split at hs; exact og_nx hs; cases hs)
    | (unfold s_i2l at hs; split at hs; exact og_nx hs; cases hs)
    | (unfold s_lcmp at hs; split at hs; exact og_nx hs; cases hs)
    | (unfold s_dup at hs; split at hs; (split at hs; exact og_nx hs; cases hs); cases hs)
    | (unfold s_ldc at hs; split at hs; (split at hs; exact og_nx hs; cases hs); cases hs)
    | (unfold s_dup2 at hs; split at hs; (split at hs; exact og_nx hs; cases hs); cases hs)
    | (unfold s_pop at hs; split at hs; (split at hs; exact og_nx hs; cases hs); cases hs)
    | (unfold s_icmp at hs; split at hs; (split at hs; (split at hs; exact og_nx hs; exact og_nx hs); cases hs); cases hs)
    | (unfold s_if at hs; split at hs; (split at hs; (split at hs; exact og_nx hs; exact og_nx hs); cases hs); cases hs)
    | (unfold s_table at hs; split at hs; (split at hs; exact og_jp hs; (split at hs; exact og_jp hs; cases hs)); cases hs)
    | (unfold s_getf at hs; split at hs; (split at hs; (split at hs; (split at hs; exact og_nx hs; cases hs); cases hs); cases hs); cases hs)
    | (unfold s_putf at hs; split at hs; (split at hs; (split at hs; exact og_up hs; cases hs); cases hs); cases hs)
    | (unfold s_iald at hs; split at hs; (split at hs; (split at hs; cases hs; exact og_nx hs); cases hs); cases hs)
    | (unfold s_iast at hs; split at hs; (split at hs; cases hs; (split at hs; (split at hs; cases hs; exact og_up hs); cases hs)); cases hs)
    | (unfold s_aald at hs; split at hs; (split at hs; (split at hs; cases hs; (split at hs; exact og_nx hs; cases hs)); cases hs); cases hs)
    | (unfold s_aast at hs; split at hs; (split at hs; (split at hs; cases hs; (split at hs; (split at hs; exact og_up hs; cases hs); (split at hs; exact og_up hs; cases hs); cases hs)); cases hs); cases hs)
    | (unfold s_alen at hs; split at hs; (split at hs; exact og_nx hs; cases hs); cases hs)
    | skip
  all_goals first
    | (unfold s_newa at hs; split at hs <;> first | (split at hs <;> first | (split at hs <;> first | (simp only [nx, Option.some.injEq] at hs; subst hs; exact ⟨Nat.le_add_right _ _, Nat.le_add_right _ _, fun q => ⟨q, by show _ + 1 + _ = _ + (_ + 1); omega⟩⟩) | cases hs) | cases hs) | cases hs)
    | (unfold s_ana at hs; split at hs <;> first | (split at hs <;> first | (simp only [nx, Option.some.injEq] at hs; subst hs; exact ⟨Nat.le_add_right _ _, Nat.le_add_right _ _, fun q => ⟨q, by show _ + 1 + _ = _ + (_ + 1); omega⟩⟩) | cases hs) | cases hs)
    | (unfold s_mna at hs; split at hs <;> first | (split at hs <;> first | (simp only [nx, Option.some.injEq] at hs; subst hs; exact ⟨by show _ ≤ _ + 1 + _; omega, by show _ ≤ _ + _ + _; omega, fun q => ⟨q, by show _ + 1 + _ + _ = _ + (_ + 1 + _); omega⟩⟩) | cases hs) | cases hs)
    | (unfold s_new at hs; split at hs; (split at hs; cases hs; (simp only [nx, Option.some.injEq] at hs; subst hs; exact ⟨Nat.le_add_right _ _, Nat.le_add_right _ _, fun q => ⟨q, by show _ + 1 + _ = _ + (_ + 1); omega⟩⟩)); (split at hs <;> first | (split at hs; (simp only [Option.some.injEq] at hs; subst hs; exact ⟨Nat.le_add_right _ _, Nat.le_add_right _ _, fun q => ⟨q, by show _ + 1 + _ = _ + (_ + 1); omega⟩⟩); cases hs) | cases hs))
    | (unfold s_inv at hs; split at hs; (simp only [Option.some.injEq] at hs; subst hs; exact ⟨rfl, rfl, rfl, rfl⟩); cases hs)
    | (unfold s_invO at hs; split at hs; (split at hs; (split at hs; (unfold s_inv at hs; split at hs; (simp only [Option.some.injEq] at hs; subst hs; exact ⟨rfl, rfl, rfl, rfl⟩); cases hs); cases hs); cases hs); cases hs)
    | (unfold s_invI at hs; split at hs; (split at hs; (split at hs; (split at hs; exact og_nx hs; cases hs); cases hs); (unfold s_inv at hs; split at hs; (simp only [Option.some.injEq] at hs; subst hs; exact ⟨rfl, rfl, rfl, rfl⟩); cases hs)); cases hs)
    | (unfold s_iret s_ret at hs; split at hs; (split at hs; (simp only [Option.some.injEq] at hs; subst hs; exact gm.rf); cases hs); cases hs)
    | (unfold s_aret s_ret at hs; split at hs; (simp only [Option.some.injEq] at hs; subst hs; exact gm.rf); cases hs)
    | (unfold s_vret s_ret at hs; split at hs; (simp only [Option.some.injEq] at hs; subst hs; exact gm.rf); cases hs)
end OG
theorem og_all {k pc : Nat} {is : List Ent} {lv : List (Option Value)} {st : List Value} {h : MH} {c s : Nat} {o : Out} (hs : step k (pc, is, lv, st, h, c, s) = some o) : og h.1 h.2.1 c s o := by
  cases is with
  | nil =>
    simp only [step] at hs
    split at hs
    · exact og_nx hs
    · cases hs
  | cons q is =>
    obtain ⟨i, len, x, y, z⟩ := q
    exact og_step hs
/-- a run: what is made only grows -/
def CG (C : Nat → List Value → MH → Res → Prop) : Prop := ∀ x ar h r, C x ar h r → gm h.1 h.2.1 0 0 r.2.1.1 r.2.1.2.1 r.2.2.1 r.2.2.2
theorem gm.sh {N N' c s c' s' : Nat} {f f' : Bool} (h : gm N f 0 0 N' f' c' s') : gm N f c s N' f' (c + c') (s + s') := ⟨Nat.le_add_right _ _, Nat.le_add_right _ _, fun q => ⟨(h.2.2 q).1, by have := (h.2.2 q).2; omega⟩⟩
theorem runR_gm {C : Nat → List Value → MH → Res → Prop} (hC : CG C) {k : Nat} : ∀ (f : Nat) (g : Cfg) (r : Res), runR C k f g r → gm g.2.2.2.2.1.1 g.2.2.2.2.1.2.1 g.2.2.2.2.2.1 g.2.2.2.2.2.2 r.2.1.1 r.2.1.2.1 r.2.2.1 r.2.2.2
  | 0, _, _, h => h.elim
  | f + 1, (pc, is, lv, st, h, c, s), r, hr => by
    unfold runR at hr
    cases hs : step k (pc, is, lv, st, h, c, s) with
    | none => rw [hs] at hr; exact hr.elim
    | some o =>
      rw [hs] at hr
      have h1 := og_all hs
      match o, hr, h1 with
      | .inl g', hr, h1 => exact gm.tr h1 (runR_gm hC f g' r hr)
      | .inr (.inl r'), hr, h1 => subst hr; exact h1
      | .inr (.inr (x, ar, (pc', is', lv', st', h', c', s'))), hr, h1 =>
        obtain ⟨e1, e2, e3, e4⟩ := h1
        obtain ⟨q, hq, hr⟩ := hr
        have h2 := hC x ar h' q hq
        rw [e1, e2] at h2
        simp only at e3 e4
        subst e3
        subst e4
        match q, hr, h2 with
        | (.inl v, h2', c2, s2), hr, h2 => exact gm.tr h2.sh (runR_gm hC f _ r hr)
        | (.inr E, h2', c2, s2), hr, h2 =>
          cases hh : m_hh k with
          | nil => rw [hh] at hr; subst hr; exact h2.sh
          | cons a l =>
            rw [hh] at hr
            simp only at hr
            split at hr
            · exact hr.elim
            · split at hr
              · exact gm.tr h2.sh (runR_gm hC f _ r hr)
              · exact gm.tr h2.sh (runR_gm hC f _ r hr)
              · exact hr.elim
theorem Ev_gm : ∀ d, CG (Ev d)
  | 0 => fun _ _ _ _ h => h.elim
  | d + 1 => fun x ar h r hr => by
    obtain ⟨-, f, hr⟩ := hr
    exact runR_gm (Ev_gm d) f _ r hr
end
section
/-! What stays as it is through every call: links, texts, statics, the script. -/
def exW : List Cond := [.castable (exN 0) (exN 0), .castable (exN 1) (exN 1), .castable (exN 2) (exN 2), .declares (Bundle.initS "java/lang/RuntimeException"), .declares (Bundle.initS "java/lang/Exception"), .declares (Bundle.initS Bundle.tN)]
theorem exW_of : ∀ q ∈ thkT, ∀ w ∈ (vx_atS (cnm q.1) q.2.2.2 (exN q.2.1) exS).filter (fun w => !goodWord w), w ∈ exW := by decide +kernel
def nestW : List Cond := (callT.filter (fun q => q.2.2.2 == 1)).map (fun q => Cond.methodLinkNest (cnm q.1) q.2.1 (m_y q.2.2.1) "PoleShop")
theorem nestW_of {q : Nat × Nat × Nat × Nat} (h : q ∈ callT) (h1 : q.2.2.2 = 1) : Cond.methodLinkNest (cnm q.1) q.2.1 (m_y q.2.2.1) "PoleShop" ∈ nestW := List.mem_map.mpr ⟨q, List.mem_filter.mpr ⟨h, by rw [h1]; rfl⟩, rfl⟩
theorem nestW_tbl : ∀ w ∈ nestW, w ∈ lw_tbl := by decide +kernel
theorem exW_tbl : ∀ w ∈ exW, w ∈ lw_tbl := by decide +kernel
theorem exW_on : ∀ w ∈ exW, w.onTables = true := by decide +kernel
theorem nestW_on : ∀ w ∈ nestW, w.onTables = true := by decide +kernel
theorem exW_warm {s U : State} (hW : s.WarmedH U.vm) (h : ∀ w ∈ exW, va_Nw w s) : ∀ w ∈ exW, va_Nw w U := by
  intro w hw
  have hs := h w hw
  simp only [exW, List.mem_cons, List.not_mem_nil, or_false] at hw
  rcases hw with rfl | rfl | rfl | rfl | rfl | rfl
  · exact va_Nw.warmC hW hs
  · exact va_Nw.warmC hW hs
  · exact va_Nw.warmC hW hs
  · exact va_Nw.warmD hW hs
  · exact va_Nw.warmD hW hs
  · exact va_Nw.warmD hW hs
theorem nestW_warm {s U : State} (hW : s.WarmedH U.vm) (h : ∀ w ∈ nestW, va_Nw w s) : ∀ w ∈ nestW, va_Nw w U := by
  intro w hw
  have hs := h w hw
  obtain ⟨q, -, rfl⟩ := List.mem_map.mp hw
  exact va_Nw.warmM hW hs
/-- the class of the rows of ints is made -/
def ovA (U : State) : Prop := (Cond.arrayOver (.array .int)).before #[] U = true
theorem ovA_spec {U : State} (h : ovA U) : ∃ comp c k comp', U.vm.findClass (FieldType.array .int).toString = some comp ∧ (U.vm.classes.findIdx? fun (x : Class) => match x.kind with | .array component _ => component == comp | _ => false) = some c ∧ U.vm.classes[c]? = some k ∧ k.kind = .array comp' (.array .int) ∧ U.vm.findClass ("[" ++ (FieldType.array .int).toString) = some c := by
  unfold ovA Cond.before Cond.holds at h
  simp only [Cond.value, beq_iff_eq, Option.bind_eq_some_iff, Option.map_eq_some_iff] at h
  obtain ⟨comp, h1, c, h2, k, h3, h4⟩ := h
  cases hk : k.kind with
  | array comp' ty =>
    rw [hk] at h4
    simp only [Bool.and_eq_true, decide_eq_true_eq] at h4
    exact ⟨comp, c, k, comp', h1, h2, h3, by rw [hk, h4.1], h4.2⟩
  | _ => rw [hk] at h4; simp at h4
theorem ovA_moved {u U : State} (hvm : u.vm.Alike U.vm) (h : ovA u) : ovA U := by
  obtain ⟨comp, c, k, comp', h1, h2, h3, h4, h5⟩ := ovA_spec h
  obtain ⟨k', hk', he⟩ := hvm.2.2 _ _ h3
  have hi : (U.vm.classes.findIdx? fun (x : Class) => match x.kind with | .array component _ => component == comp | _ => false) = some c := by
    have e1 := (va_idx_bare u.vm comp).trans h2
    have e2 := va_idx_bare U.vm comp
    first | rw [hvm.bare_eq] at e1 | rw [← hvm.bare_eq] at e1
    exact e2.symm.trans e1
  have hkind : k'.kind = .array comp' (.array .int) := by rw [he]; exact h4
  have f1 : U.vm.findClass (FieldType.array .int).toString = some comp := by rw [hvm.findClass]; exact h1
  have f2 : U.vm.findClass ("[" ++ (FieldType.array .int).toString) = some c := by rw [hvm.findClass]; exact h5
  unfold ovA Cond.before Cond.holds
  simp only [Cond.value, beq_iff_eq, Option.bind_eq_some_iff, Option.map_eq_some_iff]
  refine ⟨comp, f1, c, hi, k', hk', ?_⟩
  rw [hkind]
  simp [f2]
theorem ovA_use {A : Array Value} {U : State} (h : ovA U) : (Cond.arrayOver (.array .int)).before A U = true := h
/-- of the machine's tables -/
def FxV (D : va_G) (K : KK) (U : State) : Prop :=
  va_K D vwCl (tysK K) U ∧ (∀ w ∈ exW, va_Nw w U) ∧ (∀ w ∈ nestW, va_Nw w U) ∧ (∀ q ∈ strT, ∃ sa, vk_R RX9 q.1 q.2 sa U) ∧ (∀ E E', E < 3 → E' < 3 → E ≠ E' → va_Nc (exN E) (exN E') U) ∧
  (∃ kA kI, U.vm.classes[K.2.2.1]? = some kA ∧ kA.kind = .array K.1 (.array .int) ∧ U.vm.classes[K.1]? = some kI ∧ U.vm.assignable K.1 K.1 = true) ∧ va_AO "PoleShop$Plant" U ∧ ovA U
/-- of the heap, below the cells that are ours -/
def FxH (b sz L : Nat) (xs : Nat → Int32) (U : State) : Prop :=
  vx_Zq Bundle.tN "UNASSIGNED_STACK" Bundle.steD (fun q => sz ≤ q) U U.heap ∧ vx_Zq Bundle.tN "SUPPRESSED_SENTINEL" Bundle.listD (fun q => sz ≤ q) U U.heap ∧ va_X b L xs U U.heap ∧ b < sz ∧ sz ≤ U.heap.size
theorem FxV.warm {D : va_G} {K : KK} {s U : State} (hW : s.WarmedH U.vm) (h : FxV D K s) : FxV D K U := by
  obtain ⟨h1, h2, h3, h4, h5, ⟨kA, kI, a1, a2, a3, a4⟩, h7, h8⟩ := h
  obtain ⟨kA', b1, b2⟩ := hW.alike.2.2 _ _ a1
  obtain ⟨kI', c1, -⟩ := hW.alike.2.2 _ _ a3
  exact ⟨va_K.moved hW.alike h1, exW_warm hW h2, nestW_warm hW h3, fun q hq => (h4 q hq).imp fun sa r => r.warm hW, fun E E' q1 q2 q3 => va_Nc.moved hW.alike (h5 E E' q1 q2 q3), ⟨kA', kI', b1, by rw [b2]; exact a2, c1, by rw [hW.alike.assignable]; exact a4⟩, va_AO.moved hW.alike h7, ovA_moved hW.alike h8⟩
theorem FxH.warm {b sz L : Nat} {xs : Nat → Int32} {s U : State} {locs : List Loc} (hW : s.WarmedH U.vm) (hS : va_S (fun q => sz ≤ q) s.heap U.heap locs) (h : FxH b sz L xs s) : FxH b sz L xs U := by
  obtain ⟨h1, h2, h3, h4, h5⟩ := h
  have hq : ∀ a : Nat, a < s.heap.size → ¬ (fun q => sz ≤ q) a → U.heap[a]? = s.heap[a]? := fun a ha hn => hS.2.1 a ha hn
  exact ⟨(h1.kept hq).moved hW.alike, (h2.kept hq).moved hW.alike, (h3.kept (hq b (Nat.lt_of_lt_of_le h4 h5) (Nat.not_le.mpr h4))).moved hW.alike, h4, Nat.le_trans h5 hS.1⟩
/-- the world of a call -/
def Wd (D : va_G) (K : KK) (b sz L : Nat) (xs : Nat → Int32) (h : MH) (U : State) : Prop :=
  va_P D vwCl (mkw K b sz h) U.heap ∧ (∀ a x, h.2.2 a = some x → a ≤ h.1) ∧ (h.2.2 0 = some (mI L xs) ∧ sz + h.1 ≤ U.heap.size) ∧ FxV D K U ∧ FxH b sz L xs U
theorem Wd.blind {D : va_G} {K : KK} {b sz L : Nat} {xs : Nat → Int32} {h : MH} {U : State} {g : JFrame} {mk : MethodId} {a : Array Value} (w : Wd D K b sz L xs h U) : Wd D K b sz L xs h (U.calling g mk a) := by
  obtain ⟨w1, w2, w3, ⟨h1, h2, h3, h4, h5, h6, h7, h8⟩, ⟨g1, g2, g3, g4, g5⟩⟩ := w
  have hA : U.vm.Alike (U.calling g mk a).vm := Vm.Alike.refl U.vm
  exact ⟨w1, w2, w3, ⟨va_K.moved (u := U) (U := U.calling g mk a) hA h1, fun w hw => va_Nw.same (exW_on w hw) (u := U) rfl (h2 w hw), fun w hw => va_Nw.same (nestW_on w hw) (u := U) rfl (h3 w hw), fun q hq => (h4 q hq).imp fun sa r => vk_R.same (u := U) rfl r, fun E E' q1 q2 q3 => va_Nc.moved (u := U) (U := U.calling g mk a) hA (h5 E E' q1 q2 q3), h6, va_AO.moved (u := U) (U := U.calling g mk a) hA h7, ovA_moved (u := U) (U := U.calling g mk a) hA h8⟩,
    ⟨g1.moved (u := U) (U := U.calling g mk a) hA, g2.moved (u := U) (U := U.calling g mk a) hA, g3.moved (u := U) (U := U.calling g mk a) hA, g4, g5⟩⟩
end
section
/-! Calls. -/
def rmD (d c s : Nat) : Room := { frames := d, cells := c, slots := s, locals := 44 * d }
def wsM (k : Nat) : List Cond := m_cw k :: lwg
/-- the heap that a call leaves -/
def Wh (D : va_G) (K : KK) (b sz L : Nat) (xs : Nat → Int32) (h : MH) (U : State) : Prop := va_P D vwCl (mkw K b sz h) U.heap ∧ (∀ a x, h.2.2 a = some x → a ≤ h.1) ∧ h.2.2 0 = some (mI L xs) ∧ sz + h.1 ≤ U.heap.size
def PcM (D : va_G) (K : KK) (b sz L : Nat) (xs : Nat → Int32) (ar : List Value) (h : MH) : Array Value → State → Prop := fun a U => a = (ar.map (cv b sz)).toArray ∧ Wd D K b sz L xs h U ∧ (h.2.1 = false → U.heap.size = sz + h.1)
def QcM (D : va_G) (K : KK) (b sz L : Nat) (xs : Nat → Int32) (r : Res) : Array Value → State → Outcome → State → Prop := fun _ st oc t => (∃ v, r.1 = .inl v ∧ oc = .returned (v.map (cv b sz)) ∧ Wh D K b sz L xs r.2.1 t) ∧ va_F (fun q => sz ≤ q) st t
def XcM (D : va_G) (K : KK) (b sz L : Nat) (xs : Nat → Int32) (r : Res) : String → State → State → Prop := fun E st t => (∃ e9, r.1 = .inr e9 ∧ e9 < 3 ∧ E = exN e9 ∧ Wh D K b sz L xs r.2.1 t) ∧ va_F (fun q => sz ≤ q) st t
def MetM (l : Launch) (D : va_G) (K : KK) (b sz L : Nat) (xs : Nat → Int32) (d k : Nat) (ar : List Value) (h : MH) (r : Res) : Prop := vx_Met l (m_y k) (wsM k) (rmD d r.2.2.1 r.2.2.2) (PcM D K b sz L xs ar h) (QcM D K b sz L xs r) (XcM D K b sz L xs r) r.2.2.1 r.2.2.2 (fun q => sz ≤ q)
theorem PcM.blind {D : va_G} {K : KK} {b sz L : Nat} {xs : Nat → Int32} {ar : List Value} {h : MH} : FrameBlind (PcM D K b sz L xs ar h) := fun _ _ _ _ ⟨w1, w2, w3⟩ => ⟨w1, w2.blind, w3⟩
theorem met_of {l : Launch} {y : MethodName} {ws : List Cond} {rm : Room} {Pc : Array Value → State → Prop} {Qc : Array Value → State → Outcome → State → Prop} {XC : String → State → State → Prop} {mc ms : Nat} {free : Addr → Prop} (h : vx_Met l y ws rm Pc Qc XC mc ms free) (hno : ∀ E st t, ¬ XC E st t) : Met l y ws rm Pc Qc mc ms free := by
  intro p e ha hc hk s m args below hf happ hp hK
  obtain ⟨n, o, h1, h2, h3, h4⟩ := h p e ha hc hk s m args below hf happ hp hK
  refine ⟨n, o, h1, h2, h3, ?_⟩
  rcases h4 with h4 | ⟨q, -, E, ce, L, hx, -⟩
  · exact h4
  · exact absurd hx (hno _ _ _)
theorem wsM_good {k : Nat} (hk : mP k) : GoodIn lwg (wsM k) := fun w hw => (List.mem_cons.mp hw).elim (fun e => by rw [e]; exact lwg_self _ hk.2.1.1) (fun h => lwg_self _ h)
theorem m_cw_nil {k : Nat} (h : m_hh k = []) : m_cw k = .code (m_y k) (m_b k) (m_L k) (m_ret k) := by
  unfold m_cw
  rw [h]
theorem m_cw_cons {k : Nat} (h : m_hh k ≠ []) : m_cw k = .codeWith (m_y k) (m_b k) (m_L k) (m_ret k) (m_hh k) := by
  unfold m_cw
  split
  · next q => exact absurd q h
  · rfl
theorem s_inv_eq {x m pc : Nat} {is : List Ent} {lv : List (Option Value)} {st : List Value} {h : MH} {c s : Nat} {o : Out} (hs : s_inv x m pc is lv st h c s = some o) : m ≤ st.length ∧ ((st.drop m).map fun v => v.category).sum ≤ 8 ∧ o = .inr (.inr (x, (st.take m).reverse, (pc, is, lv, st.drop m, h, c, s))) := by
  unfold s_inv at hs
  split at hs
  · next hc =>
    simp only [Option.some.injEq] at hs
    exact ⟨hc.1, hc.2.1, hs.symm⟩
  · cases hs
theorem st_split {st : List Value} {y : Nat} {v : Value} (h : st[y]? = some v) : st = st.take y ++ v :: st.drop (y + 1) ∧ (st.take (y + 1)).reverse = v :: (st.take y).reverse := by
  obtain ⟨hl, he⟩ := List.getElem?_eq_some_iff.mp h
  constructor
  · rw [← he, ← List.drop_eq_getElem_cons hl, List.take_append_drop]
  · rw [List.take_succ, h]
    simp
section CA
variable {p : Program} {l : Launch} {e : Env} {R : Room} {s : State} {m : MethodId} {args : Array Value} {below : List Frame} {meth : Method} {c : Code} {D : va_G} {K : KK} {b sz L : Nat} {xs : Nat → Int32} {Q : State → Prop} {k : Nat}
variable {pc : Nat} {is : List Ent} {lv : List (Option Value)} {st : List Value} {h : MH} {c0 s0 : Nat} {o : Out}
theorem RH.start {H : Heap} {locs : List Loc} (hR : RH D K b sz L xs s.heap h H locs) (hV : FxV D K s) (hF : FxH b sz L xs s) (hz : h.2.1 = false → H.size = sz + h.1) (ar : List Value) : ∀ U : State, U.heap = H → s.WarmedH U.vm → PcM D K b sz L xs ar h (ar.map (cv b sz)).toArray U := by
  intro U hU hW
  subst hU
  exact ⟨rfl, ⟨hR.1, hR.2.2.1, hR.2.2.2, hV.warm hW, hF.warm hW hR.2.1⟩, hz⟩
/-- a call of a static method -/
theorem run_S {d x ix y : Nat} {q : Res} {H : Heap} {locs : List Loc} {ls : Array Slot} (hx : p.tables.exec = Jvm.exec) (hb : c.code = m_b k) (hml : c.maxLocals = m_L k) (hts : ∀ w ∈ lwg, w.before args s = true) (hown : s.vm.findClass (cnm (m_cn k)) = some m.cls) (hV : FxV D K s) (hF : FxH b sz L xs s)
    (hRf : d + 1 ≤ R.frames) (hRl : 44 * d + 38 ≤ R.locals) (hRc : c0 + q.2.2.1 ≤ R.cells ∧ s0 + q.2.2.2 ≤ R.slots) (hE : (m_cn k, ix, x, 0) ∈ callT) (hkd : m_kd x = 0) (hna : m_na x = y) (hlt : x < 111) (hyl : y ≤ st.length) (hcat : ((st.drop y).map fun v => v.category).sum ≤ 8) (dg : decode (m_b k) pc = .ok (.invokestatic ix, 3))
    (hM : MetM l D K b sz L xs d x (st.take y).reverse h q) (hno : m_hh x ≠ [] → ∃ v, q.1 = .inl v) (hR : RH D K b sz L xs s.heap h H locs) (hz : h.2.1 = false → H.size = sz + h.1) (hL : LV b sz (m_L k) lv ls) :
    vx_Run p l e R s m args below meth c H locs c0 s0 q.2.2.1 q.2.2.2 (F0 m pc ls (st.map (cv b sz))) ((st.drop y).map (cv b sz)) (QcM D K b sz L xs q (((st.take y).reverse).map (cv b sz)).toArray) (XcM D K b sz L xs q) (fun q => sz ≤ q) := by
  obtain ⟨⟨p1, p2, p3, p4⟩, ⟨p5, p6⟩, p7, -, -, ⟨p8, p9⟩, -⟩ := id (mp_all x hlt)
  have hG := wsM_good (mp_all x hlt)
  have hlen : ∀ sig, parseMethodDescriptor (m_y x).desc = some sig → y = sig.parameters.length := fun sig hs => by
    rw [hs, hna] at p4
    exact (Option.some.inj p4).symm
  have hlink : (Cond.methodLink (cnm (m_cn k)) ix (m_y x)).before args s = true := by
    rcases callT_ok _ hE with ⟨-, h1⟩ | ⟨h1, -⟩
    · exact hts _ h1
    · exact absurd (show (0 : Nat) = 1 from h1) (by decide)
  have hst : st.map (cv b sz) = (((st.take y).reverse).map (cv b sz)).reverse ++ (st.drop y).map (cv b sz) := by
    rw [List.map_reverse, List.reverse_reverse, ← List.map_append, List.take_append_drop]
  have hal : (((st.take y).reverse).map (cv b sz)).length = y := by simp; omega
  have hcat2 : 2 * (F0 m pc ls (st.map (cv b sz))).monitorRoom + (((st.drop y).map (cv b sz)).map fun v => v.category).sum ≤ 8 := lv_room (by rw [cv_cats]; exact hcat)
  by_cases hh : m_hh x = []
  · have hcw := m_cw_nil hh
    refine vx_runS ⟨hx, hb, hml, hown, hts⟩ hM ⟨⟨rfl, rfl, hRf, by show 8 + (m_L x + 11) + 44 * d ≤ R.locals; omega, pay_in hts hG, by rw [← hcw]; exact List.mem_cons_self, by rw [← hcw]; exact hts _ p5, hts _ p6, p3, hlen, hlink⟩, hts _ (p7 hkd)⟩ ⟨PcM.blind, hR.start hV hF hz _⟩ rfl hal hL.2.1.1 hst hcat2 dg hRc
  · have hcw := m_cw_cons hh
    obtain ⟨v, hv⟩ := hno hh
    have hM' := met_of hM (fun E st t hX => by obtain ⟨⟨e9, h1, -⟩, -⟩ := hX; rw [hv] at h1; cases h1)
    have hr := vx_runSW (e := e) (below := below) (meth := meth) (locs := locs) (As := ((st.take y).reverse).map (cv b sz)) (rest := (st.drop y).map (cv b sz)) ⟨hx, hb, hml, hown, hts⟩ hM' (hh := m_hh x) (bytes := m_b x) (maxL := m_L x) (ret := m_ret x) (n := y) ⟨⟨rfl, rfl, hRf, by show 8 + (m_L x + 11) + 44 * d ≤ R.locals; omega, pay_in hts hG, by rw [← hcw]; exact List.mem_cons_self⟩, by rw [← hcw]; exact hts _ p5, hts _ p6, p3, hlen, hlink, hts _ (p7 hkd)⟩ ⟨PcM.blind, hR.start hV hF hz _⟩ rfl hal hL.2.1.1 hst hcat2 dg hRc
    exact fun T hT X => Or.inl (hr T hT X)
/-- a call of an object's method -/
theorem run_V {d x ix y z a : Nat} {fs : List Value} {q : Res} {H : Heap} {locs : List Loc} {ls : Array Slot} (hx : p.tables.exec = Jvm.exec) (hb : c.code = m_b k) (hml : c.maxLocals = m_L k) (hts : ∀ w ∈ lwg, w.before args s = true) (hown : s.vm.findClass (cnm (m_cn k)) = some m.cls) (hV : FxV D K s) (hF : FxH b sz L xs s)
    (hRf : d + 1 ≤ R.frames) (hRl : 44 * d + 38 ≤ R.locals) (hRc : c0 + q.2.2.1 ≤ R.cells ∧ s0 + q.2.2.2 ≤ R.slots) (hE : (m_cn k, ix, x, 0) ∈ callT) (hkd : m_kd x = 1) (hna : m_na x = y) (hz9 : (m_cn x, z) ∈ cnciT) (hlt : x < 111) (hcat : ((st.drop (y + 1)).map fun v => v.category).sum ≤ 8) (dg : decode (m_b k) pc = .ok (.invokevirtual ix, 3)) (hy : st[y]? = some (.ref a)) (ha : h.2.2 a = some (.inl (z, fs)))
    (hM : MetM l D K b sz L xs d x (st.take (y + 1)).reverse h q) (hR : RH D K b sz L xs s.heap h H locs) (hz : h.2.1 = false → H.size = sz + h.1) (hL : LV b sz (m_L k) lv ls) :
    vx_Run p l e R s m args below meth c H locs c0 s0 q.2.2.1 q.2.2.2 (F0 m pc ls (st.map (cv b sz))) ((st.drop (y + 1)).map (cv b sz)) (QcM D K b sz L xs q (((st.take (y + 1)).reverse).map (cv b sz)).toArray) (XcM D K b sz L xs q) (fun q => sz ≤ q) := by
  obtain ⟨⟨p1, p2, p3, p4⟩, ⟨p5, p6⟩, -, p7, -, ⟨p8, p9⟩, -⟩ := id (mp_all x hlt)
  obtain ⟨p7, p7'⟩ := p7 hkd
  have hG := wsM_good (mp_all x hlt)
  have hlen : ∀ sig, parseMethodDescriptor (m_y x).desc = some sig → y = sig.parameters.length := fun sig hs => by
    rw [hs, hna] at p4
    exact (Option.some.inj p4).symm
  have hlink : (Cond.methodLink (cnm (m_cn k)) ix (m_y x)).before args s = true := by
    rcases callT_ok _ hE with ⟨-, h1⟩ | ⟨h1, -⟩
    · exact hts _ h1
    · exact absurd (show (0 : Nat) = 1 from h1) (by decide)
  obtain ⟨e1, e2⟩ := st_split hy
  have hst : st.map (cv b sz) = (((st.take y).reverse).map (cv b sz)).reverse ++ .ref (ad b sz a) :: (st.drop (y + 1)).map (cv b sz) := by
    rw [List.map_reverse, List.reverse_reverse]
    conv => lhs; rw [e1]
    rw [List.map_append]
    rfl
  have hyl : y < st.length := (List.getElem?_eq_some_iff.mp hy).1
  have hal : (((st.take y).reverse).map (cv b sz)).length = y := by simp; omega
  have hcat2 : 2 * (F0 m pc ls (st.map (cv b sz))).monitorRoom + (((st.drop (y + 1)).map (cv b sz)).map fun v => v.category).sum ≤ 8 := lv_room (by rw [cv_cats]; exact hcat)
  have hh : m_hh x = [] := by
    by_cases q : m_hh x = []
    · exact q
    · exact absurd ((p9 q).symm.trans hkd) (by decide)
  have hcw := m_cw_nil hh
  obtain ⟨T9, N9, hcl⟩ := cnciT_ok _ hz9
  have ha0 : a ≠ 0 := hR.ne0 ha (fun _ _ q => by cases q)
  obtain ⟨cellB, r1, r2, r3⟩ := va_recv hV.1 hR.1 hcl (mkw_get ha ha0 (hR.2.2.1 _ _ ha))
  have hpc := hR.start hV hF hz (st.take (y + 1)).reverse
  rw [e2] at hM hpc ⊢
  exact vx_runV (C := (m_y x).cls) (b := ad b sz a) ⟨hx, hb, hml, hown, hts⟩ hM ⟨⟨rfl, rfl, hRf, by show 8 + (m_L x + 11) + 44 * d ≤ R.locals; omega, pay_in hts hG, by rw [← hcw]; exact List.mem_cons_self, by rw [← hcw]; exact hts _ p5, hts _ p6, p3, hlen, hlink⟩, hts _ p7, hts _ p7'⟩ ⟨PcM.blind, ⟨cellB, r1, r2, by rw [p2]; exact r3⟩, hpc⟩ rfl hal hL.2.1.1 hst hcat2 dg hRc
/-- a call of a constructor -/
theorem run_I {d x ix y z a : Nat} {q : Res} {H : Heap} {locs : List Loc} {ls : Array Slot} (hx : p.tables.exec = Jvm.exec) (hb : c.code = m_b k) (hml : c.maxLocals = m_L k) (hts : ∀ w ∈ lwg, w.before args s = true) (hown : s.vm.findClass (cnm (m_cn k)) = some m.cls) (hV : FxV D K s) (hF : FxH b sz L xs s)
    (hRf : d + 1 ≤ R.frames) (hRl : 44 * d + 38 ≤ R.locals) (hRc : c0 + q.2.2.1 ≤ R.cells ∧ s0 + q.2.2.2 ≤ R.slots) (hE : (m_cn k, ix, x, z) ∈ callT) (hkd : m_kd x = 2) (hna : m_na x = y) (hlt : x < 111) (hcat : ((st.drop (y + 1)).map fun v => v.category).sum ≤ 8) (dg : decode (m_b k) pc = .ok (.invokespecial ix, 3)) (hy : st[y]? = some (.ref a))
    (hM : MetM l D K b sz L xs d x (st.take (y + 1)).reverse h q) (hno : ∃ v, q.1 = .inl v) (hR : RH D K b sz L xs s.heap h H locs) (hz : h.2.1 = false → H.size = sz + h.1) (hL : LV b sz (m_L k) lv ls) :
    vx_Run p l e R s m args below meth c H locs c0 s0 q.2.2.1 q.2.2.2 (F0 m pc ls (st.map (cv b sz))) ((st.drop (y + 1)).map (cv b sz)) (QcM D K b sz L xs q (((st.take (y + 1)).reverse).map (cv b sz)).toArray) (XcM D K b sz L xs q) (fun q => sz ≤ q) := by
  obtain ⟨⟨p1, p2, p3, p4⟩, ⟨p5, p6⟩, -, -, p7, ⟨p8, p9⟩, -⟩ := id (mp_all x hlt)
  obtain ⟨p7, p7', p7''⟩ := p7 hkd
  have hG := wsM_good (mp_all x hlt)
  have hlen : ∀ sig, parseMethodDescriptor (m_y x).desc = some sig → y = sig.parameters.length := fun sig hs => by
    rw [hs, hna] at p4
    exact (Option.some.inj p4).symm
  obtain ⟨e1, e2⟩ := st_split hy
  have hst : st.map (cv b sz) = (((st.take y).reverse).map (cv b sz)).reverse ++ .ref (ad b sz a) :: (st.drop (y + 1)).map (cv b sz) := by
    rw [List.map_reverse, List.reverse_reverse]
    conv => lhs; rw [e1]
    rw [List.map_append]
    rfl
  have hyl : y < st.length := (List.getElem?_eq_some_iff.mp hy).1
  have hal : (((st.take y).reverse).map (cv b sz)).length = y := by simp; omega
  have hcat2 : 2 * (F0 m pc ls (st.map (cv b sz))).monitorRoom + (((st.drop (y + 1)).map (cv b sz)).map fun v => v.category).sum ≤ 8 := lv_room (by rw [cv_cats]; exact hcat)
  have hh : m_hh x = [] := by
    by_cases q : m_hh x = []
    · exact q
    · exact absurd ((p9 q).symm.trans hkd) (by decide)
  have hcw := m_cw_nil hh
  rw [p7''] at hcw
  obtain ⟨v, hv⟩ := hno
  have hM' := met_of hM (fun E st t hX => by obtain ⟨⟨e9, h1, -⟩, -⟩ := hX; rw [hv] at h1; cases h1)
  have hpc := hR.start hV hF hz (st.take (y + 1)).reverse
  rw [e2] at hM' hpc ⊢
  rcases callT_ok _ hE with ⟨-, h1⟩ | ⟨hz1, -⟩
  · have hr := va_runI (e := e) (below := below) (meth := meth) (locs := locs) (b := ad b sz a) (As := ((st.take y).reverse).map (cv b sz)) (rest := (st.drop (y + 1)).map (cv b sz)) ⟨hx, hb, hml, hown, hts⟩ hM' (bytes := m_b x) (maxL := m_L x) (n := y) ⟨⟨rfl, rfl, hRf, by show 8 + (m_L x + 11) + 44 * d ≤ R.locals; omega, pay_in hts hG, by rw [← hcw]; exact List.mem_cons_self, by rw [← hcw]; exact hts _ p5, hts _ p6, p3, hlen, hts _ h1⟩, p7', hts _ p7⟩ ⟨PcM.blind, hpc⟩ rfl hal hL.2.1.1 hst hcat2 dg hRc
    exact fun T hT X => Or.inl (hr T hT X)
  · have hl := hV.2.2.1 _ (nestW_of hE hz1)
    have hr := va_runIN (e := e) (below := below) (meth := meth) (locs := locs) (b := ad b sz a) (As := ((st.take y).reverse).map (cv b sz)) (rest := (st.drop (y + 1)).map (cv b sz)) (host := "PoleShop") ⟨hx, hb, hml, hown, hts⟩ hM' (bytes := m_b x) (maxL := m_L x) (n := y) ⟨⟨⟨rfl, rfl, hRf, by show 8 + (m_L x + 11) + 44 * d ≤ R.locals; omega, pay_in hts hG, by rw [← hcw]; exact List.mem_cons_self⟩, by rw [← hcw]; exact hts _ p5, hts _ p6, p3, hlen, va_Nw.use rfl hl⟩, p7', hts _ p7⟩ ⟨PcM.blind, hpc⟩ rfl hal hL.2.1.1 hst hcat2 dg hRc
    exact fun T hT X => Or.inl (hr T hT X)
/-- behind a call -/
theorem after_call {x pc1 : Nat} {q : Res} {a : Array Value} {rest : List Value} {H : Heap} {locs : List Loc} {ls : Array Slot} (hrun : vx_Run p l e R s m args below meth c H locs c0 s0 q.2.2.1 q.2.2.2 (F0 m pc ls (st.map (cv b sz))) (rest.map (cv b sz)) (QcM D K b sz L xs q a) (XcM D K b sz L xs q) (fun q => sz ≤ q)) (hR : RH D K b sz L xs s.heap h H locs) (hZ : h.2.1 = false → s.heap.size + c0 = sz + h.1) (hL : LV b sz (m_L k) lv ls)
    (hg : gm h.1 h.2.1 0 0 q.2.1.1 q.2.1.2.1 q.2.2.1 q.2.2.2)
    (kr : ∀ v, q.1 = .inl v → MW p l e R s m args below meth c D K b sz L xs Q k (pc + 3) lv (v.toList ++ rest) q.2.1 (c0 + q.2.2.1) (s0 + q.2.2.2))
    (kx : ∀ E, q.1 = .inr E → E < 3 → ∀ (H1 : Heap) (locs1 : List Loc) (q9 : Addr) (ce : Cell), RH D K b sz L xs s.heap q.2.1 H1 locs1 → (q.2.1.2.1 = false → s.heap.size + (c0 + q.2.2.1) = sz + q.2.1.1) → H1[q9]? = some ce → ce.vm = .none → s.vm.findClass (exN E) = some ce.cls → vx_W p l e R s m args below meth c H1 locs1 (c0 + q.2.2.1) (s0 + q.2.2.2) Q (F0 m pc ls (rest.map (cv b sz))) q9) :
    W p l e R s m args below meth c H locs c0 s0 Q (F0 m pc ls (st.map (cv b sz))) := by
  have hZ' : q.2.1.2.1 = false → s.heap.size + (c0 + q.2.2.1) = sz + q.2.1.1 := fun hq => by
    obtain ⟨g1, g2⟩ := hg.2.2 hq
    have := hZ g1
    omega
  intro T hT X
  rcases hrun T hT X with ⟨v, st₀, t, T', L9, h0, X', hL9, e1, e2, ⟨⟨v', hv', hoc, hw⟩, hF⟩, sg⟩ | ⟨q9, st₀, t, T', L9, E, ce, h0, X', hL9, e1, e2, ⟨⟨e9, hv', h9, hE, hw⟩, hF⟩, hce, hcv, hcl, sg⟩
  · obtain ⟨k1, k2, k3⟩ := vx_keep h0 e1 hR.2.1 (fun q _ h => h) (fun q h => h) hL9 hF
    have hv : v = v'.map (cv b sz) := by cases hoc; rfl
    subst hv
    obtain ⟨t2, a1, b1⟩ := kr v' hv' T'.heap (locs ++ L9) ls ⟨by rw [e1]; exact hw.1, k3, hw.2.1, hw.2.2.1, by rw [e1]; exact hw.2.2.2⟩ hZ' hL T' rfl X'
    refine ⟨t2, sg t2 ?_, b1⟩
    have e3 : (v'.toList ++ rest).map (cv b sz) = (v'.map (cv b sz)).toList ++ rest.map (cv b sz) := by cases v' <;> rfl
    rw [← e3]
    exact a1
  · obtain ⟨k1, k2, k3⟩ := vx_keep h0 e1 hR.2.1 (fun q _ h => h) (fun q h => h) hL9 hF
    subst hE
    obtain ⟨t2, a1, b1⟩ := kx e9 hv' h9 T'.heap (locs ++ L9) q9 ce ⟨by rw [e1]; exact hw.1, k3, hw.2.1, hw.2.2.1, by rw [e1]; exact hw.2.2.2⟩ hZ' (by rw [e1]; exact hce) hcv hcl T' rfl X'
    exact ⟨t2, sg.trans a1, b1⟩
end CA
end
section
/-! THE MODEL IS SOUND: what a method does in the model it does in the machine. -/
def rok (k : Nat) (v : Option Value) (pc : Nat) : Prop := match v with
  | none => decode (m_b k) pc = .ok (.return_, 1) ∧ rkf (m_ret k) = 0
  | some (.int x) => decode (m_b k) pc = .ok (.ireturn, 1) ∧ (rkf (m_ret k) = 1 ∨ (rkf (m_ret k) = 2 ∧ (x = 0 ∨ x = 1)))
  | some (.ref _) => decode (m_b k) pc = .ok (.areturn, 1) ∧ rkf (m_ret k) = 3
  | _ => False
theorem exN_lt {E : Nat} (h : E < 3) : E = 0 ∨ E = 1 ∨ E = 2 := by omega
theorem hh_cn : ∀ k, k < 112 → m_hh k ≠ [] → m_cn k = 11 := by
  have h : ∀ k ∈ List.range 112, m_hh k ≠ [] → m_cn k = 11 := by decide +kernel
  exact fun k hk => h k (List.mem_range.mpr hk)
theorem thr_cn : ∀ q ∈ thrT, q.1 = 9 ∧ q.2.1 < 3 := by decide +kernel
section Ends
variable {p : Program} {l : Launch} {e : Env} {R : Room} {s : State} {m : MethodId} {args : Array Value} {below : List Frame} {meth : Method} {c : Code} {H : Heap} {locs : List Loc} {cells slots : Nat} {Q : State → Prop}
variable {mc ms : Nat} {free : Addr → Prop} {A0 A1 : Nat → Prop} {H0 : Heap} {a : Array Value} {ls : Array Slot} {st0 rest : List Value}
variable {Qc : Array Value → State → Outcome → State → Prop} {XC : String → State → State → Prop}
/-- 'throw new E("text")': new; dup; ldc; invokespecial; athrow -/
theorem vx_thrS1 {cc : ByteArray} {pc : Nat} (hexec : p.tables.exec = Jvm.exec) (hb : c.code = cc) (hl : l.stackTraces = false) {own cls text : String} {names : List String} {ik is ic mc ms sa : Nat} {A : Nat → Prop}
    (hown : s.vm.findClass own = some m.cls) (hcls : Bundle.fit cls = true) (hnames : ∀ n ∈ names, Bundle.fit n = true)
    (hk : (Cond.classLink own ik cls).before args s = true) (hini : (Cond.initialized cls).before args s = true) (hstr : vk_R own is text sa s) (hat : ∀ w ∈ vx_atS own ic cls names, w.before args s = true)
    (hgood : ∀ w ∈ Cond.classLink own ik cls :: Cond.initialized cls :: vx_atS own ic cls names, vx_ot w = true)
    (hU : vx_Zq Bundle.tN "UNASSIGNED_STACK" Bundle.steD A s s.heap) (hN : vx_Zq Bundle.tN "SUPPRESSED_SENTINEL" Bundle.listD A s s.heap) (hS : va_S A s.heap H locs) (hsize : ls.size = c.maxLocals)
    (d0 : decode cc pc = .ok (.new ik, 3)) (d3 : decode cc (pc + 3) = .ok (.dup, 1)) (d4 : decode cc (pc + 4) = .ok (.ldc is, 2)) (d6 : decode cc (pc + 6) = .ok (.invokespecial ic, 3)) (d9 : decode cc (pc + 9) = .ok (.athrow, 1))
    (hout : ∀ x ∈ c.exceptionTable.toList, covers x (pc + 9) = false)
    (hRframes : names.length + 3 < R.frames) (hRlocals : (rest.map fun v => v.category).sum + (13 * (names.length + 1) + 43) ≤ R.locals) (hRcells : cells + 1 ≤ R.cells) (hRslots : slots + 6 ≤ R.slots) (hlocks : meth.locks = false)
    (hx : ∀ t : State, s.vm.Alike t.vm → H.size + 1 ≤ t.heap.size → (∀ q : Nat, q < H.size → t.heap[q]? = H[q]?) → XC cls s t)
    (hf : ∀ z ∈ locs, free z.base) (hc : cells + 1 ≤ mc) (hs : slots + 6 ≤ ms) :
    W p l e R s m args below meth c H locs cells slots (vx_MQ below Qc XC args s mc ms free) (F0 m pc ls rest) := by
  intro T hT X
  have htr : e.platform.stackTraces = false := (show e.platform.stackTraces = l.stackTraces by rw [X.admits.platform]).trans hl
  have Y := vx_rebase X (R' := { frames := R.frames, locals := R.locals, cells := 1, slots := 6 }) (Nat.le_refl _) (Nat.le_refl _) hRcells hRslots
  obtain ⟨s', hA⟩ : ∃ z, z = (T.setVm s.vm).setFrames (.invoking m args :: below) := ⟨_, rfl⟩
  rw [← hA] at Y
  have hvm : s'.vm = s.vm := by rw [hA]; rfl
  have hhp : s'.heap = H := by rw [hA]; exact hT
  have hW0 : s.WarmedH s'.vm := by rw [hvm]; exact State.WarmedH.refl s
  have hat' : ∀ w ∈ vx_atS own ic cls names, w.before args s' = true := fun w hw => vx_ot_at hW0 hvm.symm (hgood w (List.mem_cons_of_mem _ (List.mem_cons_of_mem _ hw))) (hat w hw)
  have hk' : (Cond.classLink own ik cls).before args s' = true := vx_ot_at hW0 hvm.symm (hgood _ List.mem_cons_self) hk
  have hini' : (Cond.initialized cls).before args s' = true := vx_ot_at hW0 hvm.symm (hgood _ (List.mem_cons_of_mem _ List.mem_cons_self)) hini
  have hU' : vx_Zq Bundle.tN "UNASSIGNED_STACK" Bundle.steD A s' s'.heap := by rw [hhp]; exact vx_Zq.moved hW0.alike (hU.kept hS.2.1)
  have hN' : vx_Zq Bundle.tN "SUPPRESSED_SENTINEL" Bundle.listD A s' s'.heap := by rw [hhp]; exact vx_Zq.moved hW0.alike (hN.kept hS.2.1)
  have h : ∀ w ∈ Bundle.ownAtoms own ic cls names, w.before args s' = true := vx_own hat' (vx_isRefq hU'.1) (vx_isRefq hN'.1) hU'.2.word hN'.2.word
  have hown' : s'.vm.findClass own = some m.cls := by rw [hvm]; exact hown
  have hins : (Cond.instantiable cls 6).before args s' = true := h _ (by simp [Bundle.ownAtoms])
  obtain ⟨vm₁, cX, kX, hfX, hkX, -, -, X₁, st1⟩ := Y.newCold hexec (own := own) (C := cls) (index := ik) (n := 6) hown' hk' hins hini'
    (g := F0 m pc ls rest) rfl (by rw [hb]; exact d0) (Nat.le_refl _) (Nat.le_refl _)
  generalize hT1 : (T.setVm vm₁).pushCell { cls := cX, slots := kX.instanceTypes.map defaultValue, vm := .none } = T1 at X₁ st1
  have hcat : (Value.ref T.heap.size).category = 1 := rfl
  have hcellA : T1.heap[T.heap.size]? = some (freshCell cX kX) := by rw [← hT1]; exact State.heap_pushCell_size _ _
  have d3' : decode c.code (pc + 3) = .ok (.dup, 1) := by rw [hb]; exact d3
  have d4' : decode c.code (pc + 4) = .ok (.ldc is, 2) := by rw [hb]; exact d4
  have hstr' : vk_R own is text sa s' := vk_R.warm hW0 hstr
  obtain ⟨U, hsteps, hrun, hend, hW, hsame, ce, hce, hO⟩ := X₁.ctorThrowS hexec htr (own := own) (cls := cls) (names := names) (ic := ic) hown' hcls hnames h (fun x hx => nomatch hx) hfX hkX hcellA (by rw [hhp, hT]; exact Nat.le_refl _) (msg := .ref sa) rfl
    (g := { method := m, pc := pc + 6, locals := ls, stack := .ref sa :: .ref T.heap.size :: .ref T.heap.size :: rest, locked := none }) rfl hsize rfl rfl (rest := rest) rfl
    (by rw [hb]; exact d6) (by rw [hb]; exact d9) hout hRframes (by simp only [List.map_cons, List.sum_cons, hcat]; omega) hlocks
  obtain ⟨f1, f2⟩ := vx_frame hsame
  rw [hhp] at f1 f2
  have hWs : s.WarmedH U.vm := State.WarmedH.trans hW0 hW
  have hcl : s.vm.findClass cls = some ce.cls := by
    have h9 := hO.cls
    rw [hvm] at h9
    exact h9
  have hall : s.sameButNew ({ U with vm := s.vm } : State) locs mc ms := by
    subst hA
    obtain ⟨e1, e2⟩ := hsame
    rw [State.setFrames_setFrames] at e1
    have h2 : (T.setVm s.vm).sameButNew ({ U with vm := s.vm } : State) [] (0 + 1) (0 + 6) := ⟨e1, e2⟩
    have h3 := X.same.trans h2
    rw [List.append_nil] at h3
    exact h3.mono hc hs
  refine ⟨U, ?_, .threw T.heap.size, hrun, hend, Or.inr ⟨T.heap.size, rfl, cls, ce, locs, hx U hWs.alike (by have h9 := (Array.getElem?_eq_some_iff.mp hce).1; rw [hT] at h9; exact h9) (fun q hq => f2 q hq (fun z hz => nomatch hz)), hce, hO.vm, hcl, hWs, hall, hf⟩⟩
  refine st1 _ ?_
  show Steps p.tables e below (T1.setTop { method := m, pc := pc + 3, locals := ls, stack := .ref T.heap.size :: rest, locked := none }) _
  jvm_step X₁.here [X₁.here.top, hexec, d3', Value.category]
  exact X₁.ldcString hexec (own := own) (text := text) (index := is) (a := sa) hown' hstr'.1 hstr'.2
    (g := { method := m, pc := pc + 4, locals := ls, stack := .ref T.heap.size :: .ref T.heap.size :: rest, locked := none }) rfl d4' _ hsteps
/-- 'throw new E("text")', the text by a wide index -/
theorem vx_thrW1 {cc : ByteArray} {pc : Nat} (hexec : p.tables.exec = Jvm.exec) (hb : c.code = cc) (hl : l.stackTraces = false) {own cls text : String} {names : List String} {ik is ic mc ms sa : Nat} {A : Nat → Prop}
    (hown : s.vm.findClass own = some m.cls) (hcls : Bundle.fit cls = true) (hnames : ∀ n ∈ names, Bundle.fit n = true)
    (hk : (Cond.classLink own ik cls).before args s = true) (hini : (Cond.initialized cls).before args s = true) (hstr : vk_R own is text sa s) (hat : ∀ w ∈ vx_atS own ic cls names, w.before args s = true)
    (hgood : ∀ w ∈ Cond.classLink own ik cls :: Cond.initialized cls :: vx_atS own ic cls names, vx_ot w = true)
    (hU : vx_Zq Bundle.tN "UNASSIGNED_STACK" Bundle.steD A s s.heap) (hN : vx_Zq Bundle.tN "SUPPRESSED_SENTINEL" Bundle.listD A s s.heap) (hS : va_S A s.heap H locs) (hsize : ls.size = c.maxLocals)
    (d0 : decode cc pc = .ok (.new ik, 3)) (d3 : decode cc (pc + 3) = .ok (.dup, 1)) (d4 : decode cc (pc + 4) = .ok (.ldc_w is, 3)) (d7 : decode cc (pc + 7) = .ok (.invokespecial ic, 3)) (d10 : decode cc (pc + 10) = .ok (.athrow, 1))
    (hout : ∀ x ∈ c.exceptionTable.toList, covers x (pc + 10) = false)
    (hRframes : names.length + 3 < R.frames) (hRlocals : (rest.map fun v => v.category).sum + (13 * (names.length + 1) + 43) ≤ R.locals) (hRcells : cells + 1 ≤ R.cells) (hRslots : slots + 6 ≤ R.slots) (hlocks : meth.locks = false)
    (hx : ∀ t : State, s.vm.Alike t.vm → H.size + 1 ≤ t.heap.size → (∀ q : Nat, q < H.size → t.heap[q]? = H[q]?) → XC cls s t)
    (hf : ∀ z ∈ locs, free z.base) (hc : cells + 1 ≤ mc) (hs : slots + 6 ≤ ms) :
    W p l e R s m args below meth c H locs cells slots (vx_MQ below Qc XC args s mc ms free) (F0 m pc ls rest) := by
  intro T hT X
  have htr : e.platform.stackTraces = false := (show e.platform.stackTraces = l.stackTraces by rw [X.admits.platform]).trans hl
  have Y := vx_rebase X (R' := { frames := R.frames, locals := R.locals, cells := 1, slots := 6 }) (Nat.le_refl _) (Nat.le_refl _) hRcells hRslots
  obtain ⟨s', hA⟩ : ∃ z, z = (T.setVm s.vm).setFrames (.invoking m args :: below) := ⟨_, rfl⟩
  rw [← hA] at Y
  have hvm : s'.vm = s.vm := by rw [hA]; rfl
  have hhp : s'.heap = H := by rw [hA]; exact hT
  have hW0 : s.WarmedH s'.vm := by rw [hvm]; exact State.WarmedH.refl s
  have hat' : ∀ w ∈ vx_atS own ic cls names, w.before args s' = true := fun w hw => vx_ot_at hW0 hvm.symm (hgood w (List.mem_cons_of_mem _ (List.mem_cons_of_mem _ hw))) (hat w hw)
  have hk' : (Cond.classLink own ik cls).before args s' = true := vx_ot_at hW0 hvm.symm (hgood _ List.mem_cons_self) hk
  have hini' : (Cond.initialized cls).before args s' = true := vx_ot_at hW0 hvm.symm (hgood _ (List.mem_cons_of_mem _ List.mem_cons_self)) hini
  have hU' : vx_Zq Bundle.tN "UNASSIGNED_STACK" Bundle.steD A s' s'.heap := by rw [hhp]; exact vx_Zq.moved hW0.alike (hU.kept hS.2.1)
  have hN' : vx_Zq Bundle.tN "SUPPRESSED_SENTINEL" Bundle.listD A s' s'.heap := by rw [hhp]; exact vx_Zq.moved hW0.alike (hN.kept hS.2.1)
  have h : ∀ w ∈ Bundle.ownAtoms own ic cls names, w.before args s' = true := vx_own hat' (vx_isRefq hU'.1) (vx_isRefq hN'.1) hU'.2.word hN'.2.word
  have hown' : s'.vm.findClass own = some m.cls := by rw [hvm]; exact hown
  have hins : (Cond.instantiable cls 6).before args s' = true := h _ (by simp [Bundle.ownAtoms])
  obtain ⟨vm₁, cX, kX, hfX, hkX, -, -, X₁, st1⟩ := Y.newCold hexec (own := own) (C := cls) (index := ik) (n := 6) hown' hk' hins hini'
    (g := F0 m pc ls rest) rfl (by rw [hb]; exact d0) (Nat.le_refl _) (Nat.le_refl _)
  generalize hT1 : (T.setVm vm₁).pushCell { cls := cX, slots := kX.instanceTypes.map defaultValue, vm := .none } = T1 at X₁ st1
  have hcat : (Value.ref T.heap.size).category = 1 := rfl
  have hcellA : T1.heap[T.heap.size]? = some (freshCell cX kX) := by rw [← hT1]; exact State.heap_pushCell_size _ _
  have d3' : decode c.code (pc + 3) = .ok (.dup, 1) := by rw [hb]; exact d3
  have d4' : decode c.code (pc + 4) = .ok (.ldc_w is, 3) := by rw [hb]; exact d4
  have hstr' : vk_R own is text sa s' := vk_R.warm hW0 hstr
  obtain ⟨U, hsteps, hrun, hend, hW, hsame, ce, hce, hO⟩ := X₁.ctorThrowS hexec htr (own := own) (cls := cls) (names := names) (ic := ic) hown' hcls hnames h (fun x hx => nomatch hx) hfX hkX hcellA (by rw [hhp, hT]; exact Nat.le_refl _) (msg := .ref sa) rfl
    (g := { method := m, pc := pc + 7, locals := ls, stack := .ref sa :: .ref T.heap.size :: .ref T.heap.size :: rest, locked := none }) rfl hsize rfl rfl (rest := rest) rfl
    (by rw [hb]; exact d7) (by rw [hb]; exact d10) hout hRframes (by simp only [List.map_cons, List.sum_cons, hcat]; omega) hlocks
  obtain ⟨f1, f2⟩ := vx_frame hsame
  rw [hhp] at f1 f2
  have hWs : s.WarmedH U.vm := State.WarmedH.trans hW0 hW
  have hcl : s.vm.findClass cls = some ce.cls := by
    have h9 := hO.cls
    rw [hvm] at h9
    exact h9
  have hall : s.sameButNew ({ U with vm := s.vm } : State) locs mc ms := by
    subst hA
    obtain ⟨e1, e2⟩ := hsame
    rw [State.setFrames_setFrames] at e1
    have h2 : (T.setVm s.vm).sameButNew ({ U with vm := s.vm } : State) [] (0 + 1) (0 + 6) := ⟨e1, e2⟩
    have h3 := X.same.trans h2
    rw [List.append_nil] at h3
    exact h3.mono hc hs
  refine ⟨U, ?_, .threw T.heap.size, hrun, hend, Or.inr ⟨T.heap.size, rfl, cls, ce, locs, hx U hWs.alike (by have h9 := (Array.getElem?_eq_some_iff.mp hce).1; rw [hT] at h9; exact h9) (fun q hq => f2 q hq (fun z hz => nomatch hz)), hce, hO.vm, hcl, hWs, hall, hf⟩⟩
  refine st1 _ ?_
  show Steps p.tables e below (T1.setTop { method := m, pc := pc + 3, locals := ls, stack := .ref T.heap.size :: rest, locked := none }) _
  jvm_step X₁.here [X₁.here.top, hexec, d3', Value.category]
  exact X₁.ldcStringW hexec (own := own) (text := text) (index := is) (a := sa) hown' hstr'.1 hstr'.2
    (g := { method := m, pc := pc + 4, locals := ls, stack := .ref T.heap.size :: .ref T.heap.size :: rest, locked := none }) rfl d4' _ hsteps
end Ends
section SO
variable {p : Program} {l : Launch} {e : Env} {R : Room} {s : State} {m : MethodId} {args : Array Value} {below : List Frame} {meth : Method} {c : Code} {D : va_G} {K : KK} {b sz L : Nat} {xs : Nat → Int32} {Q : State → Prop} {k : Nat}
variable {pc : Nat} {is : List Ent} {lv : List (Option Value)} {st : List Value} {h : MH} {c0 s0 : Nat} {o : Out}
/-- what a throw needs, of the exception's row in the tables -/
theorem thr_facts {E ik ic si : Nat} (hts : ∀ w ∈ lwg, w.before args s = true) (hV : FxV D K s) (hT : (m_cn k, E, ik, ic, si) ∈ thrT) : m_cn k = 9 ∧ E < 3 ∧ cnm (m_cn k) = RX9 ∧ (Cond.classLink (cnm (m_cn k)) ik (exN E)).before args s = true ∧ (Cond.initialized (exN E)).before args s = true ∧ Bundle.fit (exN E) = true ∧ (∀ w ∈ vx_atS (cnm (m_cn k)) ic (exN E) exS, w.before args s = true) ∧ (∀ w ∈ Cond.classLink (cnm (m_cn k)) ik (exN E) :: Cond.initialized (exN E) :: vx_atS (cnm (m_cn k)) ic (exN E) exS, vx_ot w = true) ∧ ∃ tx sa, vk_R (cnm (m_cn k)) si tx sa s := by
  obtain ⟨t1, ⟨tx, t2⟩, t3⟩ := thrT_ok _ hT
  have t1 : (m_cn k, E, ik, ic) ∈ thkT := t1
  have t2 : (si, tx) ∈ strT := t2
  have t3 : cnm (m_cn k) = RX9 := t3
  obtain ⟨t4, t5⟩ := thr_cn _ hT
  have t4 : m_cn k = 9 := t4
  have t5 : E < 3 := t5
  obtain ⟨q1, q2, q3, q4, q5⟩ := thkT_ok _ t1
  have q4 : ∀ w ∈ (vx_atS (cnm (m_cn k)) ic (exN E) exS).filter goodWord, w ∈ lwg := q4
  have q6 : ∀ w ∈ (vx_atS (cnm (m_cn k)) ic (exN E) exS).filter (fun w => !goodWord w), w ∈ exW := exW_of (m_cn k, E, ik, ic) t1
  have hat : ∀ w ∈ vx_atS (cnm (m_cn k)) ic (exN E) exS, w.before args s = true := by
    generalize vx_atS (cnm (m_cn k)) ic (exN E) exS = LL at q4 q6 ⊢
    exact vx_hat (L := LL) (B := exW) (fun w hw => hts w (q4 w hw)) q6 (fun w hw => va_Nw.use (exW_on w hw) (hV.2.1 w hw))
  obtain ⟨sa, hsa⟩ := hV.2.2.2.1 _ t2
  have hsa : vk_R RX9 si tx sa s := hsa
  rw [← t3] at hsa
  exact ⟨t4, t5, t3, hts _ q1, hts _ q2, q3, hat, q5, tx, sa, hsa⟩
theorem Wh.of {H : Heap} {locs : List Loc} {t : State} (hR : RH D K b sz L xs s.heap h H locs) (h1 : H.size ≤ t.heap.size) (h2 : ∀ q : Nat, q < H.size → t.heap[q]? = H[q]?) : Wh D K b sz L xs h t ∧ va_F (fun q => sz ≤ q) s t :=
  ⟨⟨hR.1.kept (fun k x hx => h2 x.1 ((hR.1 k x hx).lt)), hR.2.2.1, hR.2.2.2.1, Nat.le_trans hR.2.2.2.2 h1⟩, ⟨Nat.le_trans hR.2.1.1 h1, fun q q1 q2 => (h2 q (Nat.lt_of_lt_of_le q1 hR.2.1.1)).trans (hR.2.1.2.1 q q1 q2)⟩⟩
theorem Wh.th {H : Heap} {locs : List Loc} {t : State} (hR : RH D K b sz L xs s.heap h H locs) (h1 : H.size + 1 ≤ t.heap.size) (h2 : ∀ q : Nat, q < H.size → t.heap[q]? = H[q]?) : Wh D K b sz L xs (hth h) t ∧ va_F (fun q => sz ≤ q) s t := by
  obtain ⟨w, f⟩ := Wh.of hR (Nat.le_of_succ_le h1) h2
  have hn : h.2.2 (h.1 + 1) = none := by
    cases q : h.2.2 (h.1 + 1) with
    | none => rfl
    | some x => exact absurd (hR.2.2.1 _ _ q) (Nat.not_succ_le_self _)
  refine ⟨⟨by rw [mkw_th hn]; exact w.1, fun a x hx => Nat.le_succ_of_le (hR.2.2.1 a x hx), hR.2.2.2.1, ?_⟩, f⟩
  show sz + (h.1 + 1) ≤ t.heap.size
  have := hR.2.2.2.2
  omega
theorem sd_thr {ix x E : Nat} {r : Res} (hx : p.tables.exec = Jvm.exec) (hb : c.code = m_b k) (hml : c.maxLocals = m_L k) (hts : ∀ w ∈ lwg, w.before args s = true) (hown : s.vm.findClass (cnm (m_cn k)) = some m.cls) (hV : FxV D K s) (hF : FxH b sz L xs s) (hlocks : meth.locks = false) (hl : l.stackTraces = false) (htab : m_hh k = [] → ∀ x ∈ c.exceptionTable.toList, False) (hk : k < 112)
    (hRf : 6 ≤ R.frames) (hRl : 82 ≤ R.locals) (hRc : r.2.2.1 ≤ R.cells ∧ r.2.2.2 ≤ R.slots) (hx9 : ¬ x < 8) (ok : okS k pc ((.new ix, 3, x, E, c0) :: is)) {c1 s1 : Nat} (hs : s_new (m_cn k) ix x (pc + 3) is lv st h c1 s1 = some (.inr (.inl r))) (hQ : Q = vx_MQ below (QcM D K b sz L xs r) (XcM D K b sz L xs r) args s r.2.2.1 r.2.2.2 (fun q => sz ≤ q)) : MW p l e R s m args below meth c D K b sz L xs Q k pc lv st h c1 s1 := by
  intro H locs ls hR hZ hL
  subst hQ
  unfold s_new at hs
  rw [if_neg hx9] at hs
  have hhh : m_cn k = 9 → m_hh k = [] := fun h9 => by
    by_cases q : m_hh k = []
    · exact q
    · exact absurd ((hh_cn k hk q).symm.trans h9) (by decide)
  split at hs
  · next a1 si a2 ic a3 a4 tl =>
    split at hs
    · next hc =>
      obtain ⟨hT, hst⟩ := hc
      simp only [Option.some.injEq, Sum.inr.injEq, Sum.inl.injEq] at hs
      subst hs
      subst hst
      obtain ⟨f1, f2, f3, f4, f5, f6, f7, f8, tx, sa, f9⟩ := thr_facts hts hV hT
      have d3 := ok.tail.dec
      have d4 := ok.tail.tail.dec
      have d6 := ok.tail.tail.tail.dec
      have d9 := ok.tail.tail.tail.tail.dec
      exact vx_thrS1 (rest := []) hx hb hl hown f6 (by decide +kernel) f4 f5 f9 f7 f8 hF.1 hF.2.1 hR.2.1 (by rw [hml]; exact hL.2.1.1) ok.dec d3 d4 d6 d9 (fun x hx => (htab (hhh f1) x hx).elim) (by exact hRf) (by exact hRl) hRc.1 hRc.2 hlocks
        (fun t _ q1 q2 => ⟨⟨_, rfl, f2, rfl, (Wh.th hR q1 q2).1⟩, (Wh.th hR q1 q2).2⟩) hR.2.1.2.2 (Nat.le_refl _) (Nat.le_refl _)
    · cases hs
  · next a1 si a2 ic a3 a4 tl =>
    split at hs
    · next hc =>
      obtain ⟨hT, hst⟩ := hc
      simp only [Option.some.injEq, Sum.inr.injEq, Sum.inl.injEq] at hs
      subst hs
      subst hst
      obtain ⟨f1, f2, f3, f4, f5, f6, f7, f8, tx, sa, f9⟩ := thr_facts hts hV hT
      have d3 := ok.tail.dec
      have d4 := ok.tail.tail.dec
      have d6 := ok.tail.tail.tail.dec
      have d9 := ok.tail.tail.tail.tail.dec
      exact vx_thrW1 (rest := []) hx hb hl hown f6 (by decide +kernel) f4 f5 f9 f7 f8 hF.1 hF.2.1 hR.2.1 (by rw [hml]; exact hL.2.1.1) ok.dec d3 d4 d6 d9 (fun x hx => (htab (hhh f1) x hx).elim) (by exact hRf) (by exact hRl) hRc.1 hRc.2 hlocks
        (fun t _ q1 q2 => ⟨⟨_, rfl, f2, rfl, (Wh.th hR q1 q2).1⟩, (Wh.th hR q1 q2).2⟩) hR.2.1.2.2 (Nat.le_refl _) (Nat.le_refl _)
    · cases hs
  · cases hs
end SO
end
section
/-! The run of one method. -/
theorem hnd_spec {pc E t : Nat} (hE : E < 3) : ∀ (hh : List (Nat × Nat × Nat × Nat)), hnd pc E hh = some t → ∃ pre x suf, hh = pre ++ x :: suf ∧ (∀ z ∈ pre, ¬ (z.1 ≤ pc ∧ pc < z.2.1) ∨ ∃ E', (z.2.2.2, E') ∈ ctT ∧ E' ≠ E) ∧ (x.1 ≤ pc ∧ pc < x.2.1) ∧ (x.2.2.2, E) ∈ ctT ∧ x.2.2.1 = t
  | [], h => by cases h
  | q :: hh, h => by
    unfold hnd at h
    split at h
    · next hc =>
      split at h
      · next E' hE' =>
        split at h
        · next he =>
          subst he
          cases h
          exact ⟨[], q, hh, rfl, fun z hz => (by cases hz), hc, lookup_mem _ _ _ hE', rfl⟩
        · next he =>
          obtain ⟨pre, x, suf, h1, h2, h3⟩ := hnd_spec hE hh h
          refine ⟨q :: pre, x, suf, by rw [h1]; rfl, fun z hz => ?_, h3⟩
          rcases List.mem_cons.mp hz with rfl | hz
          · exact Or.inr ⟨E', lookup_mem _ _ _ hE', he⟩
          · exact h2 z hz
      · cases h
    · next hc =>
      obtain ⟨pre, x, suf, h1, h2, h3⟩ := hnd_spec hE hh h
      refine ⟨q :: pre, x, suf, by rw [h1]; rfl, fun z hz => ?_, h3⟩
      rcases List.mem_cons.mp hz with rfl | hz
      · exact Or.inl hc
      · exact h2 z hz
theorem s_table_nil {d lo hi : Int} {offs : Array Int} {p0 : Nat} {lv : List (Option Value)} {st : List Value} {h : MH} {c s : Nat} {pc' : Nat} {is' : List Ent} {g : List (Option Value) × List Value × MH × Nat × Nat} (hs : s_table d lo hi offs p0 lv st h c s = some (.inl (pc', is', g))) : is' = [] := by
  unfold s_table at hs
  split at hs
  · split at hs
    · obtain ⟨t, -, q⟩ := jp_some hs
      cases q
      rfl
    · split at hs
      · obtain ⟨t, -, q⟩ := jp_some hs
        cases q
        rfl
      · cases hs
  · cases hs
theorem lookup_mem2 {α β : Type} [BEq α] [LawfulBEq α] : ∀ (l : List (α × β)) (k : α) (x : β), l.lookup k = some x → (k, x) ∈ l
  | [], _, _, h => by cases h
  | (i, y) :: l, k, x, h => by
    rw [List.lookup_cons] at h
    by_cases e : k = i
    · subst e
      rw [beq_self_eq_true] at h
      cases h
      exact List.mem_cons_self
    · have e2 : (k == i) = false := by simp [e]
      rw [e2] at h
      exact List.mem_cons_of_mem _ (lookup_mem2 l k x (by simpa using h))
theorem ctT_lt : ∀ q ∈ ctT, q.2 < 3 := by decide +kernel
/-- what a method's walk stands on -/
def Cx (l : Launch) (p : Program) (s : State) (m : MethodId) (args : Array Value) (meth : Method) (c : Code) (D : va_G) (K : KK) (b sz L : Nat) (xs : Nat → Int32) (k : Nat) : Prop :=
  p.tables.exec = Jvm.exec ∧ c.code = m_b k ∧ c.maxLocals = m_L k ∧ (∀ w ∈ lwg, w.before args s = true) ∧ s.vm.findClass (cnm (m_cn k)) = some m.cls ∧ FxV D K s ∧ FxH b sz L xs s ∧ meth.locks = false ∧ l.stackTraces = false ∧ (k ≠ 111 → c.exceptionTable.toList = tableOf (m_hh k)) ∧ (m_kd k = 2 → meth.name = "<init>")
section RU
variable {p : Program} {l : Launch} {e : Env} {R : Room} {s : State} {m : MethodId} {args : Array Value} {below : List Frame} {meth : Method} {c : Code} {D : va_G} {K : KK} {b sz L : Nat} {xs : Nat → Int32} {Q : State → Prop} {k : Nat}
variable {pc : Nat} {is : List Ent} {lv : List (Option Value)} {st : List Value} {h : MH} {c0 s0 : Nat} {o : Out}
set_option maxHeartbeats 4000000 in
/-- one instruction that calls nothing -/
theorem run_one {d : Nat} {r : Res} {i : ClassFile.Instr} {len x y z : Nat} (C : Cx l p s m args meth c D K b sz L xs k) (hk : k < 112) (hRc : r.2.2.1 ≤ R.cells ∧ r.2.2.2 ≤ R.slots)
    (hQ : ∀ E, r.1 = .inr E → Q = vx_MQ below (QcM D K b sz L xs r) (XcM D K b sz L xs r) args s r.2.2.1 r.2.2.2 (fun q => sz ≤ q) ∧ 6 ≤ R.frames ∧ 82 ≤ R.locals ∧ k ≠ 111)
    (hf1 : 1 ≤ R.frames) (hl1 : 31 ≤ R.locals)
    (hret : ∀ v, r.1 = .inl v → ∀ pc H locs ls, RH D K b sz L xs s.heap r.2.1 H locs → rok k v pc → W p l e R s m args below meth c H locs r.2.2.1 r.2.2.2 Q (F0 m pc ls (v.toList.map (cv b sz))))
    (ok : okS k pc ((i, len, x, y, z) :: is)) (hs : stepI (m_cn k) i x y z pc (pc + len) is lv st h c0 s0 = some o)
    (hB : ∀ g, o = .inl g → g.2.2.2.2.2.1 ≤ R.cells ∧ g.2.2.2.2.2.2 ≤ R.slots)
    (kn : ∀ pc' is' lv' st' h' c' s', o = .inl (pc', is', lv', st', h', c', s') → ((pc' = pc + len ∧ is' = is) ∨ is' = []) → MW p l e R s m args below meth c D K b sz L xs Q k pc' lv' st' h' c' s')
    (kr : ∀ r', o = .inr (.inl r') → r = r')
    (kc : ∀ g, o = .inr (.inr g) → ((∃ ix, i = .invokestatic ix) ∨ (∃ ix, i = .invokevirtual ix) ∨ ∃ ix, i = .invokespecial ix) → MW p l e R s m args below meth c D K b sz L xs Q k pc lv st h c0 s0) : MW p l e R s m args below meth c D K b sz L xs Q k pc lv st h c0 s0 := by
  obtain ⟨hx, hb, hml, hts, hown, hV, hF, hlocks, hl, htab, hin⟩ := C
  have d0 := ok.dec
  have hE := ok.ent
  have hX := hF.2.2.1
  have hbl : b < s.heap.size := Nat.lt_of_lt_of_le hF.2.2.2.1 hF.2.2.2.2
  cases i with
  | iload n => simp only [okE, beq_iff_eq] at hE; subst hE; exact sd_iload hx hb d0 hs kn
  | iload_n n => simp only [okE, beq_iff_eq] at hE; subst hE; exact sd_iload_n hx hb d0 hs kn
  | aload n => simp only [okE, beq_iff_eq] at hE; subst hE; exact sd_aload hx hb d0 hs kn
  | aload_n n => simp only [okE, beq_iff_eq] at hE; subst hE; exact sd_aload_n hx hb d0 hs kn
  | istore n => simp only [okE, beq_iff_eq] at hE; subst hE; exact sd_istore hx hb d0 hs kn
  | istore_n n => simp only [okE, beq_iff_eq] at hE; subst hE; exact sd_istore_n hx hb d0 hs kn
  | astore n => simp only [okE, beq_iff_eq] at hE; subst hE; exact sd_astore hx hb d0 hs kn
  | astore_n n => simp only [okE, beq_iff_eq] at hE; subst hE; exact sd_astore_n hx hb d0 hs kn
  | iinc n d9 => simp only [okE, beq_iff_eq] at hE; subst hE; exact sd_iinc hx hb d0 hs kn
  | iconst n => simp only [okE, beq_iff_eq] at hE; subst hE; exact sd_iconst hx hb d0 hs kn
  | bipush n => simp only [okE, beq_iff_eq] at hE; subst hE; exact sd_bipush hx hb d0 hs kn
  | sipush n => simp only [okE, beq_iff_eq] at hE; subst hE; exact sd_sipush hx hb d0 hs kn
  | iadd => simp only [okE, beq_iff_eq] at hE; subst hE; exact sd_iadd hx hb d0 hs kn
  | isub => simp only [okE, beq_iff_eq] at hE; subst hE; exact sd_isub hx hb d0 hs kn
  | imul => simp only [okE, beq_iff_eq] at hE; subst hE; exact sd_imul hx hb d0 hs kn
  | iand => simp only [okE, beq_iff_eq] at hE; subst hE; exact sd_iand hx hb d0 hs kn
  | ishr => simp only [okE, beq_iff_eq] at hE; subst hE; exact sd_ishr hx hb d0 hs kn
  | idiv => simp only [okE, beq_iff_eq] at hE; subst hE; exact sd_idiv hx hb d0 hs kn
  | irem => simp only [okE, beq_iff_eq] at hE; subst hE; exact sd_irem hx hb d0 hs kn
  | ineg => simp only [okE, beq_iff_eq] at hE; subst hE; exact sd_ineg hx hb d0 hs kn
  | i2l => simp only [okE, beq_iff_eq] at hE; subst hE; exact sd_i2l hx hb d0 hs kn
  | lcmp => simp only [okE, beq_iff_eq] at hE; subst hE; exact sd_lcmp hx hb d0 hs kn
  | dup => simp only [okE, beq_iff_eq] at hE; subst hE; exact sd_dup hx hb d0 hs kn
  | ldc ix =>
    have h8 := hs
    simp only [stepI] at h8
    unfold s_ldc at h8
    split at h8
    · next hl9 =>
      have e9 : len = 2 := by omega
      subst e9
      split at h8
      · next v hv =>
        simp only [nx, Option.some.injEq] at h8
        intro H locs ls hR hZ hL
        exact lv_ldc hx hb hown (hts _ (cstT_ok _ (lookup_mem2 _ _ _ hv))) d0 (kn _ _ _ _ _ _ _ h8.symm (Or.inl ⟨rfl, rfl⟩) _ _ _ hR hZ hL)
      · cases h8
    · cases h8
  | dup2 => simp only [okE, beq_iff_eq] at hE; subst hE; exact sd_dup2 hx hb d0 hs kn
  | pop => simp only [okE, beq_iff_eq] at hE; subst hE; exact sd_pop hx hb d0 hs kn
  | goto off => simp only [okE, beq_iff_eq] at hE; subst hE; exact sd_goto hx hb d0 hs kn
  | tableswitch d9 lo hi offs => exact sd_table (is := is) hx hb d0 hs (fun pc' is' lv' st' h' c' s' ho hi => kn pc' is' lv' st' h' c' s' ho (Or.inr (s_table_nil (ho ▸ hs))))
  | if_icmp cd off =>
    simp only [okE, beq_iff_eq] at hE
    subst hE
    cases cd with
    | eq => exact sd_icmp_eq hx hb d0 hs kn
    | ne => exact sd_icmp_ne hx hb d0 hs kn
    | lt => exact sd_icmp_lt hx hb d0 hs kn
    | ge => exact sd_icmp_ge hx hb d0 hs kn
    | gt => exact sd_icmp_gt hx hb d0 hs kn
    | le => exact sd_icmp_le hx hb d0 hs kn
  | ifCond cd off =>
    simp only [okE, beq_iff_eq] at hE
    subst hE
    cases cd with
    | eq => exact sd_if_eq hx hb d0 hs kn
    | ne => exact sd_if_ne hx hb d0 hs kn
    | lt => exact sd_if_lt hx hb d0 hs kn
    | ge => exact sd_if_ge hx hb d0 hs kn
    | gt => exact sd_if_gt hx hb d0 hs kn
    | le => exact sd_if_le hx hb d0 hs kn
  | getfield ix =>
    simp only [okE, Bool.and_eq_true, beq_iff_eq, List.contains_eq_mem, decide_eq_true_eq] at hE
    obtain ⟨rfl, hE⟩ := hE
    exact sd_getf hx hb hts hown hV.1 hE d0 hs kn
  | putfield ix =>
    simp only [okE, Bool.and_eq_true, Bool.or_eq_true, beq_iff_eq, List.contains_eq_mem, decide_eq_true_eq] at hE
    obtain ⟨⟨⟨rfl, h1⟩, h2⟩, h3⟩ := hE
    exact sd_putf hx hb hts hown hV.1 h1 h2 h3 hin d0 hs kn
  | iaload => simp only [okE, beq_iff_eq] at hE; subst hE; exact sd_iald hx hb hts hown hV.1 hX hbl hF.2.2.2.1 d0 hs kn
  | iastore => simp only [okE, beq_iff_eq] at hE; subst hE; exact sd_iast hx hb hts hown hV.1 d0 hs kn
  | aaload => simp only [okE, beq_iff_eq] at hE; subst hE; exact sd_aald hx hb hts hown hV.1 d0 hs kn
  | aastore => simp only [okE, beq_iff_eq] at hE; subst hE; exact sd_aast hx hb hts hown hV.1 hV.2.2.2.2.2.1 d0 hs kn
  | arraylength => simp only [okE, beq_iff_eq] at hE; subst hE; exact sd_alen hx hb hts hown hV.1 hX hbl hF.2.2.2.1 d0 hs kn
  | newarray t => simp only [okE, beq_iff_eq] at hE; subst hE; exact sd_newa hx hb hts hown hV.1 hF.2.2.2.2 d0 hs hB kn
  | anewarray ix =>
    simp only [okE, Bool.and_eq_true, beq_iff_eq, List.contains_eq_mem, decide_eq_true_eq] at hE
    obtain ⟨rfl, hE⟩ := hE
    exact sd_ana hx hb hts hown hV.1 hF.2.2.2.2 hV.2.2.2.2.2.2.1 hE d0 hs hB kn
  | multianewarray ix n =>
    simp only [okE, Bool.and_eq_true, beq_iff_eq, List.contains_eq_mem, decide_eq_true_eq] at hE
    obtain ⟨⟨rfl, rfl⟩, hE⟩ := hE
    exact sd_mna hx hb hts hown hV.1 hF.2.2.2.2 (ovA_use hV.2.2.2.2.2.2.2) hE d0 hs hB kn
  | new ix =>
    simp only [okE, Bool.and_eq_true, beq_iff_eq] at hE
    obtain ⟨rfl, hE⟩ := hE
    by_cases hx9 : x < 8
    · rw [if_pos (show x < 9 by omega)] at hE
      simp only [List.contains_eq_mem, decide_eq_true_eq] at hE
      exact sd_new hx hb hts hown hV.1 hF.2.2.2.2 hx9 hE d0 hs hB kn
    · obtain ⟨r', hr'⟩ : ∃ r', o = .inr (.inl (.inr (x - 100), r')) := by
        have h9 := hs
        simp only [stepI] at h9
        unfold s_new at h9
        rw [if_neg hx9] at h9
        split at h9
        · split at h9
          · simp only [Option.some.injEq] at h9
            exact ⟨_, h9.symm⟩
          · cases h9
        · split at h9
          · simp only [Option.some.injEq] at h9
            exact ⟨_, h9.symm⟩
          · cases h9
        · cases h9
      subst hr'
      have hr := kr _ rfl
      obtain ⟨q1, q2, q3, q4⟩ := hQ (x - 100) (by rw [hr])
      rw [← hr] at hs
      exact sd_thr hx hb hml hts hown hV hF hlocks hl (fun h0 x hx => by rw [htab q4, h0] at hx; cases hx) hk q2 q3 hRc hx9 ok hs q1
  | ireturn =>
    simp only [okE, Bool.and_eq_true, Bool.or_eq_true, beq_iff_eq] at hE
    obtain ⟨rfl, hE⟩ := hE
    have h9 := hs
    simp only [stepI] at h9
    unfold s_iret s_ret at h9
    split at h9
    · next v =>
      split at h9
      · next hv =>
        simp only [Option.some.injEq] at h9
        subst h9
        have hr := kr _ rfl
        subst hr
        intro H locs ls hR hZ hL
        refine hret (some (.int v)) rfl pc H locs ls hR ⟨d0, ?_⟩
        rcases hE with ⟨h1, h2⟩ | ⟨h1, h2⟩
        · exact Or.inl h1
        · refine Or.inr ⟨h1, ?_⟩
          rcases hv with hv | hv
          · exact absurd (hv.symm.trans h2) (by decide)
          · exact hv
      · cases h9
    · cases h9
  | areturn =>
    simp only [okE, Bool.and_eq_true, beq_iff_eq] at hE
    obtain ⟨rfl, hE⟩ := hE
    have h9 := hs
    simp only [stepI] at h9
    unfold s_aret s_ret at h9
    split at h9
    · next v =>
      simp only [Option.some.injEq] at h9
      subst h9
      have hr := kr _ rfl
      subst hr
      intro H locs ls hR hZ hL
      exact hret (some (.ref v)) rfl pc H locs ls hR ⟨d0, hE⟩
    · cases h9
  | return_ =>
    simp only [okE, Bool.and_eq_true, beq_iff_eq] at hE
    obtain ⟨rfl, hE⟩ := hE
    have h9 := hs
    simp only [stepI] at h9
    unfold s_vret s_ret at h9
    split at h9
    · simp only [Option.some.injEq] at h9
      subst h9
      have hr := kr _ rfl
      subst hr
      intro H locs ls hR hZ hL
      exact hret none rfl pc H locs ls hR ⟨d0, hE⟩
    · cases h9
  | invokestatic ix =>
    have h9 := hs
    simp only [stepI] at h9
    obtain ⟨-, -, h9⟩ := s_inv_eq h9
    exact kc _ h9 (Or.inl ⟨_, rfl⟩)
  | invokevirtual ix =>
    have h9 := hs
    simp only [stepI] at h9
    unfold s_invO at h9
    split at h9
    · split at h9
      · split at h9
        · obtain ⟨-, -, h9⟩ := s_inv_eq h9
          exact kc _ h9 (Or.inr (Or.inl ⟨_, rfl⟩))
        · cases h9
      · cases h9
    · cases h9
  | invokespecial ix =>
    have h9 := hs
    simp only [stepI] at h9
    unfold s_invI at h9
    split at h9
    · split at h9
      · next hx0 =>
        split at h9
        · next a st' _ =>
          split at h9
          · next hc8 =>
            simp only [nx, Option.some.injEq] at h9
            simp only [okE, Bool.and_eq_true, Bool.or_eq_true, beq_iff_eq, List.contains_eq_mem, decide_eq_true_eq] at hE
            obtain ⟨rfl, hE⟩ := hE
            have hoi : (m_cn k, ix) ∈ oiT := by
              rcases hE with ((⟨-, h1⟩ | h1) | ⟨⟨⟨-, -⟩, -⟩, h1⟩)
              · exact h1
              · omega
              · rw [hx0] at h1
                exact absurd h1 (by decide)
            intro H locs ls hR hZ hL
            refine W.objInit hx hb hown (hts _ (oiT_ok _ hoi)) (hts _ w_oi) (hts _ w_oc) (g := F0 m pc ls ((.ref a :: st').map (cv b sz))) (rest := st'.map (cv b sz)) rfl (by rw [hml]; exact hL.2.1.1) rfl d0 hf1 ?_ (kn _ _ _ _ _ _ _ h9.symm (Or.inl ⟨rfl, rfl⟩) H locs ls hR hZ hL)
            rw [cv_cats]
            show 2 * 0 + _ + 12 ≤ _
            omega
          · cases h9
        · cases h9
      · obtain ⟨-, -, h9⟩ := s_inv_eq h9
        exact kc _ h9 (Or.inr (Or.inr ⟨_, rfl⟩))
    · cases h9
  | _ => simp only [stepI] at hs; cases hs
end RU
end
section
/-! THE MODEL IS SOUND. -/
/-- a handler keeps what was thrown in a local of the method -/
theorem catch_lt : ∀ k, k < 112 → ∀ q ∈ m_bl k, ∀ (n len : Nat) (a : Nat × Nat × Nat) (is : List Ent), (q.2 = (.astore n, len, a) :: is ∨ ∃ n' : Fin 4, (n' : Nat) = n ∧ q.2 = (.astore_n n', len, a) :: is) → n < m_L k := by
  have h : ∀ k ∈ List.range 112, ∀ q ∈ m_bl k, (match q.2 with | (.astore n, _) :: _ => decide (n < m_L k) | (.astore_n n, _) :: _ => decide ((n : Nat) < m_L k) | _ => true) = true := by decide +kernel
  intro k hk q hq n len a is hc
  have h1 := h k (List.mem_range.mpr hk) q hq
  rcases hc with hc | ⟨n', rfl, hc⟩
  · rw [hc] at h1
    exact of_decide_eq_true h1
  · rw [hc] at h1
    exact of_decide_eq_true h1
section RV
variable {p : Program} {l : Launch} {e : Env} {R : Room} {s : State} {m : MethodId} {args : Array Value} {below : List Frame} {meth : Method} {c : Code} {D : va_G} {K : KK} {b sz L : Nat} {xs : Nat → Int32} {Q : State → Prop} {k : Nat}
variable {pc : Nat} {is : List Ent} {lv : List (Option Value)} {st : List Value} {h : MH} {c0 s0 : Nat} {o : Out}
theorem hnd_nil : m_hh k = [] ∨ ∃ q hh, m_hh k = q :: hh := by
  cases m_hh k with
  | nil => exact Or.inl rfl
  | cons q hh => exact Or.inr ⟨q, hh, rfl⟩
set_option maxHeartbeats 4000000 in
theorem run_sound {d : Nat} {r : Res} (C : Cx l p s m args meth c D K b sz L xs k) (hk : k < 112) (hbl : blP k) (hsnd : ∀ x ar h q, x < 111 → Ev d x ar h q → MetM l D K b sz L xs d x ar h q)
    (hRf : d + 1 ≤ R.frames) (hRl : 44 * d + 38 ≤ R.locals) (hRc : r.2.2.1 ≤ R.cells ∧ r.2.2.2 ≤ R.slots)
    (hQ : ∀ E, r.1 = .inr E → Q = vx_MQ below (QcM D K b sz L xs r) (XcM D K b sz L xs r) args s r.2.2.1 r.2.2.2 (fun q => sz ≤ q) ∧ 6 ≤ R.frames ∧ 82 ≤ R.locals ∧ k ≠ 111)
    (hret : ∀ v, r.1 = .inl v → ∀ pc H locs ls, RH D K b sz L xs s.heap r.2.1 H locs → rok k v pc → W p l e R s m args below meth c H locs r.2.2.1 r.2.2.2 Q (F0 m pc ls (v.toList.map (cv b sz)))) :
    ∀ (f pc : Nat) (is : List Ent) (lv : List (Option Value)) (st : List Value) (h : MH) (c0 s0 : Nat), runR (Ev d) k f (pc, is, lv, st, h, c0, s0) r → okS k pc is → MW p l e R s m args below meth c D K b sz L xs Q k pc lv st h c0 s0 := by
  intro f
  induction f with
  | zero => intro pc is lv st h c0 s0 hr; exact hr.elim
  | succ f ih =>
    intro pc is lv st h c0 s0 hr ok
    unfold runR at hr
    cases hs : step k (pc, is, lv, st, h, c0, s0) with
    | none => rw [hs] at hr; exact hr.elim
    | some o =>
      rw [hs] at hr
      have hB : ∀ g, o = .inl g → g.2.2.2.2.2.1 ≤ R.cells ∧ g.2.2.2.2.2.2 ≤ R.slots := by
        intro g ho
        subst ho
        have h1 := runR_gm (Ev_gm d) f g r hr
        exact ⟨Nat.le_trans h1.1 hRc.1, Nat.le_trans h1.2.1 hRc.2⟩
      cases is with
      | nil =>
        simp only [step] at hs
        split at hs
        · next is' hl' =>
          simp only [nx, Option.some.injEq] at hs
          subst hs
          exact ih _ _ _ _ _ _ _ hr (hbl _ (lookup_mem _ _ _ hl'))
        · cases hs
      | cons q is =>
        obtain ⟨i, len, x, y, z⟩ := q
        have hs : stepI (m_cn k) i x y z pc (pc + len) is lv st h c0 s0 = some o := hs
        refine run_one (d := d) (r := r) C hk hRc hQ (by omega) (by omega) hret ok hs hB ?_ ?_ ?_
        · intro pc' is' lv' st' h' c' s' ho hi
          subst ho
          refine ih _ _ _ _ _ _ _ hr ?_
          rcases hi with ⟨h1, h2⟩ | h1
          · rw [h1, h2]
            exact ok.tail
          · rw [h1]
            exact okS.nil
        · intro r' ho
          subst ho
          exact hr
        · intro g ho hkind
          subst ho
          obtain ⟨hx, hb, hml, hts, hown, hV, hF, hlocks, hl, htab, hin⟩ := id C
          obtain ⟨x9, ar, pc', is', lv', st', h', c', s'⟩ := g
          obtain ⟨q, hq, hr⟩ := hr
          have d0 := ok.dec
          have hE := ok.ent
          have hgq := Ev_gm d x9 ar h' q hq
          have key : ∀ (hlt : x9 < 111) (e1 : h' = h) (e2 : lv' = lv) (e3 : c' = c0) (e4 : s' = s0) (e5 : pc' = pc + 3) (e6 : is' = is) (e7 : len = 3) (hrun : ∀ H locs ls, RH D K b sz L xs s.heap h H locs → (h.2.1 = false → H.size = sz + h.1) → LV b sz (m_L k) lv ls → MetM l D K b sz L xs d x9 ar h q → (c0 + q.2.2.1 ≤ R.cells ∧ s0 + q.2.2.2 ≤ R.slots) →
              ∃ a, vx_Run p l e R s m args below meth c H locs c0 s0 q.2.2.1 q.2.2.2 (F0 m pc ls (st.map (cv b sz))) (st'.map (cv b sz)) (QcM D K b sz L xs q a) (XcM D K b sz L xs q) (fun q => sz ≤ q)), MW p l e R s m args below meth c D K b sz L xs Q k pc lv st h c0 s0 := by
            intro hlt e1 e2 e3 e4 e5 e6 e7 hrun
            subst e1 e2 e3 e4 e5 e6 e7
            intro H locs ls hR hZ hL
            refine W_sz fun hle => ?_
            have hse : h'.2.1 = false → H.size = sz + h'.1 := fun hf => by have := hR.lo hF.2.2.2.2; have := hZ hf; omega
            have hM := hsnd x9 ar h' q hlt hq
            have hgr : c' + q.2.2.1 ≤ r.2.2.1 ∧ s' + q.2.2.2 ≤ r.2.2.2 := by
              obtain ⟨qr, qh, qc, qs⟩ := q
              cases qr with
              | inl v =>
                have h1 := runR_gm (Ev_gm d) f _ r hr
                exact ⟨h1.1, h1.2.1⟩
              | inr E =>
                simp only at hr
                rcases hnd_nil (k := k) with hh | ⟨q0, hh0, hh⟩
                · rw [hh] at hr
                  simp only at hr
                  rw [hr]
                  exact ⟨Nat.le_refl _, Nat.le_refl _⟩
                · rw [hh] at hr
                  simp only at hr
                  split at hr
                  · exact hr.elim
                  · split at hr
                    · have h1 := runR_gm (Ev_gm d) f _ r hr
                      exact ⟨h1.1, h1.2.1⟩
                    · have h1 := runR_gm (Ev_gm d) f _ r hr
                      exact ⟨h1.1, h1.2.1⟩
                    · exact hr.elim
            obtain ⟨a, hrun⟩ := hrun H locs ls hR hse hL hM ⟨Nat.le_trans hgr.1 hRc.1, Nat.le_trans hgr.2 hRc.2⟩
            refine after_call (x := 0) (pc1 := 0) (q := q) hrun hR hZ hL hgq (fun v hv => ?_) (fun E hE9 h3 H1 locs1 q9 ce hR1 hZ1 hce hcv hcl => ?_)
            · obtain ⟨qr, qh, qc, qs⟩ := q
              simp only at hv
              subst hv
              exact ih _ _ _ _ _ _ _ hr ok.tail
            · obtain ⟨qr, qh, qc, qs⟩ := q
              simp only at hE9
              subst hE9
              simp only at hr
              rcases hnd_nil (k := k) with hh | ⟨q0, hh0, hh⟩
              · rw [hh] at hr
                simp only at hr
                subst hr
                obtain ⟨q1, -, -, q4⟩ := hQ E rfl
                subst q1
                exact vx_out (fun x hx => by rw [htab q4, hh] at hx; cases hx) hlocks hce hcv hcl (fun t ht _ => ⟨⟨E, rfl, h3, rfl, (Wh.of hR1 (by rw [ht]; exact Nat.le_refl _) (fun q _ => by rw [ht])).1⟩, (Wh.of hR1 (by rw [ht]; exact Nat.le_refl _) (fun q _ => by rw [ht])).2⟩) hR1.2.1.2.2 (Nat.le_refl _) (Nat.le_refl _)
              · rw [hh] at hr
                simp only at hr
                have hcn : m_cn k = 11 := hh_cn k hk (by rw [hh]; exact fun h => by cases h)
                split at hr
                · exact hr.elim
                · next t ht =>
                  obtain ⟨pre, x0, suf, s1, s2, s3, s4, s5⟩ := hnd_spec h3 _ ht
                  have hcat : ∀ kk, W p l e R s m args below meth c H1 locs1 (c' + qc) (s' + qs) Q (F0 m t ls [.ref q9]) → vx_W p l e R s m args below meth c H1 locs1 (c' + qc) (s' + qs) Q (F0 m pc ls kk) q9 := by
                    intro kk hkk
                    obtain ⟨c1, c2, c3⟩ := ctT_ok _ s4
                    have hRL : cnm (m_cn k) = RL := by rw [hcn]; rfl
                    refine vx_catch (own := RL) (name := exN E) (E := exN E) (by rw [← hRL]; exact hown) (tableOf pre) ⟨x0.1, x0.2.1, x0.2.2.1, x0.2.2.2⟩ (tableOf suf) (by rw [htab (fun e => by subst e; exact absurd hh (fun h => by cases h)), hh, s1]; simp [tableOf]) ?_ ?_ c3 (hts _ c1) (va_Nw.use rfl (hV.2.1 _ ?_)) hce hcv hcl (by show W _ _ _ _ _ _ _ _ _ _ _ _ _ _ _ (F0 m x0.2.2.1 ls [.ref q9]); rw [s5]; exact hkk)
                    · intro z hz
                      obtain ⟨z0, hz0, rfl⟩ := List.mem_map.mp hz
                      rcases s2 z0 hz0 with h9 | ⟨E', h9, h10⟩
                      · refine Or.inl ?_
                        show (decide (z0.1 ≤ pc) && decide (pc < z0.2.1)) = false
                        have h9 : ¬ (z0.1 ≤ pc ∧ pc < z0.2.1) := h9
                        simp only [Bool.and_eq_false_iff, decide_eq_false_iff_not]
                        omega
                      · obtain ⟨d1, d2, d3⟩ := ctT_ok _ h9
                        exact Or.inr ⟨d3, exN E', hts _ d1, hV.2.2.2.2.1 E E' h3 (ctT_lt _ h9) (fun h => h10 h.symm)⟩
                    · show (decide (x0.1 ≤ pc) && decide (pc < x0.2.1)) = true
                      have h9 : x0.1 ≤ pc ∧ pc < x0.2.1 := s3
                      simp only [Bool.and_eq_true, decide_eq_true_eq]
                      exact h9
                    · rcases exN_lt h3 with rfl | rfl | rfl <;> simp [exW]
                  split at hr
                  · next n9 a9 is9 hl9 =>
                    have okh := hbl _ (lookup_mem _ _ _ hl9)
                    have okh : okS k t ((.astore n9, 2, a9) :: is9) := okh
                    refine hcat _ ?_
                    have hn9 : n9 < m_L k := by
                      by_cases hq9 : n9 < m_L k
                      · exact hq9
                      · exfalso
                        have := catch_lt k hk _ (lookup_mem _ _ _ hl9) n9 2 a9 is9 (Or.inl rfl)
                        exact hq9 this
                    exact lv_astore hx hb okh.dec hL.has hn9 rfl (fun ls' h9 => ih _ _ _ _ _ _ _ hr okh.tail H1 locs1 ls' hR1 hZ1 (hL.store none (fun v hv => by cases hv) h9))
                  · next n9 a9 is9 hl9 =>
                    have okh := hbl _ (lookup_mem _ _ _ hl9)
                    have okh : okS k t ((.astore_n n9, 1, a9) :: is9) := okh
                    refine hcat _ ?_
                    have hn9 : (n9 : Nat) < m_L k := catch_lt k hk _ (lookup_mem _ _ _ hl9) n9 1 a9 is9 (Or.inr ⟨n9, rfl, rfl⟩)
                    exact lv_astore_n hx hb okh.dec rfl hL.has hn9 rfl (fun ls' h9 => ih _ _ _ _ _ _ _ hr okh.tail H1 locs1 ls' hR1 hZ1 (hL.store none (fun v hv => by cases hv) h9))
                  · exact hr.elim
          rcases hkind with ⟨ix, rfl⟩ | ⟨ix, rfl⟩ | ⟨ix, rfl⟩
          · simp only [stepI] at hs
            obtain ⟨i1, i2, i3⟩ := s_inv_eq hs
            cases i3
            simp only [okE, Bool.and_eq_true, beq_iff_eq, List.contains_eq_mem, decide_eq_true_eq] at hE
            obtain ⟨⟨⟨⟨rfl, h1⟩, h2⟩, h3⟩, h4⟩ := hE
            refine key h4 rfl rfl rfl rfl rfl rfl rfl (fun H locs ls hR hse hL hM hRc' => ⟨_, run_S hx hb hml hts hown hV hF hRf hRl hRc' h1 h2 h3 h4 i1 i2 d0 hM ?_ hR hse hL⟩)
            intro hne
            cases d with
            | zero => exact hq.elim
            | succ d => exact hq.1.2.2.1 (Or.inr hne)
          · have h8 := hs
            simp only [stepI] at h8
            unfold s_invO at h8
            split at h8
            · next a hy =>
              split at h8
              · next ci fs ha =>
                split at h8
                · next hci =>
                  subst hci
                  obtain ⟨i1, i2, i3⟩ := s_inv_eq h8
                  cases i3
                  simp only [okE, Bool.and_eq_true, beq_iff_eq, List.contains_eq_mem, decide_eq_true_eq] at hE
                  obtain ⟨⟨⟨⟨⟨rfl, h1⟩, h2⟩, h3⟩, h4⟩, h5⟩ := hE
                  exact key h5 rfl rfl rfl rfl rfl rfl rfl (fun H locs ls hR hse hL hM hRc' => ⟨_, run_V hx hb hml hts hown hV hF hRf hRl hRc' h1 h2 h3 h4 h5 i2 d0 hy ha hM hR hse hL⟩)
                · cases h8
              · cases h8
            · cases h8
          · have h8 := hs
            simp only [stepI] at h8
            unfold s_invI at h8
            split at h8
            · next a hy =>
              split at h8
              · split at h8
                · split at h8
                  · simp only [nx, Option.some.injEq] at h8
                    cases h8
                  · cases h8
                · cases h8
              · next hne =>
                obtain ⟨i1, i2, i3⟩ := s_inv_eq h8
                cases i3
                simp only [okE, Bool.and_eq_true, Bool.or_eq_true, beq_iff_eq, List.contains_eq_mem, decide_eq_true_eq] at hE
                obtain ⟨rfl, hE⟩ := hE
                rcases hE with ((⟨h1, -⟩ | h1) | ⟨⟨⟨h1, h2⟩, h3⟩, h4⟩)
                · exact absurd h1 hne
                · exfalso
                  subst h1
                  cases d with
                  | zero => exact hq
                  | succ d =>
                    have h88 := hq.1.1
                    have e8 : m_L 7777 = 0 := by decide +kernel
                    rw [e8] at h88
                    have : ((st.take (y + 1)).reverse).length = y + 1 := by simp; omega
                    omega
                · refine key h4 rfl rfl rfl rfl rfl rfl rfl (fun H locs ls hR hse hL hM hRc' => ⟨_, run_I hx hb hml hts hown hV hF hRf hRl hRc' h1 h2 h3 h4 i2 d0 hy hM ?_ hR hse hL⟩)
                  cases d with
                  | zero => exact hq.elim
                  | succ d => exact hq.1.2.2.1 (Or.inl h2)
            · cases h8
end RV
end
section
/-! What the model says of a method holds of it in the machine; and of the law. -/
theorem ret3 : ∀ k, k < 112 → rkf (m_ret k) = 3 → m_ret k = some (.object "PoleShop$Plant") := by
  have h : ∀ k ∈ List.range 112, rkf (m_ret k) = 3 → m_ret k = some (.object "PoleShop$Plant") := by decide +kernel
  exact fun k hk => h k (List.mem_range.mpr hk)
theorem rkf0 {r : Option FieldType} (h : rkf r = 0) : r = none := by
  unfold rkf at h
  split at h
  · rfl
  · cases h
  · cases h
  · cases h
theorem rkf1 {r : Option FieldType} (h : rkf r = 1) : r = some .int := by
  unfold rkf at h
  split at h
  · cases h
  · rfl
  · cases h
  · cases h
theorem rkf2 {r : Option FieldType} (h : rkf r = 2) : r = some .boolean := by
  unfold rkf at h
  split at h
  · cases h
  · cases h
  · rfl
  · cases h
theorem lg_sl_len : ∀ (vs : List Value), okar vs → (lg_sl vs).length = vs.length
  | [], _ => rfl
  | v :: vs, h => by
    have h1 := h v List.mem_cons_self
    have h2 := lg_sl_len vs (fun w hw => h w (List.mem_cons_of_mem _ hw))
    have e : ¬ v.category = 2 := by omega
    show ((if v.category = 2 then [Slot.val v, Slot.second] else [Slot.val v]) ++ lg_sl vs).length = _
    rw [if_neg e]
    simp [h2]
theorem lv_args_in : ∀ (vs : List Value) (i j : Nat) (v : Value), okar vs → vs[j]? = some v → (i + j, v) ∈ lv_args i vs
  | [], _, _, _, _, h => by simp at h
  | w :: vs, i, 0, v, h, hj => by
    have e : w = v := by simpa using hj
    subst e
    exact List.mem_cons_self
  | w :: vs, i, j + 1, v, h, hj => by
    have h1 := h w List.mem_cons_self
    have e : ¬ w.category = 2 := by omega
    have h2 := lv_args_in vs (i + 1) j v (fun w hw => h w (List.mem_cons_of_mem _ hw)) (by simpa using hj)
    rw [show i + (j + 1) = i + 1 + j by omega]
    unfold lv_args
    rw [if_neg e]
    exact List.mem_cons_of_mem _ h2
theorem LV.entry {b sz n : Nat} {ar : List Value} (h : okar ar) (hn : ar.length ≤ n) : LV b sz n (lv0 n ar) ((lg_sl (ar.map (cv b sz)) ++ List.replicate (n - (lg_sl (ar.map (cv b sz))).length) Slot.unset).toArray) := by
  have h' : okar (ar.map (cv b sz)) := fun v hv => by
    obtain ⟨w, hw, rfl⟩ := List.mem_map.mp hv
    rw [cv_cat]
    exact h w hw
  have hl := lg_sl_len _ h'
  rw [List.length_map] at hl
  have hh := lv_entry (ar.map (cv b sz)) (n := n) (by omega)
  refine ⟨by simp [lv0]; omega, ⟨hh.1, hh.2.1⟩, fun j v hj => ?_⟩
  unfold lv0 at hj
  by_cases q : j < ar.length
  · rw [List.getElem?_append_left (by rw [List.length_map]; exact q), List.getElem?_map] at hj
    have hj2 : ar[j]? = some v := by
      cases hq : ar[j]? with
      | none => rw [hq] at hj; cases hj
      | some w => rw [hq] at hj; cases hj; rfl
    refine ⟨?_, h v (List.mem_of_getElem? hj2)⟩
    have := hh.2.2 _ (lv_args_in (ar.map (cv b sz)) 0 j (cv b sz v) h' (by rw [List.getElem?_map, hj2]; rfl))
    rw [Nat.zero_add] at this
    exact this
  · rw [List.getElem?_append_right (by rw [List.length_map]; omega)] at hj
    have := List.eq_of_mem_replicate (List.mem_of_getElem? hj)
    cases this
section SX
variable {p : Program} {l : Launch} {e : Env} {R : Room} {s : State} {m : MethodId} {args : Array Value} {below : List Frame} {meth : Method} {c : Code} {D : va_G} {K : KK} {b sz L : Nat} {xs : Nat → Int32} {k : Nat}
/-- the end of a method -/
theorem end_M {r : Res} (hk : k < 112) (hx : p.tables.exec = Jvm.exec) (hb : c.code = m_b k) (hr : meth.sig.returnType = m_ret k) (hlocks : meth.locks = false) : ∀ v, r.1 = .inl v → ∀ pc H locs ls, RH D K b sz L xs s.heap r.2.1 H locs → rok k v pc → W p l e R s m args below meth c H locs r.2.2.1 r.2.2.2 (vx_MQ below (QcM D K b sz L xs r) (XcM D K b sz L xs r) args s r.2.2.1 r.2.2.2 (fun q => sz ≤ q)) (F0 m pc ls (v.toList.map (cv b sz))) := by
  intro v hv pc H locs ls hR hok
  have hW : ∀ t : State, t.heap = H → Wh D K b sz L xs r.2.1 t ∧ va_F (fun q => sz ≤ q) s t := fun t ht => Wh.of hR (by rw [ht]; exact Nat.le_refl _) (fun q _ => by rw [ht])
  refine vx_ret ?_
  cases v with
  | none =>
    obtain ⟨h1, h2⟩ := hok
    exact W.vret hx hb (hr.trans (rkf0 h2)) (fun t ht _ => ⟨⟨none, hv, rfl, (hW t ht).1⟩, (hW t ht).2⟩) hR.2.1.2.2 h1 hlocks
  | some v =>
    cases v with
    | int x =>
      obtain ⟨h1, h2⟩ := hok
      rcases h2 with h2 | ⟨h2, h3⟩
      · exact W.zret (ty := .int) hx hb (hr.trans (rkf1 h2)) rfl (fun t ht _ => ⟨⟨some (.int x), hv, rfl, (hW t ht).1⟩, (hW t ht).2⟩) hR.2.1.2.2 h1 hlocks
      · refine W.zret (ty := .boolean) hx hb (hr.trans (rkf2 h2)) ?_ (fun t ht _ => ⟨⟨some (.int x), hv, rfl, (hW t ht).1⟩, (hW t ht).2⟩) hR.2.1.2.2 h1 hlocks
        rcases h3 with rfl | rfl <;> rfl
    | ref a =>
      obtain ⟨h1, h2⟩ := hok
      exact W.aret hx hb (hr.trans (ret3 k hk h2)) (Or.inl ⟨_, rfl⟩) (Or.inr ⟨_, rfl⟩) (fun t ht _ => ⟨⟨some (.ref a), hv, rfl, (hW t ht).1⟩, (hW t ht).2⟩) hR.2.1.2.2 h1 hlocks
    | _ => exact hok.elim
end SX
theorem sound {l : Launch} (hl : l.stackTraces = false) (D : va_G) (K : KK) (b sz L : Nat) (xs : Nat → Int32) : ∀ d k ar h r, k < 111 → Ev d k ar h r → MetM l D K b sz L xs d k ar h r
  | 0, _, _, _, _, _, hE => hE.elim
  | d + 1, k, ar, h, r, hk, ⟨⟨h1, h2, h3, h4⟩, f, hrun⟩ => by
    obtain ⟨⟨p1, p2, p3, p4⟩, ⟨p5, p6⟩, p7, p8, p9, ⟨p10, p11⟩, p12⟩ := mp_all k hk
    have hih := sound hl D K b sz L xs d
    by_cases hh : m_hh k = []
    · refine vx_ofW (cc := m_b k) (maxL := m_L k) (ret := m_ret k) p1 (by unfold wsM; rw [m_cw_nil hh]) ?_
      intro p e s m args below meth c s₁ B hml hexc hv
      obtain ⟨rfl, ⟨w1, w2, w3, w4, w5⟩, hz⟩ := hv
      have hts := fun w hw => atoms_spec (ws := wsM k) B.pre w (List.mem_cons_of_mem _ hw)
      have hC : Cx l p s m (ar.map (cv b sz)).toArray meth c D K b sz L xs k := ⟨B.exec, B.bytes, hml, hts, by rw [← p2]; exact findClass_of_methodNamed B.named, w4, w5, B.notSynchronized, hl, fun _ => by
        rw [hh]
        cases hq : c.exceptionTable.toList with
        | nil => rfl
        | cons a t => exact (hexc a (by rw [hq]; exact List.mem_cons_self)).elim, fun h2 => (name_of_methodNamed B.named B.method).1.trans (p9 h2).2.1⟩
      rw [lg_entry_eq]
      exact run_sound (R := rmD (d + 1) r.2.2.1 r.2.2.2) hC (Nat.lt_succ_of_lt hk) p12 (fun x ar h q hx hE => hih x ar h q hx hE) (Nat.le_refl _) (by show 44 * d + 38 ≤ 44 * (d + 1); omega) ⟨Nat.le_refl _, Nat.le_refl _⟩
        (fun E hE => ⟨rfl, h4 E hE, by have := h4 E hE; show 82 ≤ 44 * (d + 1); omega, by omega⟩) (end_M (Nat.lt_succ_of_lt hk) B.exec B.bytes B.returns B.notSynchronized) f 0 [] _ [] h 0 0 hrun okS.nil s.heap [] _ ⟨w1, va_S.rf, w2, w3⟩ hz (LV.entry h2 h1)
    · refine vx_ofWH (cc := m_b k) (maxL := m_L k) (ret := m_ret k) (hh := m_hh k) p1 (by unfold wsM; rw [m_cw_cons hh]) ?_
      intro p e s m args below meth c s₁ B hml hv
      obtain ⟨rfl, ⟨w1, w2, w3, w4, w5⟩, hz⟩ := hv
      have hts0 := atoms_spec (ws := wsM k) B.pre
      have hts := fun w hw => hts0 w (List.mem_cons_of_mem _ hw)
      have htab := vx_table (x := m_y k) B (by have := hts0 _ List.mem_cons_self; rw [m_cw_cons hh] at this; exact this)
      have hC : Cx l p s m (ar.map (cv b sz)).toArray meth c D K b sz L xs k := ⟨B.exec, B.bytes, hml, hts, by rw [← p2]; exact findClass_of_methodNamed B.named, w4, w5, B.notSynchronized, hl, fun _ => htab, fun h2 => (name_of_methodNamed B.named B.method).1.trans (p9 h2).2.1⟩
      rw [lg_entry_eq]
      exact run_sound (R := rmD (d + 1) r.2.2.1 r.2.2.2) hC (Nat.lt_succ_of_lt hk) p12 (fun x ar h q hx hE => hih x ar h q hx hE) (Nat.le_refl _) (by show 44 * d + 38 ≤ 44 * (d + 1); omega) ⟨Nat.le_refl _, Nat.le_refl _⟩
        (fun E hE => ⟨rfl, h4 E hE, by have := h4 E hE; show 82 ≤ 44 * (d + 1); omega, by omega⟩) (end_M (Nat.lt_succ_of_lt hk) B.exec B.bytes B.returns B.notSynchronized) f 0 [] _ [] h 0 0 hrun okS.nil s.heap [] _ ⟨w1, va_S.rf, w2, w3⟩ hz (LV.entry h2 h1)
end
section
/-! THE LAW: from its entry the model says of it what is so. -/
def R_law : String := "PoleShopLaw"
def lw_P (b : Addr) (xs : List Int32) (args : Array Value) (s : State) : Prop := args = #[.ref b] ∧ s.IntsAt b xs ∧ xs.length ≤ 260 ∧ (Jvm.Cond.and given_1 narrow_1).before args s = true
def lw_Q (_ : Array Value) (s : State) (o : Outcome) (t : State) : Prop := o = .returned (some (.int 1)) ∧ Framed s o t [] 600086 7301442
def lw_Z (below : List Frame) (a : Array Value) (s : State) : State → Prop := fun t => ∃ o, t.status = .running ∧ Ended t below o ∧ lw_Q a s o t
/-- the law's own end, with 1 on the stack, nothing written that was there before, its room as the claim has it -/
theorem lw_ret {p : Program} {l : Launch} {e : Env} {s : State} {m : MethodId} {below : List Frame} {meth : Method} {c : Code} {b : Nat} (hx : p.tables.exec = Jvm.exec) (hb : c.code = code) (hr : meth.sig.returnType = ret) (hlocks : meth.locks = false) {pc : Nat} {H : Heap} {ls : Array Slot} (hdg : decode code pc = .ok (.ireturn, 1)) : W p l e room_1 s m #[Value.ref b] below meth c H [] 600086 7301442 (lw_Z below #[Value.ref b] s) (F0 m pc ls [.int 1]) := by
  intro T hT X
  obtain ⟨fs, hret, hrun, hended, hW, hframe⟩ := X.leave (v := some (.int 1)) (hlocks := hlocks) (fun h => by rw [hr] at h; cases h)
  have hmeth' : T.vm.method? m = some meth := X.method'
  refine ⟨T.setFrames fs, ?_, .returned (some (.int 1)), hrun, hended, rfl, ⟨_, rfl⟩, hW, hframe⟩
  jvm_step X.here [X.here.top, hx, hb, hdg, hmeth', hr, ret, narrow_b1]
  (try refine ⟨rfl, ?_⟩); (try refine ⟨rfl, ?_⟩)
  first | (intro acts; rw [hret _ acts rfl rfl rfl]) | rw [hret _ _ rfl rfl rfl]
  exact Steps.refl _
/-- what holds at the law's entry -/
def lw_At (p : Program) (s : State) (m : MethodId) (meth : Method) (c : Code) (b L : Nat) (xs : Nat → Int32) : Prop :=
  p.tables.exec = Jvm.exec ∧ c.code = code ∧ meth.sig.returnType = ret ∧ c.maxLocals = 10 ∧ s.vm.findClass R_law = some m.cls ∧ (∀ w ∈ lw_tbl, w.before #[Value.ref b] s = true) ∧ va_X b L xs s s.heap ∧ b < s.heap.size ∧ meth.locks = false ∧ (Jvm.Cond.and given_1 narrow_1).before #[Value.ref b] s = true
theorem law_b : m_b 111 = code := rfl
theorem law_ret : m_ret 111 = ret := rfl
/-- the heap of the model with the script alone -/
def mh0 (L : Nat) (xs : Nat → Int32) : MH := (0, false, fun j => if j = 0 then some (mI L xs) else none)
theorem strT_exactly : ∀ q ∈ strT, Cond.exactly (.string "PoleShop" q.1) "java/lang/String" ∈ flatC (Jvm.Cond.and given_1 narrow_1) := by decide +kernel
theorem strT_ref : ∀ q ∈ strT, Cond.stringRef "PoleShop" q.1 q.2 ∈ lw_tbl := by decide +kernel
theorem nc_in : ∀ a ∈ [0, 1, 2], ∀ b ∈ [0, 1, 2], a ≠ b → Cond.not (.castable (exN a) (exN b)) ∈ flatC (Jvm.Cond.and given_1 narrow_1) := by decide +kernel
theorem isU_in : Cond.isRef (.static Bundle.tN "UNASSIGNED_STACK" Bundle.steD) ∈ flatC (Jvm.Cond.and given_1 narrow_1) := by decide +kernel
theorem isN_in : Cond.isRef (.static Bundle.tN "SUPPRESSED_SENTINEL" Bundle.listD) ∈ flatC (Jvm.Cond.and given_1 narrow_1) := by decide +kernel
theorem lyU_in : Cond.laysStatic Bundle.tN "UNASSIGNED_STACK" Bundle.steD ∈ lw_tbl := by decide +kernel
theorem lyN_in : Cond.laysStatic Bundle.tN "SUPPRESSED_SENTINEL" Bundle.listD ∈ lw_tbl := by decide +kernel
theorem tN_in : Cond.initialized Bundle.tN ∈ lw_tbl := by decide +kernel
theorem asg_self (vm : Vm) (c : ClassId) : vm.assignable c c = true := by
  show Vm.assignableAux vm (255 + 1) c c = true
  rw [Vm.assignableAux, beq_self_eq_true, Bool.true_or]
theorem law_fix {s : State} {args : Array Value} (hts : ∀ w ∈ lw_tbl, w.before args s = true) (hg : (Jvm.Cond.and given_1 narrow_1).before args s = true) : ∃ D K, FxV D K s := by
  have hgf := flat_of_before _ hg
  have htg : ∀ w ∈ lwg, w.before args s = true := fun w hw => hts w (List.mem_filter.mp hw).1
  have h1 : ∀ ci : Nat, ∃ cC : ClassId, ∃ iS : Nat → Nat, ∀ q : vw_C, vwCl[ci]? = some q → u_Kn s q.1 q.2.1 q.2.2 cC iS := by
    intro ci
    by_cases hc : ci < 8
    · obtain ⟨C, T, N, ty, g1, g2, g3, g4, g5, g6, g7, g8⟩ := cls_ok ci hc
      obtain ⟨cC, iS, h⟩ := u_known htg g4 (htg _ g6)
      exact ⟨cC, iS, fun q hq => by cases Option.some.inj (g1.symm.trans hq); exact h⟩
    · exact ⟨0, fun _ => 0, fun q hq => absurd (vwlt hq) hc⟩
  obtain ⟨dC, h2⟩ := Classical.axiomOfChoice h1
  obtain ⟨dI, h3⟩ := Classical.axiomOfChoice h2
  obtain ⟨cI, kI, coI, i1, i2, i3⟩ := Cond.arrayClass_spec (htg _ w_ci)
  obtain ⟨coA, cA, kA, a1, a2, a3, a4⟩ := Cond.arrayOver_specA (hts _ w_oa)
  obtain ⟨coP, cP, kP, p1, -, p3, p4, p5⟩ := Cond.arrayOver_spec (hts _ w_op)
  have hco : coA = cI := Option.some.inj (a1.symm.trans i1)
  subst hco
  refine ⟨(dC, dI), (coA, coA, cA, cP), ⟨fun c q hq => h3 c q hq, fun k q hq => ?_⟩, fun w hw => va_Nw.of (exW_on w hw) (hts w (exW_tbl w hw)), fun w hw => va_Nw.of (nestW_on w hw) (hts w (nestW_tbl w hw)), fun q hq => ?_, fun E E' h h' hne => ?_, ⟨kA, kI, a2, a3, i2, asg_self _ _⟩, va_AO.of (hts _ w_op), hts _ w_oa⟩
  · match k, hq with
    | 0, hq => cases hq; exact ⟨fun N z => ⟨(fun q hq => by cases hq), kI, i2, coI, i3⟩, i1⟩
    | 1, hq => cases hq; exact ⟨fun N z => ⟨(fun q hq => by cases hq), kI, i2, coI, i3⟩, i1⟩
    | 2, hq => cases hq; exact ⟨fun N z => ⟨(fun q hq => by cases hq), kA, a2, coA, a3⟩, a4⟩
    | 3, hq => cases hq; exact ⟨fun N z => ⟨(fun q hq => by cases hq), kP, p3, coP, p4⟩, kP, coP, p3, p4, p1, p5⟩
    | k + 4, hq => simp [tysK] at hq
  · obtain ⟨a, -, -, -, h9, -⟩ := Cond.exactly_spec (hgf _ (strT_exactly q hq))
    exact ⟨a, vk_R.of (A := args) (hts _ (strT_ref q hq)) h9⟩
  · have m : ∀ {E : Nat}, E < 3 → E ∈ [0, 1, 2] := fun h => by
      rcases exN_lt h with rfl | rfl | rfl <;> simp
    exact va_Nc.of (hgf _ (nc_in E (m h) E' (m h') hne))
theorem whole_of_run (hrun : ∀ (L : Nat) (xs : Nat → Int32), L ≤ 260 → ∃ h9 c9 s9, c9 ≤ 600086 ∧ s9 ≤ 7301442 ∧ Rn (Ev 11) 111 (0, [], lv0 10 [.ref 0], [], mh0 L xs, 0, 0) (.inl (some (.int 1)), h9, c9, s9))
    {p : Program} {e : Env} {s : State} {m : MethodId} {below : List Frame} {meth : Method} {c : Code} (l : Launch) (hflags : l.flags = flags0) {b L : Nat} {xs : Nat → Int32} (hL : L ≤ 260) (C0 : lw_At p s m meth c b L xs) : W p l e room_1 s m #[Value.ref b] below meth c s.heap [] 0 0 (lw_Z below #[Value.ref b] s) (entryFrame m ([Value.ref b] : List Value).toArray 10) := by
  obtain ⟨hx, hb, hr, hml, hown, hts, hX, hbl, hlocks, hgv⟩ := C0
  obtain ⟨h9, c9, s9, hc9, hs9, f, hf⟩ := hrun L xs hL
  obtain ⟨D, K, hV⟩ := law_fix hts hgv
  have hgf := flat_of_before _ hgv
  have hA : ∀ a : Nat, a < s.heap.size → ¬ (fun q => s.heap.size ≤ q) a := fun a ha => Nat.not_le.mpr ha
  have hF : FxH b s.heap.size L xs s := ⟨vx_Zqof (hts _ lyU_in) (hts _ tN_in) (hgf _ isU_in) hA, vx_Zqof (hts _ lyN_in) (hts _ tN_in) (hgf _ isN_in) hA, hX, hbl, Nat.le_refl _⟩
  have hl : l.stackTraces = false := by
    unfold Launch.stackTraces
    rw [hflags]
    decide +kernel
  have hC : Cx l p s m #[Value.ref b] meth c D K b s.heap.size L xs 111 := ⟨hx, hb.trans law_b.symm, hml, fun w hw => hts w (List.mem_filter.mp hw).1, hown, hV, hF, hlocks, hl, fun h => absurd rfl h, fun h => absurd h (by decide)⟩
  have hM := run_sound (R := room_1) (e := e) (below := below) (Q := lw_Z below #[Value.ref b] s) (r := (.inl (some (.int 1)), h9, c9, s9)) (d := 11) hC (by decide) bl_law (fun x ar h q hx hE => sound hl D K b s.heap.size L xs 11 x ar h q hx hE) (by decide) (by decide) ⟨hc9, hs9⟩ (fun E hE => by cases hE)
    (fun v hv pc H locs ls hR hok => by
      cases hv
      refine va_forget (fun q hq => hR.2.1.2.2 q hq) ?_
      refine W.widen hc9 hs9 ?_
      exact lw_ret hx hb hr hlocks (by rw [← law_b]; exact hok.1)) f 0 [] (lv0 10 [.ref 0]) [] (mh0 L xs) 0 0 hf okS.nil
  have hLV := LV.entry (b := b) (sz := s.heap.size) (n := 10) (ar := [.ref 0]) (fun v hv => by cases List.mem_singleton.mp hv; rfl) (by decide)
  rw [lg_entry_eq]
  refine hM s.heap [] _ ⟨fun k q h => ?_, va_S.rf, fun a x hx => ?_, rfl, Nat.le_refl _⟩ (fun _ => rfl) hLV
  · simp [mkw, mh0] at h
  · by_cases e0 : a = 0
    · rw [e0]
      exact Nat.zero_le _
    · simp [mh0, e0] at hx
end
section
/-! where a jump goes on: the block at a place -/
theorem lk_X0_init_0 : (m_bl k_X0_init).lookup 0 = some s_X0_init_0 := rfl
theorem lk_X0_findNumbers_0 : (m_bl k_X0_findNumbers).lookup 0 = some s_X0_findNumbers_0 := rfl
theorem lk_X0_findNumbers_30 : (m_bl k_X0_findNumbers).lookup 30 = some s_X0_findNumbers_30 := rfl
theorem lk_X0_findNumbers_89 : (m_bl k_X0_findNumbers).lookup 89 = some s_X0_findNumbers_89 := rfl
theorem lk_X0_byState_0 : (m_bl k_X0_byState).lookup 0 = some s_X0_byState_0 := rfl
theorem lk_X0_byState_19 : (m_bl k_X0_byState).lookup 19 = some s_X0_byState_19 := rfl
theorem lk_X0_byState_53 : (m_bl k_X0_byState).lookup 53 = some s_X0_byState_53 := rfl
theorem lk_X0_byState_95 : (m_bl k_X0_byState).lookup 95 = some s_X0_byState_95 := rfl
theorem lk_X0_byState_101 : (m_bl k_X0_byState).lookup 101 = some s_X0_byState_101 := rfl
theorem lk_X0_byNumbers_0 : (m_bl k_X0_byNumbers).lookup 0 = some s_X0_byNumbers_0 := rfl
theorem lk_X0_byNumbers_12 : (m_bl k_X0_byNumbers).lookup 12 = some s_X0_byNumbers_12 := rfl
theorem lk_X0_byNumbers_49 : (m_bl k_X0_byNumbers).lookup 49 = some s_X0_byNumbers_49 := rfl
theorem lk_X0_inputAt_0 : (m_bl k_X0_inputAt).lookup 0 = some s_X0_inputAt_0 := rfl
theorem lk_X0_inputAt_17 : (m_bl k_X0_inputAt).lookup 17 = some s_X0_inputAt_17 := rfl
theorem lk_X0_inputAt_18 : (m_bl k_X0_inputAt).lookup 18 = some s_X0_inputAt_18 := rfl
theorem lk_X0_rankOfNumbers_0 : (m_bl k_X0_rankOfNumbers).lookup 0 = some s_X0_rankOfNumbers_0 := rfl
theorem lk_X0_rankOfNumbers_17 : (m_bl k_X0_rankOfNumbers).lookup 17 = some s_X0_rankOfNumbers_17 := rfl
theorem lk_X0_rankOfNumbers_25 : (m_bl k_X0_rankOfNumbers).lookup 25 = some s_X0_rankOfNumbers_25 := rfl
theorem lk_X0_rankOfNumbers_55 : (m_bl k_X0_rankOfNumbers).lookup 55 = some s_X0_rankOfNumbers_55 := rfl
theorem lk_X0_rankOfNumbers_75 : (m_bl k_X0_rankOfNumbers).lookup 75 = some s_X0_rankOfNumbers_75 := rfl
theorem lk_X1_init_0 : (m_bl k_X1_init).lookup 0 = some s_X1_init_0 := rfl
theorem lk_X1_put_0 : (m_bl k_X1_put).lookup 0 = some s_X1_put_0 := rfl
theorem lk_X1_solve_0 : (m_bl k_X1_solve).lookup 0 = some s_X1_solve_0 := rfl
theorem lk_X1_solve_4 : (m_bl k_X1_solve).lookup 4 = some s_X1_solve_4 := rfl
theorem lk_X1_solve_55 : (m_bl k_X1_solve).lookup 55 = some s_X1_solve_55 := rfl
theorem lk_X1_solve_61 : (m_bl k_X1_solve).lookup 61 = some s_X1_solve_61 := rfl
theorem lk_X1_readSolution_0 : (m_bl k_X1_readSolution).lookup 0 = some s_X1_readSolution_0 := rfl
theorem lk_X1_readSolution_2 : (m_bl k_X1_readSolution).lookup 2 = some s_X1_readSolution_2 := rfl
theorem lk_X1_readSolution_24 : (m_bl k_X1_readSolution).lookup 24 = some s_X1_readSolution_24 := rfl
theorem lk_X1_firstWith_0 : (m_bl k_X1_firstWith).lookup 0 = some s_X1_firstWith_0 := rfl
theorem lk_X1_firstWith_3 : (m_bl k_X1_firstWith).lookup 3 = some s_X1_firstWith_3 := rfl
theorem lk_X1_firstWith_27 : (m_bl k_X1_firstWith).lookup 27 = some s_X1_firstWith_27 := rfl
theorem lk_X1_swap_0 : (m_bl k_X1_swap).lookup 0 = some s_X1_swap_0 := rfl
theorem lk_X1_divide_0 : (m_bl k_X1_divide).lookup 0 = some s_X1_divide_0 := rfl
theorem lk_X1_divide_10 : (m_bl k_X1_divide).lookup 10 = some s_X1_divide_10 := rfl
theorem lk_X1_divide_45 : (m_bl k_X1_divide).lookup 45 = some s_X1_divide_45 := rfl
theorem lk_X1_takeAway_0 : (m_bl k_X1_takeAway).lookup 0 = some s_X1_takeAway_0 := rfl
theorem lk_X1_takeAway_3 : (m_bl k_X1_takeAway).lookup 3 = some s_X1_takeAway_3 := rfl
theorem lk_X1_takeAway_34 : (m_bl k_X1_takeAway).lookup 34 = some s_X1_takeAway_34 := rfl
theorem lk_X1_takeAway_83 : (m_bl k_X1_takeAway).lookup 83 = some s_X1_takeAway_83 := rfl
theorem lk_X1_takeAway_89 : (m_bl k_X1_takeAway).lookup 89 = some s_X1_takeAway_89 := rfl
theorem lk_X2_remainder_0 : (m_bl k_X2_remainder).lookup 0 = some s_X2_remainder_0 := rfl
theorem lk_X2_remainder_12 : (m_bl k_X2_remainder).lookup 12 = some s_X2_remainder_12 := rfl
theorem lk_X2_remainder_13 : (m_bl k_X2_remainder).lookup 13 = some s_X2_remainder_13 := rfl
theorem lk_X2_plus_0 : (m_bl k_X2_plus).lookup 0 = some s_X2_plus_0 := rfl
theorem lk_X2_minus_0 : (m_bl k_X2_minus).lookup 0 = some s_X2_minus_0 := rfl
theorem lk_X2_times_0 : (m_bl k_X2_times).lookup 0 = some s_X2_times_0 := rfl
theorem lk_X2_quotient_0 : (m_bl k_X2_quotient).lookup 0 = some s_X2_quotient_0 := rfl
theorem lk_X2_quotient_7 : (m_bl k_X2_quotient).lookup 7 = some s_X2_quotient_7 := rfl
theorem lk_X2_quotient_34 : (m_bl k_X2_quotient).lookup 34 = some s_X2_quotient_34 := rfl
theorem lk_X2_quotient_48 : (m_bl k_X2_quotient).lookup 48 = some s_X2_quotient_48 := rfl
theorem lk_X3_init_0 : (m_bl k_X3_init).lookup 0 = some s_X3_init_0 := rfl
theorem lk_X3_rankOfColumns_0 : (m_bl k_X3_rankOfColumns).lookup 0 = some s_X3_rankOfColumns_0 := rfl
theorem lk_X3_rankOfColumns_19 : (m_bl k_X3_rankOfColumns).lookup 19 = some s_X3_rankOfColumns_19 := rfl
theorem lk_X3_rankOfColumns_45 : (m_bl k_X3_rankOfColumns).lookup 45 = some s_X3_rankOfColumns_45 := rfl
theorem lk_X3_rankOfColumns_46 : (m_bl k_X3_rankOfColumns).lookup 46 = some s_X3_rankOfColumns_46 := rfl
theorem lk_X3_rankOfColumns_83 : (m_bl k_X3_rankOfColumns).lookup 83 = some s_X3_rankOfColumns_83 := rfl
theorem lk_X3_byColumns_0 : (m_bl k_X3_byColumns).lookup 0 = some s_X3_byColumns_0 := rfl
theorem lk_X3_byColumns_18 : (m_bl k_X3_byColumns).lookup 18 = some s_X3_byColumns_18 := rfl
theorem lk_X3_byColumns_32 : (m_bl k_X3_byColumns).lookup 32 = some s_X3_byColumns_32 := rfl
theorem lk_X3_byColumns_57 : (m_bl k_X3_byColumns).lookup 57 = some s_X3_byColumns_57 := rfl
theorem lk_X3_byColumns_102 : (m_bl k_X3_byColumns).lookup 102 = some s_X3_byColumns_102 := rfl
theorem lk_X3_byColumns_108 : (m_bl k_X3_byColumns).lookup 108 = some s_X3_byColumns_108 := rfl
theorem lk_X3_byCoefficients_0 : (m_bl k_X3_byCoefficients).lookup 0 = some s_X3_byCoefficients_0 := rfl
theorem lk_X3_byCoefficients_32 : (m_bl k_X3_byCoefficients).lookup 32 = some s_X3_byCoefficients_32 := rfl
theorem lk_X3_byCoefficients_86 : (m_bl k_X3_byCoefficients).lookup 86 = some s_X3_byCoefficients_86 := rfl
theorem lk_X3_byCoefficients_130 : (m_bl k_X3_byCoefficients).lookup 130 = some s_X3_byCoefficients_130 := rfl
theorem lk_X3_byCoefficients_136 : (m_bl k_X3_byCoefficients).lookup 136 = some s_X3_byCoefficients_136 := rfl
theorem lk_X3_byCoefficients_152 : (m_bl k_X3_byCoefficients).lookup 152 = some s_X3_byCoefficients_152 := rfl
theorem lk_X3_findAsked_0 : (m_bl k_X3_findAsked).lookup 0 = some s_X3_findAsked_0 := rfl
theorem lk_X3_findAsked_20 : (m_bl k_X3_findAsked).lookup 20 = some s_X3_findAsked_20 := rfl
theorem lk_X3_findAsked_36 : (m_bl k_X3_findAsked).lookup 36 = some s_X3_findAsked_36 := rfl
theorem lk_X3_findAsked_78 : (m_bl k_X3_findAsked).lookup 78 = some s_X3_findAsked_78 := rfl
theorem lk_X3_findAsked_105 : (m_bl k_X3_findAsked).lookup 105 = some s_X3_findAsked_105 := rfl
theorem lk_X4_init_0 : (m_bl k_X4_init).lookup 0 = some s_X4_init_0 := rfl
theorem lk_X4_read_0 : (m_bl k_X4_read).lookup 0 = some s_X4_read_0 := rfl
theorem lk_X4_read_28 : (m_bl k_X4_read).lookup 28 = some s_X4_read_28 := rfl
theorem lk_X4_read_37 : (m_bl k_X4_read).lookup 37 = some s_X4_read_37 := rfl
theorem lk_X4_read_44 : (m_bl k_X4_read).lookup 44 = some s_X4_read_44 := rfl
theorem lk_X4_read_51 : (m_bl k_X4_read).lookup 51 = some s_X4_read_51 := rfl
theorem lk_X4_write_0 : (m_bl k_X4_write).lookup 0 = some s_X4_write_0 := rfl
theorem lk_X4_write_28 : (m_bl k_X4_write).lookup 28 = some s_X4_write_28 := rfl
theorem lk_X4_write_41 : (m_bl k_X4_write).lookup 41 = some s_X4_write_41 := rfl
theorem lk_X4_write_52 : (m_bl k_X4_write).lookup 52 = some s_X4_write_52 := rfl
theorem lk_X4_write_63 : (m_bl k_X4_write).lookup 63 = some s_X4_write_63 := rfl
theorem lk_X4_write_69 : (m_bl k_X4_write).lookup 69 = some s_X4_write_69 := rfl
theorem lk_X4_beSeries_0 : (m_bl k_X4_beSeries).lookup 0 = some s_X4_beSeries_0 := rfl
theorem lk_X4_beSeries_27 : (m_bl k_X4_beSeries).lookup 27 = some s_X4_beSeries_27 := rfl
theorem lk_X4_beSeries_38 : (m_bl k_X4_beSeries).lookup 38 = some s_X4_beSeries_38 := rfl
theorem lk_X4_beSeries_83 : (m_bl k_X4_beSeries).lookup 83 = some s_X4_beSeries_83 := rfl
theorem lk_X4_beSeries_89 : (m_bl k_X4_beSeries).lookup 89 = some s_X4_beSeries_89 := rfl
theorem lk_X4_beSideBySide_0 : (m_bl k_X4_beSideBySide).lookup 0 = some s_X4_beSideBySide_0 := rfl
theorem lk_X4_putPart_0 : (m_bl k_X4_putPart).lookup 0 = some s_X4_putPart_0 := rfl
theorem lk_X4_putPart_3 : (m_bl k_X4_putPart).lookup 3 = some s_X4_putPart_3 := rfl
theorem lk_X4_putPart_15 : (m_bl k_X4_putPart).lookup 15 = some s_X4_putPart_15 := rfl
theorem lk_X4_putPart_54 : (m_bl k_X4_putPart).lookup 54 = some s_X4_putPart_54 := rfl
theorem lk_X4_putPart_101 : (m_bl k_X4_putPart).lookup 101 = some s_X4_putPart_101 := rfl
theorem lk_X4_beLoop_0 : (m_bl k_X4_beLoop).lookup 0 = some s_X4_beLoop_0 := rfl
theorem lk_X4_beLoop_17 : (m_bl k_X4_beLoop).lookup 17 = some s_X4_beLoop_17 := rfl
theorem lk_X4_beLoop_43 : (m_bl k_X4_beLoop).lookup 43 = some s_X4_beLoop_43 := rfl
theorem lk_X4_beLoop_93 : (m_bl k_X4_beLoop).lookup 93 = some s_X4_beLoop_93 := rfl
theorem lk_X4_beLoop_137 : (m_bl k_X4_beLoop).lookup 137 = some s_X4_beLoop_137 := rfl
theorem lk_X4_bePlaced_0 : (m_bl k_X4_bePlaced).lookup 0 = some s_X4_bePlaced_0 := rfl
theorem lk_X4_bePlaced_2 : (m_bl k_X4_bePlaced).lookup 2 = some s_X4_bePlaced_2 := rfl
theorem lk_X4_bePlaced_13 : (m_bl k_X4_bePlaced).lookup 13 = some s_X4_bePlaced_13 := rfl
theorem lk_X4_bePlaced_62 : (m_bl k_X4_bePlaced).lookup 62 = some s_X4_bePlaced_62 := rfl
theorem lk_X4_bePlaced_92 : (m_bl k_X4_bePlaced).lookup 92 = some s_X4_bePlaced_92 := rfl
theorem lk_X4_beObserved_0 : (m_bl k_X4_beObserved).lookup 0 = some s_X4_beObserved_0 := rfl
theorem lk_X4_beObserved_9 : (m_bl k_X4_beObserved).lookup 9 = some s_X4_beObserved_9 := rfl
theorem lk_X4_beObserved_19 : (m_bl k_X4_beObserved).lookup 19 = some s_X4_beObserved_19 := rfl
theorem lk_X4_beObserved_150 : (m_bl k_X4_beObserved).lookup 150 = some s_X4_beObserved_150 := rfl
theorem lk_X4_beObserved_201 : (m_bl k_X4_beObserved).lookup 201 = some s_X4_beObserved_201 := rfl
theorem lk_X4_beTurned_0 : (m_bl k_X4_beTurned).lookup 0 = some s_X4_beTurned_0 := rfl
theorem lk_X4_beTurned_10 : (m_bl k_X4_beTurned).lookup 10 = some s_X4_beTurned_10 := rfl
theorem lk_X4_beTurned_20 : (m_bl k_X4_beTurned).lookup 20 = some s_X4_beTurned_20 := rfl
theorem lk_X4_beTurned_50 : (m_bl k_X4_beTurned).lookup 50 = some s_X4_beTurned_50 := rfl
theorem lk_X4_beTurned_68 : (m_bl k_X4_beTurned).lookup 68 = some s_X4_beTurned_68 := rfl
theorem lk_X5_init_0 : (m_bl k_X5_init).lookup 0 = some s_X5_init_0 := rfl
theorem lk_X5_find_0 : (m_bl k_X5_find).lookup 0 = some s_X5_find_0 := rfl
theorem lk_X5_find_21 : (m_bl k_X5_find).lookup 21 = some s_X5_find_21 := rfl
theorem lk_X5_find_52 : (m_bl k_X5_find).lookup 52 = some s_X5_find_52 := rfl
theorem lk_X5_find_54 : (m_bl k_X5_find).lookup 54 = some s_X5_find_54 := rfl
theorem lk_X5_find_175 : (m_bl k_X5_find).lookup 175 = some s_X5_find_175 := rfl
theorem lk_X5_trace_0 : (m_bl k_X5_trace).lookup 0 = some s_X5_trace_0 := rfl
theorem lk_X5_trace_4 : (m_bl k_X5_trace).lookup 4 = some s_X5_trace_4 := rfl
theorem lk_X5_trace_25 : (m_bl k_X5_trace).lookup 25 = some s_X5_trace_25 := rfl
theorem lk_X5_addToDiagonal_0 : (m_bl k_X5_addToDiagonal).lookup 0 = some s_X5_addToDiagonal_0 := rfl
theorem lk_X5_addToDiagonal_2 : (m_bl k_X5_addToDiagonal).lookup 2 = some s_X5_addToDiagonal_2 := rfl
theorem lk_X5_addToDiagonal_27 : (m_bl k_X5_addToDiagonal).lookup 27 = some s_X5_addToDiagonal_27 := rfl
theorem lk_X5_commonDegree_0 : (m_bl k_X5_commonDegree).lookup 0 = some s_X5_commonDegree_0 := rfl
theorem lk_X5_commonDegree_44 : (m_bl k_X5_commonDegree).lookup 44 = some s_X5_commonDegree_44 := rfl
theorem lk_X5_commonDegree_104 : (m_bl k_X5_commonDegree).lookup 104 = some s_X5_commonDegree_104 := rfl
theorem lk_X5_takeRest_0 : (m_bl k_X5_takeRest).lookup 0 = some s_X5_takeRest_0 := rfl
theorem lk_X5_takeRest_16 : (m_bl k_X5_takeRest).lookup 16 = some s_X5_takeRest_16 := rfl
theorem lk_X5_takeRest_39 : (m_bl k_X5_takeRest).lookup 39 = some s_X5_takeRest_39 := rfl
theorem lk_X5_takeRest_86 : (m_bl k_X5_takeRest).lookup 86 = some s_X5_takeRest_86 := rfl
theorem lk_X5_takeRest_92 : (m_bl k_X5_takeRest).lookup 92 = some s_X5_takeRest_92 := rfl
theorem lk_X5_degree_0 : (m_bl k_X5_degree).lookup 0 = some s_X5_degree_0 := rfl
theorem lk_X5_degree_2 : (m_bl k_X5_degree).lookup 2 = some s_X5_degree_2 := rfl
theorem lk_X5_degree_18 : (m_bl k_X5_degree).lookup 18 = some s_X5_degree_18 := rfl
theorem lk_X6_product_0 : (m_bl k_X6_product).lookup 0 = some s_X6_product_0 := rfl
theorem lk_X6_product_5 : (m_bl k_X6_product).lookup 5 = some s_X6_product_5 := rfl
theorem lk_X6_product_33 : (m_bl k_X6_product).lookup 33 = some s_X6_product_33 := rfl
theorem lk_X6_squareByColumn_0 : (m_bl k_X6_squareByColumn).lookup 0 = some s_X6_squareByColumn_0 := rfl
theorem lk_X6_squareByColumn_3 : (m_bl k_X6_squareByColumn).lookup 3 = some s_X6_squareByColumn_3 := rfl
theorem lk_X6_squareByColumn_28 : (m_bl k_X6_squareByColumn).lookup 28 = some s_X6_squareByColumn_28 := rfl
theorem lk_X6_rowBySquare_0 : (m_bl k_X6_rowBySquare).lookup 0 = some s_X6_rowBySquare_0 := rfl
theorem lk_X6_rowBySquare_3 : (m_bl k_X6_rowBySquare).lookup 3 = some s_X6_rowBySquare_3 := rfl
theorem lk_X6_rowBySquare_15 : (m_bl k_X6_rowBySquare).lookup 15 = some s_X6_rowBySquare_15 := rfl
theorem lk_X6_rowBySquare_48 : (m_bl k_X6_rowBySquare).lookup 48 = some s_X6_rowBySquare_48 := rfl
theorem lk_X6_rowBySquare_60 : (m_bl k_X6_rowBySquare).lookup 60 = some s_X6_rowBySquare_60 := rfl
theorem lk_X6_squareBySquare_0 : (m_bl k_X6_squareBySquare).lookup 0 = some s_X6_squareBySquare_0 := rfl
theorem lk_X6_squareBySquare_3 : (m_bl k_X6_squareBySquare).lookup 3 = some s_X6_squareBySquare_3 := rfl
theorem lk_X6_squareBySquare_28 : (m_bl k_X6_squareBySquare).lookup 28 = some s_X6_squareBySquare_28 := rfl
theorem lk_X6_copy_0 : (m_bl k_X6_copy).lookup 0 = some s_X6_copy_0 := rfl
theorem lk_X6_copy_2 : (m_bl k_X6_copy).lookup 2 = some s_X6_copy_2 := rfl
theorem lk_X6_copy_19 : (m_bl k_X6_copy).lookup 19 = some s_X6_copy_19 := rfl
theorem lk_X6_fill_0 : (m_bl k_X6_fill).lookup 0 = some s_X6_fill_0 := rfl
theorem lk_X6_fill_2 : (m_bl k_X6_fill).lookup 2 = some s_X6_fill_2 := rfl
theorem lk_X6_fill_17 : (m_bl k_X6_fill).lookup 17 = some s_X6_fill_17 := rfl
theorem lk_X7_init_0 : (m_bl k_X7_init).lookup 0 = some s_X7_init_0 := rfl
theorem lk_X7_find_0 : (m_bl k_X7_find).lookup 0 = some s_X7_find_0 := rfl
theorem lk_X7_find_9 : (m_bl k_X7_find).lookup 9 = some s_X7_find_9 := rfl
theorem lk_X7_find_63 : (m_bl k_X7_find).lookup 63 = some s_X7_find_63 := rfl
theorem lk_X7_find_84 : (m_bl k_X7_find).lookup 84 = some s_X7_find_84 := rfl
theorem lk_X7_beginAtEnd_0 : (m_bl k_X7_beginAtEnd).lookup 0 = some s_X7_beginAtEnd_0 := rfl
theorem lk_X7_beginAtEnd_2 : (m_bl k_X7_beginAtEnd).lookup 2 = some s_X7_beginAtEnd_2 := rfl
theorem lk_X7_beginAtEnd_13 : (m_bl k_X7_beginAtEnd).lookup 13 = some s_X7_beginAtEnd_13 := rfl
theorem lk_X7_beginAtEnd_57 : (m_bl k_X7_beginAtEnd).lookup 57 = some s_X7_beginAtEnd_57 := rfl
theorem lk_X7_beginAtEnd_63 : (m_bl k_X7_beginAtEnd).lookup 63 = some s_X7_beginAtEnd_63 := rfl
theorem lk_X7_stepBack_0 : (m_bl k_X7_stepBack).lookup 0 = some s_X7_stepBack_0 := rfl
theorem lk_X7_stepBack_65 : (m_bl k_X7_stepBack).lookup 65 = some s_X7_stepBack_65 := rfl
theorem lk_X7_stepBack_93 : (m_bl k_X7_stepBack).lookup 93 = some s_X7_stepBack_93 := rfl
theorem lk_X7_stepBack_102 : (m_bl k_X7_stepBack).lookup 102 = some s_X7_stepBack_102 := rfl
theorem lk_X7_stepBack_112 : (m_bl k_X7_stepBack).lookup 112 = some s_X7_stepBack_112 := rfl
theorem lk_X7_stepBack_184 : (m_bl k_X7_stepBack).lookup 184 = some s_X7_stepBack_184 := rfl
theorem lk_X7_stepBack_190 : (m_bl k_X7_stepBack).lookup 190 = some s_X7_stepBack_190 := rfl
theorem lk_X7_turnedEntry_0 : (m_bl k_X7_turnedEntry).lookup 0 = some s_X7_turnedEntry_0 := rfl
theorem lk_X7_turnedEntry_6 : (m_bl k_X7_turnedEntry).lookup 6 = some s_X7_turnedEntry_6 := rfl
theorem lk_X7_turnedEntry_44 : (m_bl k_X7_turnedEntry).lookup 44 = some s_X7_turnedEntry_44 := rfl
theorem lk_X7_costByEnd_0 : (m_bl k_X7_costByEnd).lookup 0 = some s_X7_costByEnd_0 := rfl
theorem lk_X7_costByEnd_4 : (m_bl k_X7_costByEnd).lookup 4 = some s_X7_costByEnd_4 := rfl
theorem lk_X7_costByEnd_12 : (m_bl k_X7_costByEnd).lookup 12 = some s_X7_costByEnd_12 := rfl
theorem lk_X7_costByEnd_38 : (m_bl k_X7_costByEnd).lookup 38 = some s_X7_costByEnd_38 := rfl
theorem lk_X7_costByEnd_44 : (m_bl k_X7_costByEnd).lookup 44 = some s_X7_costByEnd_44 := rfl
theorem lk_X7_costByGoing_0 : (m_bl k_X7_costByGoing).lookup 0 = some s_X7_costByGoing_0 := rfl
theorem lk_X7_costByGoing_25 : (m_bl k_X7_costByGoing).lookup 25 = some s_X7_costByGoing_25 := rfl
theorem lk_X7_costByGoing_103 : (m_bl k_X7_costByGoing).lookup 103 = some s_X7_costByGoing_103 := rfl
theorem lk_X7_costByGoing_145 : (m_bl k_X7_costByGoing).lookup 145 = some s_X7_costByGoing_145 := rfl
theorem lk_X7_costByGoing_151 : (m_bl k_X7_costByGoing).lookup 151 = some s_X7_costByGoing_151 := rfl
theorem lk_X7_costHere_0 : (m_bl k_X7_costHere).lookup 0 = some s_X7_costHere_0 := rfl
theorem lk_X8_init_0 : (m_bl k_X8_init).lookup 0 = some s_X8_init_0 := rfl
theorem lk_X8_isFull_0 : (m_bl k_X8_isFull).lookup 0 = some s_X8_isFull_0 := rfl
theorem lk_X8_isFull_15 : (m_bl k_X8_isFull).lookup 15 = some s_X8_isFull_15 := rfl
theorem lk_X8_isFull_16 : (m_bl k_X8_isFull).lookup 16 = some s_X8_isFull_16 := rfl
theorem lk_X8_add_0 : (m_bl k_X8_add).lookup 0 = some s_X8_add_0 := rfl
theorem lk_X9_init_0 : (m_bl k_X9_init).lookup 0 = some s_X9_init_0 := rfl
theorem lk_X9_init_112 : (m_bl k_X9_init).lookup 112 = some s_X9_init_112 := rfl
theorem lk_X9_init_137 : (m_bl k_X9_init).lookup 137 = some s_X9_init_137 := rfl
theorem lk_X9_system_0 : (m_bl k_X9_system).lookup 0 = some s_X9_system_0 := rfl
theorem lk_X9_system_10 : (m_bl k_X9_system).lookup 10 = some s_X9_system_10 := rfl
theorem lk_X9_system_20 : (m_bl k_X9_system).lookup 20 = some s_X9_system_20 := rfl
theorem lk_X9_set_0 : (m_bl k_X9_set).lookup 0 = some s_X9_set_0 := rfl
theorem lk_X9_join_0 : (m_bl k_X9_join).lookup 0 = some s_X9_join_0 := rfl
theorem lk_X9_join_44 : (m_bl k_X9_join).lookup 44 = some s_X9_join_44 := rfl
theorem lk_X9_join_68 : (m_bl k_X9_join).lookup 68 = some s_X9_join_68 := rfl
theorem lk_X9_join_77 : (m_bl k_X9_join).lookup 77 = some s_X9_join_77 := rfl
theorem lk_X9_loop_0 : (m_bl k_X9_loop).lookup 0 = some s_X9_loop_0 := rfl
theorem lk_X9_loop_46 : (m_bl k_X9_loop).lookup 46 = some s_X9_loop_46 := rfl
theorem lk_X9_pole_0 : (m_bl k_X9_pole).lookup 0 = some s_X9_pole_0 := rfl
theorem lk_X9_input_0 : (m_bl k_X9_input).lookup 0 = some s_X9_input_0 := rfl
theorem lk_X9_clear_0 : (m_bl k_X9_clear).lookup 0 = some s_X9_clear_0 := rfl
theorem lk_X9_placed_0 : (m_bl k_X9_placed).lookup 0 = some s_X9_placed_0 := rfl
theorem lk_X9_joined_0 : (m_bl k_X9_joined).lookup 0 = some s_X9_joined_0 := rfl
theorem lk_X9_joined_21 : (m_bl k_X9_joined).lookup 21 = some s_X9_joined_21 := rfl
theorem lk_X9_joined_31 : (m_bl k_X9_joined).lookup 31 = some s_X9_joined_31 := rfl
theorem lk_X9_at_0 : (m_bl k_X9_at).lookup 0 = some s_X9_at_0 := rfl
theorem lk_X9_order_0 : (m_bl k_X9_order).lookup 0 = some s_X9_order_0 := rfl
theorem lk_X9_polynomial_0 : (m_bl k_X9_polynomial).lookup 0 = some s_X9_polynomial_0 := rfl
theorem lk_X9_polynomial_20 : (m_bl k_X9_polynomial).lookup 20 = some s_X9_polynomial_20 := rfl
theorem lk_X9_polynomial_30 : (m_bl k_X9_polynomial).lookup 30 = some s_X9_polynomial_30 := rfl
theorem lk_X9_polynomial_55 : (m_bl k_X9_polynomial).lookup 55 = some s_X9_polynomial_55 := rfl
theorem lk_X9_polynomial_64 : (m_bl k_X9_polynomial).lookup 64 = some s_X9_polynomial_64 := rfl
theorem lk_X9_rank_0 : (m_bl k_X9_rank).lookup 0 = some s_X9_rank_0 := rfl
theorem lk_X9_rank_19 : (m_bl k_X9_rank).lookup 19 = some s_X9_rank_19 := rfl
theorem lk_X9_number_0 : (m_bl k_X9_number).lookup 0 = some s_X9_number_0 := rfl
theorem lk_X9_output_0 : (m_bl k_X9_output).lookup 0 = some s_X9_output_0 := rfl
theorem lk_X9_outputAnew_0 : (m_bl k_X9_outputAnew).lookup 0 = some s_X9_outputAnew_0 := rfl
theorem lk_X9_gain_0 : (m_bl k_X9_gain).lookup 0 = some s_X9_gain_0 := rfl
theorem lk_X9_gainAnew_0 : (m_bl k_X9_gainAnew).lookup 0 = some s_X9_gainAnew_0 := rfl
theorem lk_X9_gainAnew_63 : (m_bl k_X9_gainAnew).lookup 63 = some s_X9_gainAnew_63 := rfl
theorem lk_X9_observer_0 : (m_bl k_X9_observer).lookup 0 = some s_X9_observer_0 := rfl
theorem lk_X9_cost_0 : (m_bl k_X9_cost).lookup 0 = some s_X9_cost_0 := rfl
theorem lk_X9_costAnew_0 : (m_bl k_X9_costAnew).lookup 0 = some s_X9_costAnew_0 := rfl
theorem lk_X9_least_0 : (m_bl k_X9_least).lookup 0 = some s_X9_least_0 := rfl
theorem lk_X9_leastAnew_0 : (m_bl k_X9_leastAnew).lookup 0 = some s_X9_leastAnew_0 := rfl
theorem lk_X9_plantOf_0 : (m_bl k_X9_plantOf).lookup 0 = some s_X9_plantOf_0 := rfl
theorem lk_X9_plantOf_12 : (m_bl k_X9_plantOf).lookup 12 = some s_X9_plantOf_12 := rfl
theorem lk_X9_plantOf_22 : (m_bl k_X9_plantOf).lookup 22 = some s_X9_plantOf_22 := rfl
theorem lk_X9_newPlant_0 : (m_bl k_X9_newPlant).lookup 0 = some s_X9_newPlant_0 := rfl
theorem lk_X9_newPlant_19 : (m_bl k_X9_newPlant).lookup 19 = some s_X9_newPlant_19 := rfl
theorem lk_X9_type_0 : (m_bl k_X9_type).lookup 0 = some s_X9_type_0 := rfl
theorem lk_X9_type_21 : (m_bl k_X9_type).lookup 21 = some s_X9_type_21 := rfl
theorem lk_X9_requireEntry_0 : (m_bl k_X9_requireEntry).lookup 0 = some s_X9_requireEntry_0 := rfl
theorem lk_X9_requireEntry_9 : (m_bl k_X9_requireEntry).lookup 9 = some s_X9_requireEntry_9 := rfl
theorem lk_X9_requireEntry_19 : (m_bl k_X9_requireEntry).lookup 19 = some s_X9_requireEntry_19 := rfl
theorem lk_X9_requireEntry_28 : (m_bl k_X9_requireEntry).lookup 28 = some s_X9_requireEntry_28 := rfl
theorem lk_X9_requireEntry_33 : (m_bl k_X9_requireEntry).lookup 33 = some s_X9_requireEntry_33 := rfl
theorem lk_X9_requireEntry_42 : (m_bl k_X9_requireEntry).lookup 42 = some s_X9_requireEntry_42 := rfl
theorem lk_X9_requireEntry_47 : (m_bl k_X9_requireEntry).lookup 47 = some s_X9_requireEntry_47 := rfl
theorem lk_X9_requirePlace_0 : (m_bl k_X9_requirePlace).lookup 0 = some s_X9_requirePlace_0 := rfl
theorem lk_X9_requirePlace_12 : (m_bl k_X9_requirePlace).lookup 12 = some s_X9_requirePlace_12 := rfl
theorem lk_X9_requirePlace_22 : (m_bl k_X9_requirePlace).lookup 22 = some s_X9_requirePlace_22 := rfl
theorem lk_X9_requireValue_0 : (m_bl k_X9_requireValue).lookup 0 = some s_X9_requireValue_0 := rfl
theorem lk_X9_requireValue_14 : (m_bl k_X9_requireValue).lookup 14 = some s_X9_requireValue_14 := rfl
theorem lk_X9_requireValue_24 : (m_bl k_X9_requireValue).lookup 24 = some s_X9_requireValue_24 := rfl
theorem lk_X9_requireRange_0 : (m_bl k_X9_requireRange).lookup 0 = some s_X9_requireRange_0 := rfl
theorem lk_X9_requireRange_9 : (m_bl k_X9_requireRange).lookup 9 = some s_X9_requireRange_9 := rfl
theorem lk_X9_requireRange_19 : (m_bl k_X9_requireRange).lookup 19 = some s_X9_requireRange_19 := rfl
theorem lk_X9_requirePoles_0 : (m_bl k_X9_requirePoles).lookup 0 = some s_X9_requirePoles_0 := rfl
theorem lk_X9_requirePoles_21 : (m_bl k_X9_requirePoles).lookup 21 = some s_X9_requirePoles_21 := rfl
theorem lk_X9_findGains_0 : (m_bl k_X9_findGains).lookup 0 = some s_X9_findGains_0 := rfl
theorem lk_X9_findGains_38 : (m_bl k_X9_findGains).lookup 38 = some s_X9_findGains_38 := rfl
theorem lk_X9_findWatch_0 : (m_bl k_X9_findWatch).lookup 0 = some s_X9_findWatch_0 := rfl
theorem lk_X9_findWatch_54 : (m_bl k_X9_findWatch).lookup 54 = some s_X9_findWatch_54 := rfl
theorem lk_X9_goBack_0 : (m_bl k_X9_goBack).lookup 0 = some s_X9_goBack_0 := rfl
theorem lk_X9_goBack_47 : (m_bl k_X9_goBack).lookup 47 = some s_X9_goBack_47 := rfl
theorem lk_L_part_0 : (m_bl k_L_part).lookup 0 = some s_L_part_0 := rfl
theorem lk_L_part_12 : (m_bl k_L_part).lookup 12 = some s_L_part_12 := rfl
theorem lk_L_part_25 : (m_bl k_L_part).lookup 25 = some s_L_part_25 := rfl
theorem lk_L_does_0 : (m_bl k_L_does).lookup 0 = some s_L_does_0 := rfl
theorem lk_L_does_12 : (m_bl k_L_does).lookup 12 = some s_L_does_12 := rfl
theorem lk_L_does_32 : (m_bl k_L_does).lookup 32 = some s_L_does_32 := rfl
theorem lk_L_does_50 : (m_bl k_L_does).lookup 50 = some s_L_does_50 := rfl
theorem lk_L_does_51 : (m_bl k_L_does).lookup 51 = some s_L_does_51 := rfl
theorem lk_L_does_57 : (m_bl k_L_does).lookup 57 = some s_L_does_57 := rfl
theorem lk_L_does_71 : (m_bl k_L_does).lookup 71 = some s_L_does_71 := rfl
theorem lk_L_does_84 : (m_bl k_L_does).lookup 84 = some s_L_does_84 := rfl
theorem lk_L_does_97 : (m_bl k_L_does).lookup 97 = some s_L_does_97 := rfl
theorem lk_L_does_111 : (m_bl k_L_does).lookup 111 = some s_L_does_111 := rfl
theorem lk_L_does_125 : (m_bl k_L_does).lookup 125 = some s_L_does_125 := rfl
theorem lk_L_does_144 : (m_bl k_L_does).lookup 144 = some s_L_does_144 := rfl
theorem lk_L_does_163 : (m_bl k_L_does).lookup 163 = some s_L_does_163 := rfl
theorem lk_L_does_164 : (m_bl k_L_does).lookup 164 = some s_L_does_164 := rfl
theorem lk_L_does_170 : (m_bl k_L_does).lookup 170 = some s_L_does_170 := rfl
theorem lk_L_does_185 : (m_bl k_L_does).lookup 185 = some s_L_does_185 := rfl
theorem lk_L_does_200 : (m_bl k_L_does).lookup 200 = some s_L_does_200 := rfl
theorem lk_L_does_215 : (m_bl k_L_does).lookup 215 = some s_L_does_215 := rfl
theorem lk_L_does_234 : (m_bl k_L_does).lookup 234 = some s_L_does_234 := rfl
theorem lk_L_does_253 : (m_bl k_L_does).lookup 253 = some s_L_does_253 := rfl
theorem lk_L_does_268 : (m_bl k_L_does).lookup 268 = some s_L_does_268 := rfl
theorem lk_L_does_273 : (m_bl k_L_does).lookup 273 = some s_L_does_273 := rfl
theorem lk_L_does_274 : (m_bl k_L_does).lookup 274 = some s_L_does_274 := rfl
theorem lk_L_does_280 : (m_bl k_L_does).lookup 280 = some s_L_does_280 := rfl
theorem lk_L_does_286 : (m_bl k_L_does).lookup 286 = some s_L_does_286 := rfl
theorem lk_L_rest_0 : (m_bl k_L_rest).lookup 0 = some s_L_rest_0 := rfl
theorem lk_L_rest_18 : (m_bl k_L_rest).lookup 18 = some s_L_rest_18 := rfl
theorem lk_L_rest_19 : (m_bl k_L_rest).lookup 19 = some s_L_rest_19 := rfl
theorem lk_L_inverse_0 : (m_bl k_L_inverse).lookup 0 = some s_L_inverse_0 := rfl
theorem lk_L_inverse_11 : (m_bl k_L_inverse).lookup 11 = some s_L_inverse_11 := rfl
theorem lk_L_inverse_32 : (m_bl k_L_inverse).lookup 32 = some s_L_inverse_32 := rfl
theorem lk_L_inverse_33 : (m_bl k_L_inverse).lookup 33 = some s_L_inverse_33 := rfl
theorem lk_L_inverse_49 : (m_bl k_L_inverse).lookup 49 = some s_L_inverse_49 := rfl
theorem lk_L_reads_0 : (m_bl k_L_reads).lookup 0 = some s_L_reads_0 := rfl
theorem lk_L_reads_12 : (m_bl k_L_reads).lookup 12 = some s_L_reads_12 := rfl
theorem lk_L_reads_24 : (m_bl k_L_reads).lookup 24 = some s_L_reads_24 := rfl
theorem lk_L_reads_59 : (m_bl k_L_reads).lookup 59 = some s_L_reads_59 := rfl
theorem lk_L_reads_95 : (m_bl k_L_reads).lookup 95 = some s_L_reads_95 := rfl
theorem lk_L_determinant_0 : (m_bl k_L_determinant).lookup 0 = some s_L_determinant_0 := rfl
theorem lk_L_determinant_7 : (m_bl k_L_determinant).lookup 7 = some s_L_determinant_7 := rfl
theorem lk_L_determinant_16 : (m_bl k_L_determinant).lookup 16 = some s_L_determinant_16 := rfl
theorem lk_L_determinant_41 : (m_bl k_L_determinant).lookup 41 = some s_L_determinant_41 := rfl
theorem lk_L_determinant_52 : (m_bl k_L_determinant).lookup 52 = some s_L_determinant_52 := rfl
theorem lk_L_determinant_55 : (m_bl k_L_determinant).lookup 55 = some s_L_determinant_55 := rfl
theorem lk_L_determinant_119 : (m_bl k_L_determinant).lookup 119 = some s_L_determinant_119 := rfl
theorem lk_L_determinant_154 : (m_bl k_L_determinant).lookup 154 = some s_L_determinant_154 := rfl
theorem lk_L_determinant_182 : (m_bl k_L_determinant).lookup 182 = some s_L_determinant_182 := rfl
theorem lk_L_determinant_234 : (m_bl k_L_determinant).lookup 234 = some s_L_determinant_234 := rfl
theorem lk_L_determinant_240 : (m_bl k_L_determinant).lookup 240 = some s_L_determinant_240 := rfl
theorem lk_L_determinant_243 : (m_bl k_L_determinant).lookup 243 = some s_L_determinant_243 := rfl
theorem lk_L_determinant_249 : (m_bl k_L_determinant).lookup 249 = some s_L_determinant_249 := rfl
theorem lk_L_determinant_258 : (m_bl k_L_determinant).lookup 258 = some s_L_determinant_258 := rfl
theorem lk_L_determinant_262 : (m_bl k_L_determinant).lookup 262 = some s_L_determinant_262 := rfl
theorem lk_L_rank_0 : (m_bl k_L_rank).lookup 0 = some s_L_rank_0 := rfl
theorem lk_L_rank_17 : (m_bl k_L_rank).lookup 17 = some s_L_rank_17 := rfl
theorem lk_L_rank_18 : (m_bl k_L_rank).lookup 18 = some s_L_rank_18 := rfl
theorem lk_L_value_0 : (m_bl k_L_value).lookup 0 = some s_L_value_0 := rfl
theorem lk_L_value_5 : (m_bl k_L_value).lookup 5 = some s_L_value_5 := rfl
theorem lk_L_value_29 : (m_bl k_L_value).lookup 29 = some s_L_value_29 := rfl
theorem lk_L_at_0 : (m_bl k_L_at).lookup 0 = some s_L_at_0 := rfl
theorem lk_L_at_15 : (m_bl k_L_at).lookup 15 = some s_L_at_15 := rfl
theorem lk_L_at_25 : (m_bl k_L_at).lookup 25 = some s_L_at_25 := rfl
theorem lk_L_at_53 : (m_bl k_L_at).lookup 53 = some s_L_at_53 := rfl
theorem lk_L_at_54 : (m_bl k_L_at).lookup 54 = some s_L_at_54 := rfl
theorem lk_L_at_94 : (m_bl k_L_at).lookup 94 = some s_L_at_94 := rfl
theorem lk_L_at_100 : (m_bl k_L_at).lookup 100 = some s_L_at_100 := rfl
theorem lk_L_at_118 : (m_bl k_L_at).lookup 118 = some s_L_at_118 := rfl
theorem lk_L_at_120 : (m_bl k_L_at).lookup 120 = some s_L_at_120 := rfl
theorem lk_L_goes_0 : (m_bl k_L_goes).lookup 0 = some s_L_goes_0 := rfl
theorem lk_L_goes_9 : (m_bl k_L_goes).lookup 9 = some s_L_goes_9 := rfl
theorem lk_L_goes_18 : (m_bl k_L_goes).lookup 18 = some s_L_goes_18 := rfl
theorem lk_L_goes_54 : (m_bl k_L_goes).lookup 54 = some s_L_goes_54 := rfl
theorem lk_L_goes_64 : (m_bl k_L_goes).lookup 64 = some s_L_goes_64 := rfl
theorem lk_L_goes_77 : (m_bl k_L_goes).lookup 77 = some s_L_goes_77 := rfl
theorem lk_L_goes_83 : (m_bl k_L_goes).lookup 83 = some s_L_goes_83 := rfl
theorem lk_L_goes_86 : (m_bl k_L_goes).lookup 86 = some s_L_goes_86 := rfl
theorem lk_L_goes_107 : (m_bl k_L_goes).lookup 107 = some s_L_goes_107 := rfl
theorem lk_L_numbers_0 : (m_bl k_L_numbers).lookup 0 = some s_L_numbers_0 := rfl
theorem lk_L_numbers_14 : (m_bl k_L_numbers).lookup 14 = some s_L_numbers_14 := rfl
theorem lk_L_numbers_35 : (m_bl k_L_numbers).lookup 35 = some s_L_numbers_35 := rfl
theorem lk_L_numbers_45 : (m_bl k_L_numbers).lookup 45 = some s_L_numbers_45 := rfl
theorem lk_L_numbers_60 : (m_bl k_L_numbers).lookup 60 = some s_L_numbers_60 := rfl
theorem lk_L_numbers_98 : (m_bl k_L_numbers).lookup 98 = some s_L_numbers_98 := rfl
theorem lk_L_numbers_112 : (m_bl k_L_numbers).lookup 112 = some s_L_numbers_112 := rfl
theorem lk_L_rankOf_0 : (m_bl k_L_rankOf).lookup 0 = some s_L_rankOf_0 := rfl
theorem lk_L_rankOf_20 : (m_bl k_L_rankOf).lookup 20 = some s_L_rankOf_20 := rfl
theorem lk_L_rankOf_44 : (m_bl k_L_rankOf).lookup 44 = some s_L_rankOf_44 := rfl
theorem lk_L_rankOf_48 : (m_bl k_L_rankOf).lookup 48 = some s_L_rankOf_48 := rfl
theorem lk_L_rankOf_55 : (m_bl k_L_rankOf).lookup 55 = some s_L_rankOf_55 := rfl
theorem lk_L_rankOf_58 : (m_bl k_L_rankOf).lookup 58 = some s_L_rankOf_58 := rfl
theorem lk_L_rankOf_67 : (m_bl k_L_rankOf).lookup 67 = some s_L_rankOf_67 := rfl
theorem lk_L_rankOf_95 : (m_bl k_L_rankOf).lookup 95 = some s_L_rankOf_95 := rfl
theorem lk_L_rankOf_109 : (m_bl k_L_rankOf).lookup 109 = some s_L_rankOf_109 := rfl
theorem lk_L_areGains_0 : (m_bl k_L_areGains).lookup 0 = some s_L_areGains_0 := rfl
theorem lk_L_areGains_30 : (m_bl k_L_areGains).lookup 30 = some s_L_areGains_30 := rfl
theorem lk_L_areGains_31 : (m_bl k_L_areGains).lookup 31 = some s_L_areGains_31 := rfl
theorem lk_L_areGains_59 : (m_bl k_L_areGains).lookup 59 = some s_L_areGains_59 := rfl
theorem lk_L_areGains_60 : (m_bl k_L_areGains).lookup 60 = some s_L_areGains_60 := rfl
theorem lk_L_areGains_103 : (m_bl k_L_areGains).lookup 103 = some s_L_areGains_103 := rfl
theorem lk_L_areGains_104 : (m_bl k_L_areGains).lookup 104 = some s_L_areGains_104 := rfl
theorem lk_L_areGains_121 : (m_bl k_L_areGains).lookup 121 = some s_L_areGains_121 := rfl
theorem lk_L_areGains_239 : (m_bl k_L_areGains).lookup 239 = some s_L_areGains_239 := rfl
theorem lk_L_areGains_253 : (m_bl k_L_areGains).lookup 253 = some s_L_areGains_253 := rfl
theorem lk_L_areGains_269 : (m_bl k_L_areGains).lookup 269 = some s_L_areGains_269 := rfl
theorem lk_L_areGains_280 : (m_bl k_L_areGains).lookup 280 = some s_L_areGains_280 := rfl
theorem lk_L_areGains_284 : (m_bl k_L_areGains).lookup 284 = some s_L_areGains_284 := rfl
theorem lk_L_areGains_285 : (m_bl k_L_areGains).lookup 285 = some s_L_areGains_285 := rfl
theorem lk_L_areGains_293 : (m_bl k_L_areGains).lookup 293 = some s_L_areGains_293 := rfl
theorem lk_L_areGains_310 : (m_bl k_L_areGains).lookup 310 = some s_L_areGains_310 := rfl
theorem lk_L_areGains_331 : (m_bl k_L_areGains).lookup 331 = some s_L_areGains_331 := rfl
theorem lk_L_areGains_385 : (m_bl k_L_areGains).lookup 385 = some s_L_areGains_385 := rfl
theorem lk_L_areGains_404 : (m_bl k_L_areGains).lookup 404 = some s_L_areGains_404 := rfl
theorem lk_L_areGains_423 : (m_bl k_L_areGains).lookup 423 = some s_L_areGains_423 := rfl
theorem lk_L_areGains_427 : (m_bl k_L_areGains).lookup 427 = some s_L_areGains_427 := rfl
theorem lk_L_areGains_428 : (m_bl k_L_areGains).lookup 428 = some s_L_areGains_428 := rfl
theorem lk_L_areGains_436 : (m_bl k_L_areGains).lookup 436 = some s_L_areGains_436 := rfl
theorem lk_L_costs_0 : (m_bl k_L_costs).lookup 0 = some s_L_costs_0 := rfl
theorem lk_L_costs_33 : (m_bl k_L_costs).lookup 33 = some s_L_costs_33 := rfl
theorem lk_L_costs_46 : (m_bl k_L_costs).lookup 46 = some s_L_costs_46 := rfl
theorem lk_L_costs_67 : (m_bl k_L_costs).lookup 67 = some s_L_costs_67 := rfl
theorem lk_L_costs_111 : (m_bl k_L_costs).lookup 111 = some s_L_costs_111 := rfl
theorem lk_L_costs_136 : (m_bl k_L_costs).lookup 136 = some s_L_costs_136 := rfl
theorem lk_L_costs_150 : (m_bl k_L_costs).lookup 150 = some s_L_costs_150 := rfl
theorem lk_L_costs_153 : (m_bl k_L_costs).lookup 153 = some s_L_costs_153 := rfl
theorem lk_L_costs_169 : (m_bl k_L_costs).lookup 169 = some s_L_costs_169 := rfl
theorem lk_L_costs_222 : (m_bl k_L_costs).lookup 222 = some s_L_costs_222 := rfl
theorem lk_L_costs_284 : (m_bl k_L_costs).lookup 284 = some s_L_costs_284 := rfl
theorem lk_L_costs_290 : (m_bl k_L_costs).lookup 290 = some s_L_costs_290 := rfl
theorem lk_L_costs_296 : (m_bl k_L_costs).lookup 296 = some s_L_costs_296 := rfl
theorem lk_L_costs_309 : (m_bl k_L_costs).lookup 309 = some s_L_costs_309 := rfl
theorem lk_L_costs_310 : (m_bl k_L_costs).lookup 310 = some s_L_costs_310 := rfl
theorem lk_L_costs_315 : (m_bl k_L_costs).lookup 315 = some s_L_costs_315 := rfl
theorem lk_L_costs_325 : (m_bl k_L_costs).lookup 325 = some s_L_costs_325 := rfl
theorem lk_L_costs_362 : (m_bl k_L_costs).lookup 362 = some s_L_costs_362 := rfl
theorem lk_L_costs_411 : (m_bl k_L_costs).lookup 411 = some s_L_costs_411 := rfl
theorem lk_L_costs_456 : (m_bl k_L_costs).lookup 456 = some s_L_costs_456 := rfl
theorem lk_L_costs_462 : (m_bl k_L_costs).lookup 462 = some s_L_costs_462 := rfl
theorem lk_L_costs_468 : (m_bl k_L_costs).lookup 468 = some s_L_costs_468 := rfl
theorem lk_L_costs_474 : (m_bl k_L_costs).lookup 474 = some s_L_costs_474 := rfl
theorem lk_L_costs_497 : (m_bl k_L_costs).lookup 497 = some s_L_costs_497 := rfl
theorem lk_L_isSo_0 : (m_bl k_L_isSo).lookup 0 = some s_L_isSo_0 := rfl
theorem lk_L_isSo_149 : (m_bl k_L_isSo).lookup 149 = some s_L_isSo_149 := rfl
theorem lk_L_isSo_150 : (m_bl k_L_isSo).lookup 150 = some s_L_isSo_150 := rfl
theorem lk_L_isSo_167 : (m_bl k_L_isSo).lookup 167 = some s_L_isSo_167 := rfl
theorem lk_L_isSo_249 : (m_bl k_L_isSo).lookup 249 = some s_L_isSo_249 := rfl
theorem lk_L_isSo_250 : (m_bl k_L_isSo).lookup 250 = some s_L_isSo_250 := rfl
theorem lk_L_isSo_258 : (m_bl k_L_isSo).lookup 258 = some s_L_isSo_258 := rfl
theorem lk_L_isSo_261 : (m_bl k_L_isSo).lookup 261 = some s_L_isSo_261 := rfl
theorem lk_L_isSo_331 : (m_bl k_L_isSo).lookup 331 = some s_L_isSo_331 := rfl
theorem lk_L_isSo_332 : (m_bl k_L_isSo).lookup 332 = some s_L_isSo_332 := rfl
theorem lk_L_isSo_340 : (m_bl k_L_isSo).lookup 340 = some s_L_isSo_340 := rfl
theorem lk_L_isSo_346 : (m_bl k_L_isSo).lookup 346 = some s_L_isSo_346 := rfl
theorem lk_L_isSo_364 : (m_bl k_L_isSo).lookup 364 = some s_L_isSo_364 := rfl
theorem lk_L_isSo_399 : (m_bl k_L_isSo).lookup 399 = some s_L_isSo_399 := rfl
theorem lk_L_isSo_400 : (m_bl k_L_isSo).lookup 400 = some s_L_isSo_400 := rfl
theorem lk_L_isSo_414 : (m_bl k_L_isSo).lookup 414 = some s_L_isSo_414 := rfl
theorem lk_L_isSo_463 : (m_bl k_L_isSo).lookup 463 = some s_L_isSo_463 := rfl
theorem lk_L_isSo_467 : (m_bl k_L_isSo).lookup 467 = some s_L_isSo_467 := rfl
theorem lk_L_isSo_468 : (m_bl k_L_isSo).lookup 468 = some s_L_isSo_468 := rfl
theorem lk_L_isSo_476 : (m_bl k_L_isSo).lookup 476 = some s_L_isSo_476 := rfl
theorem lk_L_isSo_485 : (m_bl k_L_isSo).lookup 485 = some s_L_isSo_485 := rfl
theorem lk_L_isSo_495 : (m_bl k_L_isSo).lookup 495 = some s_L_isSo_495 := rfl
theorem lk_L_isSo_529 : (m_bl k_L_isSo).lookup 529 = some s_L_isSo_529 := rfl
theorem lk_L_isSo_535 : (m_bl k_L_isSo).lookup 535 = some s_L_isSo_535 := rfl
theorem lk_L_isSo_555 : (m_bl k_L_isSo).lookup 555 = some s_L_isSo_555 := rfl
theorem lk_L_isSo_561 : (m_bl k_L_isSo).lookup 561 = some s_L_isSo_561 := rfl
theorem lk_L_isSo_574 : (m_bl k_L_isSo).lookup 574 = some s_L_isSo_574 := rfl
theorem lk_L_isSo_580 : (m_bl k_L_isSo).lookup 580 = some s_L_isSo_580 := rfl
theorem lk_L_isSo_692 : (m_bl k_L_isSo).lookup 692 = some s_L_isSo_692 := rfl
theorem lk_L_isSo_693 : (m_bl k_L_isSo).lookup 693 = some s_L_isSo_693 := rfl
theorem lk_L_isMade_0 : (m_bl k_L_isMade).lookup 0 = some s_L_isMade_0 := rfl
theorem lk_L_isMade_128 : (m_bl k_L_isMade).lookup 128 = some s_L_isMade_128 := rfl
theorem lk_L_isMade_129 : (m_bl k_L_isMade).lookup 129 = some s_L_isMade_129 := rfl
theorem lk_L_isMade_134 : (m_bl k_L_isMade).lookup 134 = some s_L_isMade_134 := rfl
theorem lk_L_isMade_196 : (m_bl k_L_isMade).lookup 196 = some s_L_isMade_196 := rfl
theorem lk_L_isMade_197 : (m_bl k_L_isMade).lookup 197 = some s_L_isMade_197 := rfl
theorem lk_L_isMade_202 : (m_bl k_L_isMade).lookup 202 = some s_L_isMade_202 := rfl
theorem lk_L_isMade_282 : (m_bl k_L_isMade).lookup 282 = some s_L_isMade_282 := rfl
theorem lk_L_isMade_283 : (m_bl k_L_isMade).lookup 283 = some s_L_isMade_283 := rfl
theorem lk_L_isMade_291 : (m_bl k_L_isMade).lookup 291 = some s_L_isMade_291 := rfl
theorem lk_L_isMade_297 : (m_bl k_L_isMade).lookup 297 = some s_L_isMade_297 := rfl
theorem lk_L_isMade_300 : (m_bl k_L_isMade).lookup 300 = some s_L_isMade_300 := rfl
theorem lk_L_isMade_310 : (m_bl k_L_isMade).lookup 310 = some s_L_isMade_310 := rfl
theorem lk_L_isMade_311 : (m_bl k_L_isMade).lookup 311 = some s_L_isMade_311 := rfl
theorem lk_L_isMade_357 : (m_bl k_L_isMade).lookup 357 = some s_L_isMade_357 := rfl
theorem lk_L_isMade_372 : (m_bl k_L_isMade).lookup 372 = some s_L_isMade_372 := rfl
theorem lk_L_isMade_379 : (m_bl k_L_isMade).lookup 379 = some s_L_isMade_379 := rfl
theorem lk_L_isMade_380 : (m_bl k_L_isMade).lookup 380 = some s_L_isMade_380 := rfl
theorem lk_L_isMade_385 : (m_bl k_L_isMade).lookup 385 = some s_L_isMade_385 := rfl
theorem lk_L_isMade_406 : (m_bl k_L_isMade).lookup 406 = some s_L_isMade_406 := rfl
theorem lk_L_isMade_407 : (m_bl k_L_isMade).lookup 407 = some s_L_isMade_407 := rfl
theorem lk_L_isMade_432 : (m_bl k_L_isMade).lookup 432 = some s_L_isMade_432 := rfl
theorem lk_L_isMade_453 : (m_bl k_L_isMade).lookup 453 = some s_L_isMade_453 := rfl
theorem lk_L_isMade_454 : (m_bl k_L_isMade).lookup 454 = some s_L_isMade_454 := rfl
theorem lk_L_isMade_459 : (m_bl k_L_isMade).lookup 459 = some s_L_isMade_459 := rfl
theorem lk_L_isMade_496 : (m_bl k_L_isMade).lookup 496 = some s_L_isMade_496 := rfl
theorem lk_L_isMade_497 : (m_bl k_L_isMade).lookup 497 = some s_L_isMade_497 := rfl
theorem lk_L_isMade_505 : (m_bl k_L_isMade).lookup 505 = some s_L_isMade_505 := rfl
theorem lk_L_isMade_516 : (m_bl k_L_isMade).lookup 516 = some s_L_isMade_516 := rfl
theorem lk_L_isMade_523 : (m_bl k_L_isMade).lookup 523 = some s_L_isMade_523 := rfl
theorem lk_L_isMade_524 : (m_bl k_L_isMade).lookup 524 = some s_L_isMade_524 := rfl
theorem lk_L_isMade_529 : (m_bl k_L_isMade).lookup 529 = some s_L_isMade_529 := rfl
theorem lk_L_isMade_565 : (m_bl k_L_isMade).lookup 565 = some s_L_isMade_565 := rfl
theorem lk_L_isMade_569 : (m_bl k_L_isMade).lookup 569 = some s_L_isMade_569 := rfl
theorem lk_L_isMade_596 : (m_bl k_L_isMade).lookup 596 = some s_L_isMade_596 := rfl
theorem lk_L_isMade_625 : (m_bl k_L_isMade).lookup 625 = some s_L_isMade_625 := rfl
theorem lk_L_isMade_626 : (m_bl k_L_isMade).lookup 626 = some s_L_isMade_626 := rfl
theorem lk_L_isMade_653 : (m_bl k_L_isMade).lookup 653 = some s_L_isMade_653 := rfl
theorem lk_L_isMade_654 : (m_bl k_L_isMade).lookup 654 = some s_L_isMade_654 := rfl
theorem lk_L_isMade_662 : (m_bl k_L_isMade).lookup 662 = some s_L_isMade_662 := rfl
theorem lk_L_isMade_668 : (m_bl k_L_isMade).lookup 668 = some s_L_isMade_668 := rfl
theorem lk_L_arePlaced_0 : (m_bl k_L_arePlaced).lookup 0 = some s_L_arePlaced_0 := rfl
theorem lk_L_arePlaced_65 : (m_bl k_L_arePlaced).lookup 65 = some s_L_arePlaced_65 := rfl
theorem lk_L_arePlaced_67 : (m_bl k_L_arePlaced).lookup 67 = some s_L_arePlaced_67 := rfl
theorem lk_L_arePlaced_87 : (m_bl k_L_arePlaced).lookup 87 = some s_L_arePlaced_87 := rfl
theorem lk_L_arePlaced_88 : (m_bl k_L_arePlaced).lookup 88 = some s_L_arePlaced_88 := rfl
theorem lk_L_arePlaced_93 : (m_bl k_L_arePlaced).lookup 93 = some s_L_arePlaced_93 := rfl
theorem lk_L_arePlaced_171 : (m_bl k_L_arePlaced).lookup 171 = some s_L_arePlaced_171 := rfl
theorem lk_L_arePlaced_175 : (m_bl k_L_arePlaced).lookup 175 = some s_L_arePlaced_175 := rfl
theorem lk_L_arePlaced_176 : (m_bl k_L_arePlaced).lookup 176 = some s_L_arePlaced_176 := rfl
theorem lk_L_arePlaced_181 : (m_bl k_L_arePlaced).lookup 181 = some s_L_arePlaced_181 := rfl
theorem lk_L_arePlaced_349 : (m_bl k_L_arePlaced).lookup 349 = some s_L_arePlaced_349 := rfl
theorem lk_L_arePlaced_350 : (m_bl k_L_arePlaced).lookup 350 = some s_L_arePlaced_350 := rfl
theorem lk_L_arePlaced_355 : (m_bl k_L_arePlaced).lookup 355 = some s_L_arePlaced_355 := rfl
theorem lk_L_arePlaced_390 : (m_bl k_L_arePlaced).lookup 390 = some s_L_arePlaced_390 := rfl
theorem lk_L_arePlaced_391 : (m_bl k_L_arePlaced).lookup 391 = some s_L_arePlaced_391 := rfl
theorem lk_L_arePlaced_393 : (m_bl k_L_arePlaced).lookup 393 = some s_L_arePlaced_393 := rfl
theorem lk_L_arePlaced_399 : (m_bl k_L_arePlaced).lookup 399 = some s_L_arePlaced_399 := rfl
theorem lk_L_arePlaced_405 : (m_bl k_L_arePlaced).lookup 405 = some s_L_arePlaced_405 := rfl
theorem lk_L_isAct_0 : (m_bl k_L_isAct).lookup 0 = some s_L_isAct_0 := rfl
theorem lk_L_isAct_47 : (m_bl k_L_isAct).lookup 47 = some s_L_isAct_47 := rfl
theorem lk_L_isAct_48 : (m_bl k_L_isAct).lookup 48 = some s_L_isAct_48 := rfl
theorem lk_L_isAct_67 : (m_bl k_L_isAct).lookup 67 = some s_L_isAct_67 := rfl
theorem lk_L_isAct_68 : (m_bl k_L_isAct).lookup 68 = some s_L_isAct_68 := rfl
theorem lk_L_isAct_83 : (m_bl k_L_isAct).lookup 83 = some s_L_isAct_83 := rfl
theorem lk_L_isAct_84 : (m_bl k_L_isAct).lookup 84 = some s_L_isAct_84 := rfl
theorem lk_L_isAct_108 : (m_bl k_L_isAct).lookup 108 = some s_L_isAct_108 := rfl
theorem lk_L_isAct_121 : (m_bl k_L_isAct).lookup 121 = some s_L_isAct_121 := rfl
theorem lk_L_isAct_124 : (m_bl k_L_isAct).lookup 124 = some s_L_isAct_124 := rfl
theorem lk_L_isAct_131 : (m_bl k_L_isAct).lookup 131 = some s_L_isAct_131 := rfl
theorem lk_L_isAct_132 : (m_bl k_L_isAct).lookup 132 = some s_L_isAct_132 := rfl
theorem lk_L_isAct_133 : (m_bl k_L_isAct).lookup 133 = some s_L_isAct_133 := rfl
theorem lk_L_isAct_165 : (m_bl k_L_isAct).lookup 165 = some s_L_isAct_165 := rfl
theorem lk_L_isAct_166 : (m_bl k_L_isAct).lookup 166 = some s_L_isAct_166 := rfl
theorem lk_L_isAct_189 : (m_bl k_L_isAct).lookup 189 = some s_L_isAct_189 := rfl
theorem lk_L_isAct_190 : (m_bl k_L_isAct).lookup 190 = some s_L_isAct_190 := rfl
theorem lk_L_isAct_216 : (m_bl k_L_isAct).lookup 216 = some s_L_isAct_216 := rfl
theorem lk_L_isAct_217 : (m_bl k_L_isAct).lookup 217 = some s_L_isAct_217 := rfl
theorem lk_L_isAct_232 : (m_bl k_L_isAct).lookup 232 = some s_L_isAct_232 := rfl
theorem lk_L_isAct_233 : (m_bl k_L_isAct).lookup 233 = some s_L_isAct_233 := rfl
theorem lk_L_isAct_261 : (m_bl k_L_isAct).lookup 261 = some s_L_isAct_261 := rfl
theorem lk_L_isAct_274 : (m_bl k_L_isAct).lookup 274 = some s_L_isAct_274 := rfl
theorem lk_L_isAct_277 : (m_bl k_L_isAct).lookup 277 = some s_L_isAct_277 := rfl
theorem lk_L_isAct_306 : (m_bl k_L_isAct).lookup 306 = some s_L_isAct_306 := rfl
theorem lk_L_isAct_310 : (m_bl k_L_isAct).lookup 310 = some s_L_isAct_310 := rfl
theorem lk_L_isAct_311 : (m_bl k_L_isAct).lookup 311 = some s_L_isAct_311 := rfl
theorem lk_L_isAct_312 : (m_bl k_L_isAct).lookup 312 = some s_L_isAct_312 := rfl
theorem lk_L_isAct_348 : (m_bl k_L_isAct).lookup 348 = some s_L_isAct_348 := rfl
theorem lk_L_isAct_349 : (m_bl k_L_isAct).lookup 349 = some s_L_isAct_349 := rfl
theorem lk_L_isAct_371 : (m_bl k_L_isAct).lookup 371 = some s_L_isAct_371 := rfl
theorem lk_L_isAct_372 : (m_bl k_L_isAct).lookup 372 = some s_L_isAct_372 := rfl
theorem lk_L_isAct_391 : (m_bl k_L_isAct).lookup 391 = some s_L_isAct_391 := rfl
theorem lk_L_isAct_392 : (m_bl k_L_isAct).lookup 392 = some s_L_isAct_392 := rfl
theorem lk_L_isAct_436 : (m_bl k_L_isAct).lookup 436 = some s_L_isAct_436 := rfl
theorem lk_L_isAct_437 : (m_bl k_L_isAct).lookup 437 = some s_L_isAct_437 := rfl
theorem lk_L_isAct_452 : (m_bl k_L_isAct).lookup 452 = some s_L_isAct_452 := rfl
theorem lk_L_isAct_453 : (m_bl k_L_isAct).lookup 453 = some s_L_isAct_453 := rfl
theorem lk_L_isAct_478 : (m_bl k_L_isAct).lookup 478 = some s_L_isAct_478 := rfl
theorem lk_L_isAct_489 : (m_bl k_L_isAct).lookup 489 = some s_L_isAct_489 := rfl
theorem lk_L_isAct_502 : (m_bl k_L_isAct).lookup 502 = some s_L_isAct_502 := rfl
theorem lk_L_isAct_505 : (m_bl k_L_isAct).lookup 505 = some s_L_isAct_505 := rfl
theorem lk_L_isAct_532 : (m_bl k_L_isAct).lookup 532 = some s_L_isAct_532 := rfl
theorem lk_L_isAct_536 : (m_bl k_L_isAct).lookup 536 = some s_L_isAct_536 := rfl
theorem lk_L_isAct_537 : (m_bl k_L_isAct).lookup 537 = some s_L_isAct_537 := rfl
theorem lk_L_isAct_538 : (m_bl k_L_isAct).lookup 538 = some s_L_isAct_538 := rfl
theorem lk_L_isAct_555 : (m_bl k_L_isAct).lookup 555 = some s_L_isAct_555 := rfl
theorem lk_L_isAct_556 : (m_bl k_L_isAct).lookup 556 = some s_L_isAct_556 := rfl
theorem lk_L_isAct_567 : (m_bl k_L_isAct).lookup 567 = some s_L_isAct_567 := rfl
theorem lk_L_isAct_568 : (m_bl k_L_isAct).lookup 568 = some s_L_isAct_568 := rfl
theorem lk_L_isAct_590 : (m_bl k_L_isAct).lookup 590 = some s_L_isAct_590 := rfl
theorem lk_L_isAct_597 : (m_bl k_L_isAct).lookup 597 = some s_L_isAct_597 := rfl
theorem lk_L_isAct_619 : (m_bl k_L_isAct).lookup 619 = some s_L_isAct_619 := rfl
theorem lk_L_isAct_620 : (m_bl k_L_isAct).lookup 620 = some s_L_isAct_620 := rfl
theorem lk_L_isAct_641 : (m_bl k_L_isAct).lookup 641 = some s_L_isAct_641 := rfl
theorem lk_L_isAct_643 : (m_bl k_L_isAct).lookup 643 = some s_L_isAct_643 := rfl
theorem lk_L_isAct_650 : (m_bl k_L_isAct).lookup 650 = some s_L_isAct_650 := rfl
theorem lk_L_isAct_651 : (m_bl k_L_isAct).lookup 651 = some s_L_isAct_651 := rfl
theorem lk_L_isAct_676 : (m_bl k_L_isAct).lookup 676 = some s_L_isAct_676 := rfl
theorem lk_L_isAct_691 : (m_bl k_L_isAct).lookup 691 = some s_L_isAct_691 := rfl
theorem lk_L_isAct_705 : (m_bl k_L_isAct).lookup 705 = some s_L_isAct_705 := rfl
theorem lk_L_isAct_706 : (m_bl k_L_isAct).lookup 706 = some s_L_isAct_706 := rfl
theorem lk_L_isAct_718 : (m_bl k_L_isAct).lookup 718 = some s_L_isAct_718 := rfl
theorem lk_L_isAct_719 : (m_bl k_L_isAct).lookup 719 = some s_L_isAct_719 := rfl
theorem lk_L_isAct_739 : (m_bl k_L_isAct).lookup 739 = some s_L_isAct_739 := rfl
theorem lk_L_isAct_751 : (m_bl k_L_isAct).lookup 751 = some s_L_isAct_751 := rfl
theorem lk_L_isAct_754 : (m_bl k_L_isAct).lookup 754 = some s_L_isAct_754 := rfl
theorem lk_L_isAct_761 : (m_bl k_L_isAct).lookup 761 = some s_L_isAct_761 := rfl
theorem lk_L_isAct_762 : (m_bl k_L_isAct).lookup 762 = some s_L_isAct_762 := rfl
theorem lk_L_isAct_763 : (m_bl k_L_isAct).lookup 763 = some s_L_isAct_763 := rfl
theorem lk_L_isAct_793 : (m_bl k_L_isAct).lookup 793 = some s_L_isAct_793 := rfl
theorem lk_L_isAct_796 : (m_bl k_L_isAct).lookup 796 = some s_L_isAct_796 := rfl
theorem lk_L_isAct_811 : (m_bl k_L_isAct).lookup 811 = some s_L_isAct_811 := rfl
theorem lk_L_isAct_814 : (m_bl k_L_isAct).lookup 814 = some s_L_isAct_814 := rfl
theorem lk_L_isAct_832 : (m_bl k_L_isAct).lookup 832 = some s_L_isAct_832 := rfl
theorem lk_L_isAct_836 : (m_bl k_L_isAct).lookup 836 = some s_L_isAct_836 := rfl
theorem lk_L_isAct_837 : (m_bl k_L_isAct).lookup 837 = some s_L_isAct_837 := rfl
theorem lk_L_isAct_838 : (m_bl k_L_isAct).lookup 838 = some s_L_isAct_838 := rfl
theorem lk_L_isAct_856 : (m_bl k_L_isAct).lookup 856 = some s_L_isAct_856 := rfl
theorem lk_L_isAct_857 : (m_bl k_L_isAct).lookup 857 = some s_L_isAct_857 := rfl
theorem lk_L_isAct_871 : (m_bl k_L_isAct).lookup 871 = some s_L_isAct_871 := rfl
theorem lk_L_isAct_872 : (m_bl k_L_isAct).lookup 872 = some s_L_isAct_872 := rfl
theorem lk_L_isAct_888 : (m_bl k_L_isAct).lookup 888 = some s_L_isAct_888 := rfl
theorem lk_L_isAct_889 : (m_bl k_L_isAct).lookup 889 = some s_L_isAct_889 := rfl
theorem lk_L_isAct_911 : (m_bl k_L_isAct).lookup 911 = some s_L_isAct_911 := rfl
theorem lk_L_isAct_913 : (m_bl k_L_isAct).lookup 913 = some s_L_isAct_913 := rfl
theorem lk_L_isAct_940 : (m_bl k_L_isAct).lookup 940 = some s_L_isAct_940 := rfl
theorem lk_L_isAct_941 : (m_bl k_L_isAct).lookup 941 = some s_L_isAct_941 := rfl
theorem lk_L_isAct_983 : (m_bl k_L_isAct).lookup 983 = some s_L_isAct_983 := rfl
theorem lk_L_isAct_987 : (m_bl k_L_isAct).lookup 987 = some s_L_isAct_987 := rfl
theorem lk_L_isAct_988 : (m_bl k_L_isAct).lookup 988 = some s_L_isAct_988 := rfl
theorem lk_L_isAct_1003 : (m_bl k_L_isAct).lookup 1003 = some s_L_isAct_1003 := rfl
theorem lk_L_isAct_1004 : (m_bl k_L_isAct).lookup 1004 = some s_L_isAct_1004 := rfl
theorem lk_L_isAct_1017 : (m_bl k_L_isAct).lookup 1017 = some s_L_isAct_1017 := rfl
theorem lk_L_isAct_1019 : (m_bl k_L_isAct).lookup 1019 = some s_L_isAct_1019 := rfl
theorem lk_L_isAct_1039 : (m_bl k_L_isAct).lookup 1039 = some s_L_isAct_1039 := rfl
theorem lk_L_isAct_1052 : (m_bl k_L_isAct).lookup 1052 = some s_L_isAct_1052 := rfl
theorem lk_L_isAct_1055 : (m_bl k_L_isAct).lookup 1055 = some s_L_isAct_1055 := rfl
theorem lk_L_isAct_1079 : (m_bl k_L_isAct).lookup 1079 = some s_L_isAct_1079 := rfl
theorem lk_L_isAct_1083 : (m_bl k_L_isAct).lookup 1083 = some s_L_isAct_1083 := rfl
theorem lk_L_isAct_1084 : (m_bl k_L_isAct).lookup 1084 = some s_L_isAct_1084 := rfl
theorem lk_L_isAct_1085 : (m_bl k_L_isAct).lookup 1085 = some s_L_isAct_1085 := rfl
theorem lk_L_isAct_1102 : (m_bl k_L_isAct).lookup 1102 = some s_L_isAct_1102 := rfl
theorem lk_L_isAct_1103 : (m_bl k_L_isAct).lookup 1103 = some s_L_isAct_1103 := rfl
theorem lk_L_isAct_1168 : (m_bl k_L_isAct).lookup 1168 = some s_L_isAct_1168 := rfl
theorem lk_L_isAct_1187 : (m_bl k_L_isAct).lookup 1187 = some s_L_isAct_1187 := rfl
theorem lk_L_isAct_1191 : (m_bl k_L_isAct).lookup 1191 = some s_L_isAct_1191 := rfl
theorem lk_L_isAct_1192 : (m_bl k_L_isAct).lookup 1192 = some s_L_isAct_1192 := rfl
theorem lk_L_isAct_1214 : (m_bl k_L_isAct).lookup 1214 = some s_L_isAct_1214 := rfl
theorem lk_L_isAct_1224 : (m_bl k_L_isAct).lookup 1224 = some s_L_isAct_1224 := rfl
theorem lk_L_isAct_1246 : (m_bl k_L_isAct).lookup 1246 = some s_L_isAct_1246 := rfl
theorem lk_L_isAct_1247 : (m_bl k_L_isAct).lookup 1247 = some s_L_isAct_1247 := rfl
theorem lk_L_isAct_1269 : (m_bl k_L_isAct).lookup 1269 = some s_L_isAct_1269 := rfl
theorem lk_L_isAct_1270 : (m_bl k_L_isAct).lookup 1270 = some s_L_isAct_1270 := rfl
theorem lk_L_isAct_1298 : (m_bl k_L_isAct).lookup 1298 = some s_L_isAct_1298 := rfl
theorem lk_L_isAct_1308 : (m_bl k_L_isAct).lookup 1308 = some s_L_isAct_1308 := rfl
theorem lk_L_isAct_1311 : (m_bl k_L_isAct).lookup 1311 = some s_L_isAct_1311 := rfl
theorem lk_L_isAct_1344 : (m_bl k_L_isAct).lookup 1344 = some s_L_isAct_1344 := rfl
theorem lk_L_isAct_1346 : (m_bl k_L_isAct).lookup 1346 = some s_L_isAct_1346 := rfl
theorem lk_L_isAct_1349 : (m_bl k_L_isAct).lookup 1349 = some s_L_isAct_1349 := rfl
theorem lk_L_isAct_1353 : (m_bl k_L_isAct).lookup 1353 = some s_L_isAct_1353 := rfl
theorem lk_L_isAct_1354 : (m_bl k_L_isAct).lookup 1354 = some s_L_isAct_1354 := rfl
theorem lk_L_law_0 : (m_bl k_L_law).lookup 0 = some s_L_law_0 := rfl
theorem lk_L_law_119 : (m_bl k_L_law).lookup 119 = some s_L_law_119 := rfl
theorem lk_L_law_120 : (m_bl k_L_law).lookup 120 = some s_L_law_120 := rfl
theorem lk_L_law_125 : (m_bl k_L_law).lookup 125 = some s_L_law_125 := rfl
theorem lk_L_law_147 : (m_bl k_L_law).lookup 147 = some s_L_law_147 := rfl
theorem lk_L_law_159 : (m_bl k_L_law).lookup 159 = some s_L_law_159 := rfl
theorem lk_L_law_170 : (m_bl k_L_law).lookup 170 = some s_L_law_170 := rfl
theorem lk_L_law_181 : (m_bl k_L_law).lookup 181 = some s_L_law_181 := rfl
theorem lk_L_law_191 : (m_bl k_L_law).lookup 191 = some s_L_law_191 := rfl
theorem lk_L_law_225 : (m_bl k_L_law).lookup 225 = some s_L_law_225 := rfl
theorem lk_L_law_237 : (m_bl k_L_law).lookup 237 = some s_L_law_237 := rfl
theorem lk_L_law_256 : (m_bl k_L_law).lookup 256 = some s_L_law_256 := rfl
theorem lk_L_law_268 : (m_bl k_L_law).lookup 268 = some s_L_law_268 := rfl
theorem lk_L_law_280 : (m_bl k_L_law).lookup 280 = some s_L_law_280 := rfl
theorem lk_L_law_282 : (m_bl k_L_law).lookup 282 = some s_L_law_282 := rfl
theorem lk_L_law_342 : (m_bl k_L_law).lookup 342 = some s_L_law_342 := rfl
theorem lk_L_law_346 : (m_bl k_L_law).lookup 346 = some s_L_law_346 := rfl
theorem lk_L_law_347 : (m_bl k_L_law).lookup 347 = some s_L_law_347 := rfl
theorem lk_L_law_355 : (m_bl k_L_law).lookup 355 = some s_L_law_355 := rfl
end
section
/-! FLAT MEMORY: when all cells are made, what they hold is two functions (cell, place): whole numbers, and references. -/
def iI (a : Int) : Int32 := Int32.ofInt a
abbrev F : Type := Fin 10007
def vF (x : F) : Int := (x.val : Int)
abbrev M1 : Type := Nat → Nat → F
abbrev M2 : Type := Nat → Nat → Option Nat
abbrev Mem : Type := M1 × M2
/-- of each class, which fields are references -/
def sf : Nat → List Bool := fun k => match k with
  | 0 => [true, true, true, true]
  | 1 => [true]
  | 2 => [true, true, true, true]
  | 3 => [false, true, true, true, false]
  | 4 => [true, true, true, true, true, true, true]
  | 5 => [true, true, true, true, true, true, true]
  | 6 => [true, false, false]
  | 7 => [true, false, true, true, true, true, true, true, true, true, true]
  | 8 => [false, true, true, true, true, true, false, true, false, true, true, true, true, true, true, true, true, true, true, true, true, false]
  | _ => []
abbrev i_PB : Nat := 117
/-- the shape of each cell: 1 ints, 2 longs, 3 rows of ints, 4 plants (with their length), 10 + class -/
def shP : Nat → Nat × Nat := fun r => [(13, 0), (3, 8), (1, 8), (1, 8), (1, 8), (1, 8), (1, 8), (1, 8), (1, 8), (1, 8), (1, 8), (1, 8)].getD r (0, 0)
def shL : List (Nat × Nat) := [(0, 0), (17, 0), (4, 12), (16, 0), (1, 20), (16, 0), (1, 20), (13, 0), (3, 8), (1, 8), (1, 8), (1, 8), (1, 8), (1, 8), (1, 8), (1, 8), (1, 8), (1, 8), (1, 8), (12, 0), (11, 0), (3, 8), (1, 9), (1, 9), (1, 9), (1, 9), (1, 9), (1, 9), (1, 9), (1, 9), (1, 8), (1, 8), (1, 9), (1, 8), (1, 8), (14, 0), (1, 9), (1, 9), (3, 8), (1, 8), (1, 8), (1, 8), (1, 8), (1, 8), (1, 8), (1, 8), (1, 8), (3, 8), (1, 8), (1, 8), (1, 8), (1, 8), (1, 8), (1, 8), (1, 8), (1, 8), (1, 8), (1, 9), (1, 9), (10, 0), (1, 41), (1, 8), (1, 8), (11, 0), (3, 8), (1, 9), (1, 9), (1, 9), (1, 9), (1, 9), (1, 9), (1, 9), (1, 9), (15, 0), (3, 8), (1, 8), (1, 8), (1, 8), (1, 8), (1, 8), (1, 8), (1, 8), (1, 8), (3, 8), (1, 8), (1, 8), (1, 8), (1, 8), (1, 8), (1, 8), (1, 8), (1, 8), (3, 20), (1, 8), (1, 8), (1, 8), (1, 8), (1, 8), (1, 8), (1, 8), (1, 8), (1, 8), (1, 8), (1, 8), (1, 8), (1, 8), (1, 8), (1, 8), (1, 8), (1, 8), (1, 8), (1, 8), (1, 8), (1, 8), (1, 8), (1, 8), (1, 8)]
def SH (j : Nat) : Nat × Nat := if j < 117 then shL.getD j (0, 0) else if j < 261 then shP ((j - 117) % 12) else (0, 0)
theorem SH_pl {k r : Nat} (hk : k < 12) (hr : r < 12) : SH (i_PB + 12 * k + r) = shP r := by
  have h1 : ¬ i_PB + 12 * k + r < 117 := by show ¬ 117 + 12 * k + r < 117; omega
  have h2 : i_PB + 12 * k + r < 261 := by show 117 + 12 * k + r < 261; omega
  have h3 : (i_PB + 12 * k + r - 117) % 12 = r := by show (117 + 12 * k + r - 117) % 12 = r; omega
  unfold SH
  rw [if_neg h1, if_pos h2, h3]
abbrev i_1_plants : Nat := 2
abbrev i_1_poles : Nat := 3
abbrev i_1_inputs : Nat := 5
abbrev i_1_turned : Nat := 7
abbrev i_1_placing : Nat := 19
abbrev i_1_gains : Nat := 33
abbrev i_1_watch : Nat := 34
abbrev i_1_polynomials : Nat := 35
abbrev i_1_answers : Nat := 59
abbrev i_1_stepsBack : Nat := 73
abbrev i_3_values : Nat := 4
abbrev i_5_values : Nat := 6
abbrev i_7_square : Nat := 8
abbrev i_7_column : Nat := 17
abbrev i_7_row : Nat := 18
abbrev i_19_equations : Nat := 20
abbrev i_19_state : Nat := 30
abbrev i_19_next : Nat := 31
abbrev i_19_asked : Nat := 32
abbrev i_20_rows : Nat := 21
abbrev i_35_below : Nat := 36
abbrev i_35_above : Nat := 37
abbrev i_35_square : Nat := 38
abbrev i_35_grown : Nat := 47
abbrev i_35_column : Nat := 56
abbrev i_35_high : Nat := 57
abbrev i_35_low : Nat := 58
abbrev i_59_h : Nat := 60
abbrev i_59_state : Nat := 61
abbrev i_59_next : Nat := 62
abbrev i_59_equations : Nat := 63
abbrev i_63_rows : Nat := 64
abbrev i_73_p : Nat := 74
abbrev i_73_pa : Nat := 83
abbrev i_73_rowsK : Nat := 92
abbrev i_73_pb : Nat := 113
abbrev i_73_apb : Nat := 114
abbrev i_73_state : Nat := 115
abbrev i_73_next : Nat := 116

def flds (c j : Nat) (M : Mem) : List Value := (sf c).zipIdx.map (fun q => if q.1 then va_rf (M.2 j q.2) else .int (iI (vF (M.1 j q.2))))
def cellM (q : Nat × Nat) (M : Mem) (j : Nat) : Option MC :=
  if q.1 = 1 then some (mI q.2 (fun i => iI (vF (M.1 j i)))) else if q.1 = 2 then some (mJ q.2 (fun i => (iI (vF (M.1 j i))).toInt64)) else if q.1 = 3 then some (mQ 0 q.2 (M.2 j)) else if q.1 = 4 then some (mQ 1 q.2 (M.2 j)) else if 10 ≤ q.1 then some (mO (q.1 - 10) (flds (q.1 - 10) j M)) else none
/-- all other cells: how many there are, and what they hold -/
abbrev Env : Type := Nat × (Nat → Option MC)
def hpM (S : Env) (fz : Bool) (M : Mem) : MH := (S.1, fz, fun j => if 1 ≤ j ∧ j ≤ 260 then cellM (SH j) M j else S.2 j)
def w1 (m : M1) (a i : Nat) (x : F) : M1 := fun a' i' => if a' = a ∧ i' = i then x else m a' i'
def w2 (p : M2) (a i : Nat) (q : Option Nat) : M2 := fun a' i' => if a' = a ∧ i' = i then q else p a' i'
def u1 (M : Mem) (a i : Nat) (x : F) : Mem := (w1 M.1 a i x, M.2)
def u2 (M : Mem) (a i : Nat) (q : Option Nat) : Mem := (M.1, w2 M.2 a i q)
theorem u1_at {M : Mem} {a i : Nat} {x : F} : (u1 M a i x).1 a i = x := if_pos ⟨rfl, rfl⟩
theorem u1_ne {M : Mem} {a i a' i' : Nat} {x : F} (h : ¬ (a' = a ∧ i' = i)) : (u1 M a i x).1 a' i' = M.1 a' i' := if_neg h
theorem u2_at {M : Mem} {a i : Nat} {x : Option Nat} : (u2 M a i x).2 a i = x := if_pos ⟨rfl, rfl⟩
theorem u2_ne {M : Mem} {a i a' i' : Nat} {x : Option Nat} (h : ¬ (a' = a ∧ i' = i)) : (u2 M a i x).2 a' i' = M.2 a' i' := if_neg h
/-- what an int may be -/
def rg (a : Int) : Prop := -2147483648 ≤ a ∧ a < 2147483648
theorem iI_toInt {a : Int} (h : rg a) : (iI a).toInt = a := Int32.toInt_ofInt_of_le (by have := h.1; omega) (by have := h.2; omega)
theorem iI_of (x : Int32) : iI x.toInt = x := Int32.ofInt_toInt x
theorem rg_of (x : Int32) : rg x.toInt := ⟨by have := x.le_toInt; omega, by have := x.toInt_lt; omega⟩
theorem iI_add (a b : Int) : iI a + iI b = iI (a + b) := (Int32.ofInt_add a b).symm
theorem iI_sub (a b : Int) : iI a - iI b = iI (a - b) := (Int32.ofInt_sub a b).symm
theorem iI_mul (a b : Int) : iI a * iI b = iI (a * b) := (Int32.ofInt_mul a b).symm
theorem iI_neg (a : Int) : -iI a = iI (-a) := (Int32.ofInt_neg a).symm
theorem iI_lt {a b : Int} (ha : rg a) (hb : rg b) : iI a < iI b ↔ a < b := by rw [Int32.lt_iff_toInt_lt, iI_toInt ha, iI_toInt hb]
theorem iI_le {a b : Int} (ha : rg a) (hb : rg b) : iI a ≤ iI b ↔ a ≤ b := by rw [Int32.le_iff_toInt_le, iI_toInt ha, iI_toInt hb]
theorem iI_eq {a b : Int} (ha : rg a) (hb : rg b) : iI a = iI b ↔ a = b := by rw [← Int32.toInt_inj, iI_toInt ha, iI_toInt hb]
theorem iI_0 : iI 0 = 0 := rfl
theorem iI_tdiv {a b : Int} (ha : rg a) (hb : rg b) : iI a / iI b = iI (a.tdiv b) := (Int32.ofInt_tdiv (by have := ha.1; exact this) (by have := ha.2; show a ≤ 2147483647; omega) (by have := hb.1; exact this) (by have := hb.2; show b ≤ 2147483647; omega)).symm
theorem iI_rem {a b : Int} (ha : rg a) (hb : rg b) : iI a - iI a / iI b * iI b = iI (a.tmod b) := by
  rw [iI_tdiv ha hb, iI_mul, iI_sub]
  refine congrArg iI ?_
  have := Int.mul_tdiv_add_tmod a b
  have e : b * a.tdiv b = a.tdiv b * b := Int.mul_comm _ _
  omega
theorem iI_clamp {j : Nat} (h : j < 2147483648) : (iI (j : Int)).toNatClampNeg = j := by
  have h1 := Int32.toNatClampNeg_ofInt_of_le (n := (j : Int)) (by omega) (by omega)
  rw [show (iI (j : Int)).toNatClampNeg = (Int32.ofInt (j : Int)).toNatClampNeg from rfl, h1]
  omega
theorem iI_in {j n : Nat} (h : j < n) (hn : n ≤ 100000) : ¬ (iI (j : Int) < 0 ∨ n ≤ (iI (j : Int)).toNatClampNeg) := by
  rw [iI_clamp (by omega), show (0 : Int32) = iI 0 from rfl, iI_lt ⟨by omega, by omega⟩ ⟨by omega, by omega⟩]
  omega
theorem flds_len (c j : Nat) (M : Mem) : (flds c j M).length = (sf c).length := by simp [flds]
theorem flds_at {c j y : Nat} {M : Mem} {q : Bool} (h : (sf c)[y]? = some q) : (flds c j M)[y]? = some (if q then va_rf (M.2 j y) else .int (iI (vF (M.1 j y)))) := by
  unfold flds
  rw [List.getElem?_map, List.getElem?_zipIdx, h]
  simp
theorem cellM_u1 {M : Mem} {a i j : Nat} {x : F} {q : Nat × Nat} (h : j ≠ a) : cellM q (u1 M a i x) j = cellM q M j := by
  have e : ∀ i', (u1 M a i x).1 j i' = M.1 j i' := fun i' => u1_ne (fun z => h z.1)
  simp only [cellM, flds, e]
  rfl
theorem cellM_u2 {M : Mem} {a i j : Nat} {x : Option Nat} {q : Nat × Nat} (h : j ≠ a) : cellM q (u2 M a i x) j = cellM q M j := by
  have e : ∀ i', (u2 M a i x).2 j i' = M.2 j i' := fun i' => u2_ne (fun z => h z.1)
  have e2 : (u2 M a i x).2 j = M.2 j := funext e
  simp only [cellM, flds, e2]
  rfl
theorem hpM_at {S : Env} {fz : Bool} {M : Mem} {a : Nat} (ha : 1 ≤ a ∧ a ≤ 260) : (hpM S fz M).2.2 a = cellM (SH a) M a := if_pos ha
theorem SH_0 : SH 0 = (0, 0) := rfl
theorem SH_n0 {a t w : Nat} (h : SH a = (t, w)) (hq : t ≠ 0) : 1 ≤ a ∧ a ≤ 260 := by
  refine ⟨?_, ?_⟩
  · by_cases e : a = 0
    · subst e
      rw [SH_0] at h
      cases h
      exact absurd rfl hq
    · omega
  · by_cases e : a ≤ 260
    · exact e
    · unfold SH at h
      rw [if_neg (by omega), if_neg (by omega)] at h
      cases h
      exact absurd rfl hq
theorem SH_ne {a t w : Nat} (h : SH a = (t, w)) (hq : t ≠ 0) : a ≠ 0 := by have := (SH_n0 h hq).1; omega
theorem hup_hp {S : Env} {fz : Bool} {M M' : Mem} {a : Nat} {x : MC} (ha : 1 ≤ a ∧ a ≤ 260) (h1 : cellM (SH a) M' a = some x) (h2 : ∀ j, j ≠ a → cellM (SH j) M' j = cellM (SH j) M j) : hup (hpM S fz M) a x = hpM S fz M' := by
  unfold hup hpM
  refine congrArg (fun f => (S.1, fz, f)) (funext fun j => ?_)
  by_cases e : j = a
  · subst e
    simp only [if_true, if_pos ha, h1]
  · simp only [if_neg e, h2 j e]
theorem hup_u1 {S : Env} {fz : Bool} {M : Mem} {a i n : Nat} {x : F} (hs : SH a = (1, n)) : hup (hpM S fz M) a (mI n (upd (fun i => iI (vF (M.1 a i))) i (iI (vF x)))) = hpM S fz (u1 M a i x) := by
  refine hup_hp (SH_n0 hs (by decide)) ?_ (fun j hj => cellM_u1 hj)
  rw [hs]
  show some (mI n (fun i' => iI (vF ((u1 M a i x).1 a i')))) = _
  refine congrArg (fun f => some (mI n f)) (funext fun i' => ?_)
  by_cases e : i' = i
  · subst e
    rw [u1_at]
    exact (if_pos rfl).symm
  · rw [u1_ne (fun z => e z.2)]
    exact (if_neg e).symm
theorem hup_J {S : Env} {fz : Bool} {M : Mem} {a i n : Nat} {x : F} (hs : SH a = (2, n)) : hup (hpM S fz M) a (mJ n (vp_updL (fun i => (iI (vF (M.1 a i))).toInt64) i (iI (vF x)).toInt64)) = hpM S fz (u1 M a i x) := by
  refine hup_hp (SH_n0 hs (by decide)) ?_ (fun j hj => cellM_u1 hj)
  rw [hs]
  show some (mJ n (fun i' => (iI (vF ((u1 M a i x).1 a i'))).toInt64)) = _
  refine congrArg (fun f => some (mJ n f)) (funext fun i' => ?_)
  by_cases e : i' = i
  · subst e
    rw [u1_at]
    exact (if_pos rfl).symm
  · rw [u1_ne (fun z => e z.2)]
    exact (if_neg e).symm
theorem hup_Q {S : Env} {fz : Bool} {M : Mem} {a i n t q : Nat} (hs : SH a = (3 + t, n)) (ht : t < 2) : hup (hpM S fz M) a (mQ t n (va_up (M.2 a) i (some q))) = hpM S fz (u2 M a i (some q)) := by
  have e : (fun i' => (u2 M a i (some q)).2 a i') = va_up (M.2 a) i (some q) := funext fun i' => by
    by_cases e : i' = i
    · subst e
      rw [u2_at]
      exact (if_pos rfl).symm
    · rw [u2_ne (fun z => e z.2)]
      exact (if_neg e).symm
  refine hup_hp (SH_n0 hs (by show 3 + t ≠ 0; omega)) ?_ (fun j hj => cellM_u2 hj)
  rw [hs]
  rcases (show t = 0 ∨ t = 1 by omega) with rfl | rfl
  · show some (mQ 0 n (fun i' => (u2 M a i (some q)).2 a i')) = _
    rw [e]
  · show some (mQ 1 n (fun i' => (u2 M a i (some q)).2 a i')) = _
    rw [e]
theorem hup_F1 {S : Env} {fz : Bool} {M : Mem} {a y c n : Nat} {x : F} (hs : SH a = (10 + c, n)) (hf : (sf c)[y]? = some false) : hup (hpM S fz M) a (mO c ((flds c a M).set y (.int (iI (vF x))))) = hpM S fz (u1 M a y x) := by
  refine hup_hp (SH_n0 hs (by show 10 + c ≠ 0; omega)) ?_ (fun j hj => cellM_u1 hj)
  rw [hs]
  have e1 : cellM (10 + c, n) (u1 M a y x) a = some (mO c (flds c a (u1 M a y x))) := by
    have h1 : ¬ 10 + c = 1 := by omega
    have h2 : ¬ 10 + c = 2 := by omega
    have h3 : ¬ 10 + c = 3 := by omega
    have h4 : ¬ 10 + c = 4 := by omega
    have h5 : 10 ≤ 10 + c := by omega
    have h6 : 10 + c - 10 = c := by omega
    simp only [cellM, h1, h2, h3, h4, h5, h6, if_false, if_true]
  rw [e1]
  refine congrArg (fun f => some (mO c f)) (List.ext_getElem? fun i => ?_)
  rw [List.getElem?_set]
  by_cases e : y = i
  · subst e
    have hl : y < (sf c).length := (List.getElem?_eq_some_iff.mp hf).1
    rw [if_pos rfl, if_pos (by rw [flds_len]; exact hl), flds_at hf, u1_at]
    rfl
  · rw [if_neg e]
    cases hq : (sf c)[i]? with
    | none =>
      have hl : (sf c).length ≤ i := List.getElem?_eq_none_iff.mp hq
      rw [List.getElem?_eq_none (by rw [flds_len]; exact hl), List.getElem?_eq_none (by rw [flds_len]; exact hl)]
    | some q =>
      rw [flds_at hq, flds_at hq, u1_ne (fun z => e z.2.symm)]
      rfl
theorem hup_F2 {S : Env} {fz : Bool} {M : Mem} {a y c n q : Nat} (hs : SH a = (10 + c, n)) (hf : (sf c)[y]? = some true) : hup (hpM S fz M) a (mO c ((flds c a M).set y (.ref q))) = hpM S fz (u2 M a y (some q)) := by
  refine hup_hp (SH_n0 hs (by show 10 + c ≠ 0; omega)) ?_ (fun j hj => cellM_u2 hj)
  rw [hs]
  have e1 : cellM (10 + c, n) (u2 M a y (some q)) a = some (mO c (flds c a (u2 M a y (some q)))) := by
    have h1 : ¬ 10 + c = 1 := by omega
    have h2 : ¬ 10 + c = 2 := by omega
    have h3 : ¬ 10 + c = 3 := by omega
    have h4 : ¬ 10 + c = 4 := by omega
    have h5 : 10 ≤ 10 + c := by omega
    have h6 : 10 + c - 10 = c := by omega
    simp only [cellM, h1, h2, h3, h4, h5, h6, if_false, if_true]
  rw [e1]
  refine congrArg (fun f => some (mO c f)) (List.ext_getElem? fun i => ?_)
  rw [List.getElem?_set]
  by_cases e : y = i
  · subst e
    have hl : y < (sf c).length := (List.getElem?_eq_some_iff.mp hf).1
    rw [if_pos rfl, if_pos (by rw [flds_len]; exact hl), flds_at hf, u2_at]
    rfl
  · rw [if_neg e]
    cases hq : (sf c)[i]? with
    | none =>
      have hl : (sf c).length ≤ i := List.getElem?_eq_none_iff.mp hq
      rw [List.getElem?_eq_none (by rw [flds_len]; exact hl), List.getElem?_eq_none (by rw [flds_len]; exact hl)]
    | some q =>
      rw [flds_at hq, flds_at hq, u2_ne (fun z => e z.2.symm)]
      rfl
theorem hp_obj {S : Env} {fz : Bool} {M : Mem} {a c n : Nat} (hs : SH a = (10 + c, n)) : (hpM S fz M).2.2 a = some (mO c (flds c a M)) := by
  rw [hpM_at (SH_n0 hs (by show 10 + c ≠ 0; omega)), hs]
  have h1 : ¬ 10 + c = 1 := by omega
  have h2 : ¬ 10 + c = 2 := by omega
  have h3 : ¬ 10 + c = 3 := by omega
  have h4 : ¬ 10 + c = 4 := by omega
  have h5 : 10 ≤ 10 + c := by omega
  have h6 : 10 + c - 10 = c := by omega
  simp only [cellM, h1, h2, h3, h4, h5, h6, if_false, if_true]
theorem hp_I {S : Env} {fz : Bool} {M : Mem} {a n : Nat} (hs : SH a = (1, n)) : (hpM S fz M).2.2 a = some (mI n (fun i => iI (vF (M.1 a i)))) := by
  rw [hpM_at (SH_n0 hs (by decide)), hs]
  rfl
theorem hp_J {S : Env} {fz : Bool} {M : Mem} {a n : Nat} (hs : SH a = (2, n)) : (hpM S fz M).2.2 a = some (mJ n (fun i => (iI (vF (M.1 a i))).toInt64)) := by
  rw [hpM_at (SH_n0 hs (by decide)), hs]
  rfl
theorem hp_Q {S : Env} {fz : Bool} {M : Mem} {a n t : Nat} (hs : SH a = (3 + t, n)) (ht : t < 2) : (hpM S fz M).2.2 a = some (mQ t n (M.2 a)) := by
  rw [hpM_at (SH_n0 hs (by show 3 + t ≠ 0; omega)), hs]
  rcases (show t = 0 ∨ t = 1 by omega) with rfl | rfl <;> rfl
end
section
/-! RULES: from the state behind an instruction to the state ahead of it. -/
theorem rn_next {C : Nat → List Value → MH → Res → Prop} {k : Nat} {g g' : Cfg} {r : Res} (hs : step k g = some (.inl g')) (h : Rn C k g' r) : Rn C k g r := by
  obtain ⟨f, hf⟩ := h
  refine ⟨f + 1, ?_⟩
  unfold runR
  rw [hs]
  exact hf
theorem rn_end {C : Nat → List Value → MH → Res → Prop} {k : Nat} {g : Cfg} {r : Res} (hs : step k g = some (.inr (.inl r))) : Rn C k g r := by
  refine ⟨1, ?_⟩
  unfold runR
  rw [hs]
theorem rn_call {C : Nat → List Value → MH → Res → Prop} {k x : Nat} {ar : List Value} {g : Cfg} {r : Res} {pc : Nat} {is : List Ent} {lv : List (Option Value)} {st : List Value} {h h' : MH} {c s c' s' : Nat} {v : Option Value} (hs : step k g = some (.inr (.inr (x, ar, (pc, is, lv, st, h, c, s))))) (hq : C x ar h (.inl v, h', c', s')) (hr : Rn C k (pc, is, lv, v.toList ++ st, h', c + c', s + s') r) : Rn C k g r := by
  obtain ⟨f, hf⟩ := hr
  refine ⟨f + 1, ?_⟩
  unfold runR
  rw [hs]
  exact ⟨_, hq, hf⟩
theorem rn_thrown {C : Nat → List Value → MH → Res → Prop} {k x E : Nat} {ar : List Value} {g : Cfg} {pc : Nat} {is : List Ent} {lv : List (Option Value)} {st : List Value} {h h' : MH} {c s c' s' : Nat} (hh : m_hh k = []) (hs : step k g = some (.inr (.inr (x, ar, (pc, is, lv, st, h, c, s))))) (hq : C x ar h (.inr E, h', c', s')) : Rn C k g (.inr E, h', c + c', s + s') := by
  refine ⟨1, ?_⟩
  unfold runR
  rw [hs]
  refine ⟨_, hq, ?_⟩
  simp only [hh]
theorem rn_caught {C : Nat → List Value → MH → Res → Prop} {k x E : Nat} {ar : List Value} {g : Cfg} {r : Res} {pc : Nat} {is : List Ent} {lv : List (Option Value)} {st : List Value} {h h' : MH} {c s c' s' n t len : Nat} {a9 : Nat × Nat × Nat} {is' : List Ent} {q0 : Nat × Nat × Nat × Nat} {hh : List (Nat × Nat × Nat × Nat)} (hk : m_hh k = q0 :: hh) (hs : step k g = some (.inr (.inr (x, ar, (pc, is, lv, st, h, c, s))))) (hq : C x ar h (.inr E, h', c', s')) (ht : hnd (pc - 3) E (q0 :: hh) = some t) (hl : (∃ n' : Fin 4, (n' : Nat) = n ∧ len = 1 ∧ (m_bl k).lookup t = some ((.astore_n n', 1, a9) :: is')) ∨ (len = 2 ∧ (m_bl k).lookup t = some ((.astore n, 2, a9) :: is')))
    (hr : Rn C k (t + len, is', lv.set n none, [], h', c + c', s + s') r) : Rn C k g r := by
  obtain ⟨f, hf⟩ := hr
  refine ⟨f + 1, ?_⟩
  unfold runR
  rw [hs]
  refine ⟨_, hq, ?_⟩
  rw [hk]
  simp only [ht]
  rcases hl with ⟨n', rfl, rfl, hl⟩ | ⟨rfl, hl⟩
  · rw [hl]
    exact hf
  · rw [hl]
    exact hf
/-- a method's contract out of its run: it returns -/
theorem ev_ret {d k : Nat} {ar : List Value} {h : MH} {v : Option Value} {h' : MH} {c s : Nat} {lv : List (Option Value)} (hl : ar.length ≤ m_L k) (ha : okar ar) (hlv : lv0 (m_L k) ar = lv) (hr : Rn (Ev d) k (0, [], lv, [], h, 0, 0) (.inl v, h', c, s)) : Ev (d + 1) k ar h (.inl v, h', c, s) :=
  ⟨⟨hl, ha, fun _ => ⟨v, rfl⟩, fun E hE => by cases hE⟩, by rw [hlv]; exact hr⟩
/-- .. or it throws -/
theorem ev_thr {d k E : Nat} {ar : List Value} {h : MH} {h' : MH} {c s : Nat} {lv : List (Option Value)} (hl : ar.length ≤ m_L k) (ha : okar ar) (hk : m_kd k ≠ 2 ∧ m_hh k = []) (hd : 6 ≤ d + 1) (hlv : lv0 (m_L k) ar = lv) (hr : Rn (Ev d) k (0, [], lv, [], h, 0, 0) (.inr E, h', c, s)) : Ev (d + 1) k ar h (.inr E, h', c, s) :=
  ⟨⟨hl, ha, fun h => h.elim (fun h => absurd h hk.1) (fun h => absurd hk.2 h), fun E hE => hd⟩, by rw [hlv]; exact hr⟩
theorem okar_nil : okar [] := fun _ h => by cases h
theorem okar_cons {v : Value} {l : List Value} (h : v.category = 1) (hl : okar l) : okar (v :: l) := fun w hw => (List.mem_cons.mp hw).elim (fun e => by rw [e]; exact h) (hl w)
section RR
variable {C : Nat → List Value → MH → Res → Prop} {k : Nat} {r : Res} {pc x y z : Nat} {is : List Ent} {lv lv' : List (Option Value)} {st : List Value} {h : MH} {c s : Nat} {S : Env} {fz : Bool} {m m' : M1} {p p' : M2}
theorem q_blk {is' : List Ent} (hl : (m_bl k).lookup pc = some is') (n : Rn C k (pc, is', lv, st, h, c, s) r) : Rn C k (pc, [], lv, st, h, c, s) r := rn_next (by simp only [step, hl, nx]) n
theorem q_iload_n {i : Fin 4} {v : Int32} (hv : lv[(i : Nat)]? = some (some (.int v))) (n : Rn C k (pc + 1, is, lv, .int v :: st, h, c, s) r) : Rn C k (pc, (.iload_n i, 1, x, y, z) :: is, lv, st, h, c, s) r := rn_next (by simp only [step, stepI]; simp only [s_iload, hv, nx]) n
theorem q_iload {i : Nat} {v : Int32} (hv : lv[(i : Nat)]? = some (some (.int v))) (n : Rn C k (pc + 2, is, lv, .int v :: st, h, c, s) r) : Rn C k (pc, (.iload i, 2, x, y, z) :: is, lv, st, h, c, s) r := rn_next (by simp only [step, stepI]; simp only [s_iload, hv, nx]) n
theorem q_aload_n {i : Fin 4} {v : Nat} (hv : lv[(i : Nat)]? = some (some (.ref v))) (n : Rn C k (pc + 1, is, lv, .ref v :: st, h, c, s) r) : Rn C k (pc, (.aload_n i, 1, x, y, z) :: is, lv, st, h, c, s) r := rn_next (by simp only [step, stepI]; simp only [s_aload, hv, nx]) n
theorem q_aload {i : Nat} {v : Nat} (hv : lv[(i : Nat)]? = some (some (.ref v))) (n : Rn C k (pc + 2, is, lv, .ref v :: st, h, c, s) r) : Rn C k (pc, (.aload i, 2, x, y, z) :: is, lv, st, h, c, s) r := rn_next (by simp only [step, stepI]; simp only [s_aload, hv, nx]) n
theorem q_istore_n {i : Fin 4} {v : Int32} (hl : (i : Nat) < lv.length) (hv : lv.set i (some (.int v)) = lv') (n : Rn C k (pc + 1, is, lv', st, h, c, s) r) : Rn C k (pc, (.istore_n i, 1, x, y, z) :: is, lv, .int v :: st, h, c, s) r := rn_next (by simp only [step, stepI]; rw [← hv]; simp only [s_istore, hl, if_true, nx]) n
theorem q_istore {i : Nat} {v : Int32} (hl : (i : Nat) < lv.length) (hv : lv.set i (some (.int v)) = lv') (n : Rn C k (pc + 2, is, lv', st, h, c, s) r) : Rn C k (pc, (.istore i, 2, x, y, z) :: is, lv, .int v :: st, h, c, s) r := rn_next (by simp only [step, stepI]; rw [← hv]; simp only [s_istore, hl, if_true, nx]) n
theorem q_astore_n {i : Fin 4} {v : Nat} (hl : (i : Nat) < lv.length) (hv : lv.set i (some (.ref v)) = lv') (n : Rn C k (pc + 1, is, lv', st, h, c, s) r) : Rn C k (pc, (.astore_n i, 1, x, y, z) :: is, lv, .ref v :: st, h, c, s) r := rn_next (by simp only [step, stepI]; rw [← hv]; simp only [s_astore, hl, if_true, nx]) n
theorem q_astore {i : Nat} {v : Nat} (hl : (i : Nat) < lv.length) (hv : lv.set i (some (.ref v)) = lv') (n : Rn C k (pc + 2, is, lv', st, h, c, s) r) : Rn C k (pc, (.astore i, 2, x, y, z) :: is, lv, .ref v :: st, h, c, s) r := rn_next (by simp only [step, stepI]; rw [← hv]; simp only [s_astore, hl, if_true, nx]) n
theorem q_iinc {i : Nat} {d9 a : Int} (hv : lv[i]? = some (some (.int (iI a)))) (hl : lv.set i (some (.int (iI (a + d9)))) = lv') (n : Rn C k (pc + 3, is, lv', st, h, c, s) r) : Rn C k (pc, (.iinc i d9, 3, x, y, z) :: is, lv, st, h, c, s) r := rn_next (by simp only [step, stepI]; rw [← hl]; simp only [s_iinc, hv, nx]; rw [show iI a + Int32.ofInt d9 = iI (a + d9) from iI_add a d9]) n
theorem q_iconst {v : Int} (n : Rn C k (pc + 1, is, lv, .int (iI v) :: st, h, c, s) r) : Rn C k (pc, (.iconst v, 1, x, y, z) :: is, lv, st, h, c, s) r := rn_next (by rfl) n
theorem q_bipush {v : Int} (hv : (Int8.ofInt v).toInt32 = iI v) (n : Rn C k (pc + 2, is, lv, .int (iI v) :: st, h, c, s) r) : Rn C k (pc, (.bipush v, 2, x, y, z) :: is, lv, st, h, c, s) r := rn_next (by show nx _ _ _ (.int (Int8.ofInt v).toInt32 :: _) _ _ _ = _; rw [hv]; rfl) n
theorem q_sipush {v : Int} (hv : (Int16.ofInt v).toInt32 = iI v) (n : Rn C k (pc + 3, is, lv, .int (iI v) :: st, h, c, s) r) : Rn C k (pc, (.sipush v, 3, x, y, z) :: is, lv, st, h, c, s) r := rn_next (by show nx _ _ _ (.int (Int16.ofInt v).toInt32 :: _) _ _ _ = _; rw [hv]; rfl) n
theorem q_iadd {a b : Int} (n : Rn C k (pc + 1, is, lv, .int (iI (a + b)) :: st, h, c, s) r) : Rn C k (pc, (.iadd, 1, x, y, z) :: is, lv, .int (iI b) :: .int (iI a) :: st, h, c, s) r := rn_next (by rw [← iI_add]; rfl) n
theorem q_isub {a b : Int} (n : Rn C k (pc + 1, is, lv, .int (iI (a - b)) :: st, h, c, s) r) : Rn C k (pc, (.isub, 1, x, y, z) :: is, lv, .int (iI b) :: .int (iI a) :: st, h, c, s) r := rn_next (by rw [← iI_sub]; rfl) n
theorem q_imul {a b : Int} (n : Rn C k (pc + 1, is, lv, .int (iI (a * b)) :: st, h, c, s) r) : Rn C k (pc, (.imul, 1, x, y, z) :: is, lv, .int (iI b) :: .int (iI a) :: st, h, c, s) r := rn_next (by rw [← iI_mul]; rfl) n
theorem q_ineg {a : Int} (n : Rn C k (pc + 1, is, lv, .int (iI (-a)) :: st, h, c, s) r) : Rn C k (pc, (.ineg, 1, x, y, z) :: is, lv, .int (iI a) :: st, h, c, s) r := rn_next (by rw [← iI_neg]; rfl) n
theorem q_irem {a b v : Int} (ha : rg a) (hb : rg b) (h0 : b ≠ 0) (hv : a.tmod b = v) (n : Rn C k (pc + 1, is, lv, .int (iI v) :: st, h, c, s) r) : Rn C k (pc, (.irem, 1, x, y, z) :: is, lv, .int (iI b) :: .int (iI a) :: st, h, c, s) r := rn_next (by subst hv; simp only [step, stepI]; simp only [s_div]; rw [if_neg (by rw [show (0 : Int32) = iI 0 from rfl, iI_eq hb ⟨by omega, by omega⟩]; exact h0)]; rw [iI_rem ha hb]; rfl) n
theorem q_idiv {a b v : Int} (ha : rg a) (hb : rg b) (h0 : b ≠ 0) (hv : a.tdiv b = v) (n : Rn C k (pc + 1, is, lv, .int (iI v) :: st, h, c, s) r) : Rn C k (pc, (.idiv, 1, x, y, z) :: is, lv, .int (iI b) :: .int (iI a) :: st, h, c, s) r := rn_next (by subst hv; simp only [step, stepI]; simp only [s_div]; rw [if_neg (by rw [show (0 : Int32) = iI 0 from rfl, iI_eq hb ⟨by omega, by omega⟩]; exact h0)]; rw [iI_tdiv ha hb]; rfl) n
theorem q_iand {a b v : Int32} (hv : a &&& b = v) (n : Rn C k (pc + 1, is, lv, .int v :: st, h, c, s) r) : Rn C k (pc, (.iand, 1, x, y, z) :: is, lv, .int b :: .int a :: st, h, c, s) r := rn_next (by rw [← hv]; rfl) n
theorem q_ishr {a b v : Int32} (hv : a >>> (b &&& 31) = v) (n : Rn C k (pc + 1, is, lv, .int v :: st, h, c, s) r) : Rn C k (pc, (.ishr, 1, x, y, z) :: is, lv, .int b :: .int a :: st, h, c, s) r := rn_next (by rw [← hv]; rfl) n
theorem q_i2l {a : Int32} (n : Rn C k (pc + 1, is, lv, .long a.toInt64 :: st, h, c, s) r) : Rn C k (pc, (.i2l, 1, x, y, z) :: is, lv, .int a :: st, h, c, s) r := rn_next (by rfl) n
theorem q_lcmp {a b : Int64} (n : Rn C k (pc + 1, is, lv, .int (lg_cmp a b) :: st, h, c, s) r) : Rn C k (pc, (.lcmp, 1, x, y, z) :: is, lv, .long b :: .long a :: st, h, c, s) r := rn_next (by rfl) n
theorem q_dup {v : Value} (hv : v.category = 1) (n : Rn C k (pc + 1, is, lv, v :: v :: st, h, c, s) r) : Rn C k (pc, (.dup, 1, x, y, z) :: is, lv, v :: st, h, c, s) r := rn_next (by simp only [step, stepI]; simp only [s_dup, hv, if_true, nx]) n
theorem q_dup2 {v w : Value} (hv : v.category = 1) (hw : w.category = 1) (n : Rn C k (pc + 1, is, lv, v :: w :: v :: w :: st, h, c, s) r) : Rn C k (pc, (.dup2, 1, x, y, z) :: is, lv, v :: w :: st, h, c, s) r := rn_next (by simp only [step, stepI]; simp only [s_dup2, hv, hw, and_self, if_true, nx]) n
theorem q_pop {v : Value} (hv : v.category = 1) (n : Rn C k (pc + 1, is, lv, st, h, c, s) r) : Rn C k (pc, (.pop, 1, x, y, z) :: is, lv, v :: st, h, c, s) r := rn_next (by simp only [step, stepI]; simp only [s_pop, hv, if_true, nx]) n
theorem q_goto {off : Int} {t : Nat} (ht : mk_tg pc off = some t) (n : Rn C k (t, [], lv, st, h, c, s) r) : Rn C k (pc, (.goto off, 3, x, y, z) :: is, lv, st, h, c, s) r := rn_next (by show jp _ _ _ _ _ _ _ = _; simp only [jp, ht, nx]) n
theorem q_icmp_eq {off : Int} {a b : Int} {t : Nat} (ha : rg a) (hb : rg b) (ht : mk_tg pc off = some t) (n1 : a = b → Rn C k (t, [], lv, st, h, c, s) r) (n2 : a ≠ b → Rn C k (pc + 3, is, lv, st, h, c, s) r) : Rn C k (pc, (.if_icmp .eq off, 3, x, y, z) :: is, lv, .int (iI b) :: .int (iI a) :: st, h, c, s) r := by
  have hf : iI a = iI b ↔ a = b := iI_eq ha hb
  by_cases q : a = b
  · refine rn_next ?_ (n1 q)
    simp only [step, stepI]
    simp only [s_icmp, ht, icm, decide_eq_true_eq, Bool.not_eq_true', decide_eq_false_iff_not, hf, nx]
    rw [if_pos q]
  · refine rn_next ?_ (n2 (by omega))
    simp only [step, stepI]
    simp only [s_icmp, ht, icm, decide_eq_true_eq, Bool.not_eq_true', decide_eq_false_iff_not, hf, nx]
    rw [if_neg q]
theorem q_if_eq {off : Int} {a : Int} {t : Nat} (ha : rg a) (ht : mk_tg pc off = some t) (n1 : a = 0 → Rn C k (t, [], lv, st, h, c, s) r) (n2 : a ≠ 0 → Rn C k (pc + 3, is, lv, st, h, c, s) r) : Rn C k (pc, (.ifCond .eq off, 3, x, y, z) :: is, lv, .int (iI a) :: st, h, c, s) r := by
  have hf : iI a = iI 0 ↔ a = 0 := iI_eq ha ⟨by omega, by omega⟩
  by_cases q : a = 0
  · refine rn_next ?_ (n1 q)
    simp only [step, stepI]
    have z0 : (0 : Int32) = iI 0 := rfl
    simp only [s_if, ht, icm, z0, decide_eq_true_eq, Bool.not_eq_true', decide_eq_false_iff_not, hf, nx]
    rw [if_pos q]
  · refine rn_next ?_ (n2 (by omega))
    simp only [step, stepI]
    have z0 : (0 : Int32) = iI 0 := rfl
    simp only [s_if, ht, icm, z0, decide_eq_true_eq, Bool.not_eq_true', decide_eq_false_iff_not, hf, nx]
    rw [if_neg q]
theorem q_icmp_ne {off : Int} {a b : Int} {t : Nat} (ha : rg a) (hb : rg b) (ht : mk_tg pc off = some t) (n1 : a ≠ b → Rn C k (t, [], lv, st, h, c, s) r) (n2 : a = b → Rn C k (pc + 3, is, lv, st, h, c, s) r) : Rn C k (pc, (.if_icmp .ne off, 3, x, y, z) :: is, lv, .int (iI b) :: .int (iI a) :: st, h, c, s) r := by
  have hf : iI a = iI b ↔ a = b := iI_eq ha hb
  by_cases q : a ≠ b
  · refine rn_next ?_ (n1 q)
    simp only [step, stepI]
    simp only [s_icmp, ht, icm, decide_eq_true_eq, Bool.not_eq_true', decide_eq_false_iff_not, hf, nx]
    rw [if_pos q]
  · refine rn_next ?_ (n2 (by omega))
    simp only [step, stepI]
    simp only [s_icmp, ht, icm, decide_eq_true_eq, Bool.not_eq_true', decide_eq_false_iff_not, hf, nx]
    rw [if_neg q]
theorem q_if_ne {off : Int} {a : Int} {t : Nat} (ha : rg a) (ht : mk_tg pc off = some t) (n1 : a ≠ 0 → Rn C k (t, [], lv, st, h, c, s) r) (n2 : a = 0 → Rn C k (pc + 3, is, lv, st, h, c, s) r) : Rn C k (pc, (.ifCond .ne off, 3, x, y, z) :: is, lv, .int (iI a) :: st, h, c, s) r := by
  have hf : iI a = iI 0 ↔ a = 0 := iI_eq ha ⟨by omega, by omega⟩
  by_cases q : a ≠ 0
  · refine rn_next ?_ (n1 q)
    simp only [step, stepI]
    have z0 : (0 : Int32) = iI 0 := rfl
    simp only [s_if, ht, icm, z0, decide_eq_true_eq, Bool.not_eq_true', decide_eq_false_iff_not, hf, nx]
    rw [if_pos q]
  · refine rn_next ?_ (n2 (by omega))
    simp only [step, stepI]
    have z0 : (0 : Int32) = iI 0 := rfl
    simp only [s_if, ht, icm, z0, decide_eq_true_eq, Bool.not_eq_true', decide_eq_false_iff_not, hf, nx]
    rw [if_neg q]
theorem q_icmp_lt {off : Int} {a b : Int} {t : Nat} (ha : rg a) (hb : rg b) (ht : mk_tg pc off = some t) (n1 : a < b → Rn C k (t, [], lv, st, h, c, s) r) (n2 : b ≤ a → Rn C k (pc + 3, is, lv, st, h, c, s) r) : Rn C k (pc, (.if_icmp .lt off, 3, x, y, z) :: is, lv, .int (iI b) :: .int (iI a) :: st, h, c, s) r := by
  have hf : iI a < iI b ↔ a < b := iI_lt ha hb
  by_cases q : a < b
  · refine rn_next ?_ (n1 q)
    simp only [step, stepI]
    simp only [s_icmp, ht, icm, decide_eq_true_eq, Bool.not_eq_true', decide_eq_false_iff_not, hf, nx]
    rw [if_pos q]
  · refine rn_next ?_ (n2 (by omega))
    simp only [step, stepI]
    simp only [s_icmp, ht, icm, decide_eq_true_eq, Bool.not_eq_true', decide_eq_false_iff_not, hf, nx]
    rw [if_neg q]
theorem q_if_lt {off : Int} {a : Int} {t : Nat} (ha : rg a) (ht : mk_tg pc off = some t) (n1 : a < 0 → Rn C k (t, [], lv, st, h, c, s) r) (n2 : 0 ≤ a → Rn C k (pc + 3, is, lv, st, h, c, s) r) : Rn C k (pc, (.ifCond .lt off, 3, x, y, z) :: is, lv, .int (iI a) :: st, h, c, s) r := by
  have hf : iI a < iI 0 ↔ a < 0 := iI_lt ha ⟨by omega, by omega⟩
  by_cases q : a < 0
  · refine rn_next ?_ (n1 q)
    simp only [step, stepI]
    have z0 : (0 : Int32) = iI 0 := rfl
    simp only [s_if, ht, icm, z0, decide_eq_true_eq, Bool.not_eq_true', decide_eq_false_iff_not, hf, nx]
    rw [if_pos q]
  · refine rn_next ?_ (n2 (by omega))
    simp only [step, stepI]
    have z0 : (0 : Int32) = iI 0 := rfl
    simp only [s_if, ht, icm, z0, decide_eq_true_eq, Bool.not_eq_true', decide_eq_false_iff_not, hf, nx]
    rw [if_neg q]
theorem q_icmp_ge {off : Int} {a b : Int} {t : Nat} (ha : rg a) (hb : rg b) (ht : mk_tg pc off = some t) (n1 : b ≤ a → Rn C k (t, [], lv, st, h, c, s) r) (n2 : a < b → Rn C k (pc + 3, is, lv, st, h, c, s) r) : Rn C k (pc, (.if_icmp .ge off, 3, x, y, z) :: is, lv, .int (iI b) :: .int (iI a) :: st, h, c, s) r := by
  have hf : iI b ≤ iI a ↔ b ≤ a := iI_le hb ha
  by_cases q : b ≤ a
  · refine rn_next ?_ (n1 q)
    simp only [step, stepI]
    simp only [s_icmp, ht, icm, decide_eq_true_eq, Bool.not_eq_true', decide_eq_false_iff_not, hf, nx]
    rw [if_pos q]
  · refine rn_next ?_ (n2 (by omega))
    simp only [step, stepI]
    simp only [s_icmp, ht, icm, decide_eq_true_eq, Bool.not_eq_true', decide_eq_false_iff_not, hf, nx]
    rw [if_neg q]
theorem q_if_ge {off : Int} {a : Int} {t : Nat} (ha : rg a) (ht : mk_tg pc off = some t) (n1 : 0 ≤ a → Rn C k (t, [], lv, st, h, c, s) r) (n2 : a < 0 → Rn C k (pc + 3, is, lv, st, h, c, s) r) : Rn C k (pc, (.ifCond .ge off, 3, x, y, z) :: is, lv, .int (iI a) :: st, h, c, s) r := by
  have hf : iI 0 ≤ iI a ↔ 0 ≤ a := iI_le ⟨by omega, by omega⟩ ha
  by_cases q : 0 ≤ a
  · refine rn_next ?_ (n1 q)
    simp only [step, stepI]
    have z0 : (0 : Int32) = iI 0 := rfl
    simp only [s_if, ht, icm, z0, decide_eq_true_eq, Bool.not_eq_true', decide_eq_false_iff_not, hf, nx]
    rw [if_pos q]
  · refine rn_next ?_ (n2 (by omega))
    simp only [step, stepI]
    have z0 : (0 : Int32) = iI 0 := rfl
    simp only [s_if, ht, icm, z0, decide_eq_true_eq, Bool.not_eq_true', decide_eq_false_iff_not, hf, nx]
    rw [if_neg q]
theorem q_icmp_gt {off : Int} {a b : Int} {t : Nat} (ha : rg a) (hb : rg b) (ht : mk_tg pc off = some t) (n1 : b < a → Rn C k (t, [], lv, st, h, c, s) r) (n2 : a ≤ b → Rn C k (pc + 3, is, lv, st, h, c, s) r) : Rn C k (pc, (.if_icmp .gt off, 3, x, y, z) :: is, lv, .int (iI b) :: .int (iI a) :: st, h, c, s) r := by
  have hf : iI b < iI a ↔ b < a := iI_lt hb ha
  by_cases q : b < a
  · refine rn_next ?_ (n1 q)
    simp only [step, stepI]
    simp only [s_icmp, ht, icm, decide_eq_true_eq, Bool.not_eq_true', decide_eq_false_iff_not, hf, nx]
    rw [if_pos q]
  · refine rn_next ?_ (n2 (by omega))
    simp only [step, stepI]
    simp only [s_icmp, ht, icm, decide_eq_true_eq, Bool.not_eq_true', decide_eq_false_iff_not, hf, nx]
    rw [if_neg q]
theorem q_if_gt {off : Int} {a : Int} {t : Nat} (ha : rg a) (ht : mk_tg pc off = some t) (n1 : 0 < a → Rn C k (t, [], lv, st, h, c, s) r) (n2 : a ≤ 0 → Rn C k (pc + 3, is, lv, st, h, c, s) r) : Rn C k (pc, (.ifCond .gt off, 3, x, y, z) :: is, lv, .int (iI a) :: st, h, c, s) r := by
  have hf : iI 0 < iI a ↔ 0 < a := iI_lt ⟨by omega, by omega⟩ ha
  by_cases q : 0 < a
  · refine rn_next ?_ (n1 q)
    simp only [step, stepI]
    have z0 : (0 : Int32) = iI 0 := rfl
    simp only [s_if, ht, icm, z0, decide_eq_true_eq, Bool.not_eq_true', decide_eq_false_iff_not, hf, nx]
    rw [if_pos q]
  · refine rn_next ?_ (n2 (by omega))
    simp only [step, stepI]
    have z0 : (0 : Int32) = iI 0 := rfl
    simp only [s_if, ht, icm, z0, decide_eq_true_eq, Bool.not_eq_true', decide_eq_false_iff_not, hf, nx]
    rw [if_neg q]
theorem q_icmp_le {off : Int} {a b : Int} {t : Nat} (ha : rg a) (hb : rg b) (ht : mk_tg pc off = some t) (n1 : a ≤ b → Rn C k (t, [], lv, st, h, c, s) r) (n2 : b < a → Rn C k (pc + 3, is, lv, st, h, c, s) r) : Rn C k (pc, (.if_icmp .le off, 3, x, y, z) :: is, lv, .int (iI b) :: .int (iI a) :: st, h, c, s) r := by
  have hf : iI a ≤ iI b ↔ a ≤ b := iI_le ha hb
  by_cases q : a ≤ b
  · refine rn_next ?_ (n1 q)
    simp only [step, stepI]
    simp only [s_icmp, ht, icm, decide_eq_true_eq, Bool.not_eq_true', decide_eq_false_iff_not, hf, nx]
    rw [if_pos q]
  · refine rn_next ?_ (n2 (by omega))
    simp only [step, stepI]
    simp only [s_icmp, ht, icm, decide_eq_true_eq, Bool.not_eq_true', decide_eq_false_iff_not, hf, nx]
    rw [if_neg q]
theorem q_if_le {off : Int} {a : Int} {t : Nat} (ha : rg a) (ht : mk_tg pc off = some t) (n1 : a ≤ 0 → Rn C k (t, [], lv, st, h, c, s) r) (n2 : 0 < a → Rn C k (pc + 3, is, lv, st, h, c, s) r) : Rn C k (pc, (.ifCond .le off, 3, x, y, z) :: is, lv, .int (iI a) :: st, h, c, s) r := by
  have hf : iI a ≤ iI 0 ↔ a ≤ 0 := iI_le ha ⟨by omega, by omega⟩
  by_cases q : a ≤ 0
  · refine rn_next ?_ (n1 q)
    simp only [step, stepI]
    have z0 : (0 : Int32) = iI 0 := rfl
    simp only [s_if, ht, icm, z0, decide_eq_true_eq, Bool.not_eq_true', decide_eq_false_iff_not, hf, nx]
    rw [if_pos q]
  · refine rn_next ?_ (n2 (by omega))
    simp only [step, stepI]
    have z0 : (0 : Int32) = iI 0 := rfl
    simp only [s_if, ht, icm, z0, decide_eq_true_eq, Bool.not_eq_true', decide_eq_false_iff_not, hf, nx]
    rw [if_neg q]

theorem getD_le {l : List (Nat × Nat)} (h : ∀ q ∈ l, q.2 ≤ 100000) (i : Nat) : (l.getD i (0, 0)).2 ≤ 100000 := by
  rw [List.getD_eq_getElem?_getD]
  cases q : l[i]? with
  | none => exact Nat.zero_le _
  | some v => exact h v (List.mem_of_getElem? q)
theorem SH_w {a t w : Nat} (hs : SH a = (t, w)) : w ≤ 100000 := by
  have h : (SH a).2 ≤ 100000 := by
    unfold SH
    split
    · exact getD_le (by decide) _
    · split
      · exact getD_le (by decide) _
      · exact Nat.zero_le _
  rw [hs] at h
  exact h
/-- fields -/
theorem q_getI {ix a ci w : Nat} {v : Int} (hs : SH a = (10 + ci, w)) (hf : (sf ci)[y]? = some false) (hv : vF (m a y) = v) (n : Rn C k (pc + 3, is, lv, .int (iI v) :: st, hpM S fz (m, p), c, s) r) : Rn C k (pc, (.getfield ix, 3, ci, y, z) :: is, lv, .ref a :: st, hpM S fz (m, p), c, s) r := rn_next (by
  subst hv
  simp only [step, stepI]
  simp only [s_getf, hp_obj hs, flds_at hf, nx]
  rfl) n
theorem q_getR {ix a ci w q : Nat} (hs : SH a = (10 + ci, w)) (hf : (sf ci)[y]? = some true) (hq : p a y = some q) (n : Rn C k (pc + 3, is, lv, .ref q :: st, hpM S fz (m, p), c, s) r) : Rn C k (pc, (.getfield ix, 3, ci, y, z) :: is, lv, .ref a :: st, hpM S fz (m, p), c, s) r := rn_next (by
  simp only [step, stepI]
  simp only [s_getf, hp_obj hs, flds_at hf, hq, nx]
  rfl) n
theorem q_putI {ix a ci w : Nat} {v : Int} {xx : F} (hs : SH a = (10 + ci, w)) (hf : (sf ci)[y]? = some false) (hz : z % 2 = 0) (hv : v = vF xx) (n : Rn C k (pc + 3, is, lv, st, hpM S fz (w1 m a y xx, p), c, s) r) : Rn C k (pc, (.putfield ix, 3, ci, y, z) :: is, lv, .int (iI v) :: .ref a :: st, hpM S fz (m, p), c, s) r := rn_next (by
  subst hv
  simp only [step, stepI]
  have hl : y < (flds ci a (m, p)).length := by rw [flds_len]; exact (List.getElem?_eq_some_iff.mp hf).1
  simp only [s_putf, hp_obj hs, hl, tyv, hz, hup_F1 hs hf, nx]
  rfl) n
theorem q_putR {ix a ci w q : Nat} (hs : SH a = (10 + ci, w)) (hf : (sf ci)[y]? = some true) (hz : z % 2 = 1) (n : Rn C k (pc + 3, is, lv, st, hpM S fz (m, w2 p a y (some q)), c, s) r) : Rn C k (pc, (.putfield ix, 3, ci, y, z) :: is, lv, .ref q :: .ref a :: st, hpM S fz (m, p), c, s) r := rn_next (by
  simp only [step, stepI]
  have hl : y < (flds ci a (m, p)).length := by rw [flds_len]; exact (List.getElem?_eq_some_iff.mp hf).1
  simp only [s_putf, hp_obj hs, hl, tyv, hz, hup_F2 hs hf, nx]
  rfl) n
/-- arrays -/
theorem q_iald {a w j : Nat} {e v : Int} (hs : SH a = (1, w)) (hj : e = (j : Int)) (hl : j < w) (hv : vF (m a j) = v) (n : Rn C k (pc + 1, is, lv, .int (iI v) :: st, hpM S fz (m, p), c, s) r) : Rn C k (pc, (.iaload, 1, x, y, z) :: is, lv, .int (iI e) :: .ref a :: st, hpM S fz (m, p), c, s) r := rn_next (by
  subst hj
  subst hv
  have hw := SH_w hs
  simp only [step, stepI]
  simp only [s_iald, hp_I hs]
  rw [if_neg (iI_in hl hw), iI_clamp (by omega)]
  rfl) n
theorem q_iast {a w j : Nat} {e v : Int} {xx : F} (hs : SH a = (1, w)) (hj : e = (j : Int)) (hl : j < w) (hv : v = vF xx) (n : Rn C k (pc + 1, is, lv, st, hpM S fz (w1 m a j xx, p), c, s) r) : Rn C k (pc, (.iastore, 1, x, y, z) :: is, lv, .int (iI v) :: .int (iI e) :: .ref a :: st, hpM S fz (m, p), c, s) r := rn_next (by
  subst hj
  subst hv
  have hw := SH_w hs
  simp only [step, stepI]
  simp only [s_iast, hp_I hs]
  rw [if_neg (SH_ne hs (by decide)), if_neg (iI_in hl hw), iI_clamp (by omega), hup_u1 hs]
  rfl) n
theorem q_aald {a w j q t : Nat} {e : Int} (hs : SH a = (3 + t, w)) (ht : t < 2) (hj : e = (j : Int)) (hl : j < w) (hq : p a j = some q) (n : Rn C k (pc + 1, is, lv, .ref q :: st, hpM S fz (m, p), c, s) r) : Rn C k (pc, (.aaload, 1, x, y, z) :: is, lv, .int (iI e) :: .ref a :: st, hpM S fz (m, p), c, s) r := rn_next (by
  subst hj
  have hw := SH_w hs
  simp only [step, stepI]
  simp only [s_aald, hp_Q hs ht]
  rw [if_neg (iI_in hl hw), iI_clamp (by omega), hq]
  rfl) n
theorem q_aast {a w j q w' : Nat} {e : Int} (hs : SH a = (3, w)) (hj : e = (j : Int)) (hl : j < w) (hq : SH q = (1, w')) (n : Rn C k (pc + 1, is, lv, st, hpM S fz (m, w2 p a j (some q)), c, s) r) : Rn C k (pc, (.aastore, 1, x, y, z) :: is, lv, .ref q :: .int (iI e) :: .ref a :: st, hpM S fz (m, p), c, s) r := rn_next (by
  subst hj
  have hw := SH_w hs
  simp only [step, stepI]
  have hs' : SH a = (3 + 0, w) := hs
  simp only [s_aast, hp_Q hs' (by decide : 0 < 2), hp_I hq]
  have h0 : q ≠ 0 := SH_ne hq (by decide)
  have h1 := iI_in hl hw
  rw [if_neg (fun z => z.elim (fun z => h1 (Or.inl z)) (fun z => z.elim (fun z => h1 (Or.inr z)) h0)), iI_clamp (by omega), hup_Q hs' (by decide)]
  rfl) n
theorem q_ireturn {v : Int} (hx : x = 0 ∨ v = 0 ∨ v = 1) : Rn C k (pc, (.ireturn, 1, x, y, z) :: is, lv, [.int (iI v)], h, c, s) (.inl (some (.int (iI v))), h, c, s) := rn_end (by
  simp only [step, stepI]
  have hx' : x = 0 ∨ iI v = 0 ∨ iI v = 1 := by
    rcases hx with hx | rfl | rfl
    · exact Or.inl hx
    · exact Or.inr (Or.inl rfl)
    · exact Or.inr (Or.inr rfl)
  simp only [s_iret]
  rw [if_pos hx']
  rfl)
theorem q_areturn {a : Nat} : Rn C k (pc, (.areturn, 1, x, y, z) :: is, lv, [.ref a], h, c, s) (.inl (some (.ref a)), h, c, s) := rn_end rfl
theorem q_return : Rn C k (pc, (.return_, 1, x, y, z) :: is, lv, [], h, c, s) (.inl none, h, c, s) := rn_end rfl
theorem inv_eq {q m : Nat} {ar rest : List Value} (hst : st = ar.reverse ++ rest) (hm : ar.length = m) (ha : okar ar) (hr : (rest.map fun v => v.category).sum ≤ 8) : s_inv q m pc is lv st h c s = some (.inr (.inr (q, ar, (pc, is, lv, rest, h, c, s)))) := by
  subst hst
  have hl : ar.reverse.length = m := by rw [List.length_reverse]; exact hm
  have e1 : (ar.reverse ++ rest).take m = ar.reverse := by rw [← hl, List.take_left]
  have e2 : (ar.reverse ++ rest).drop m = rest := by rw [← hl, List.drop_left]
  unfold s_inv
  rw [e1, e2, List.reverse_reverse]
  refine if_pos ⟨by rw [List.length_append]; omega, hr, ?_⟩
  rw [List.all_eq_true]
  intro v hv
  have := ha v (List.mem_reverse.mp hv)
  simp [this]
theorem q_invS {ix : Nat} {ar rest : List Value} {v : Option Value} {h' : MH} {c' s' : Nat} (hq : C x ar h (.inl v, h', c', s')) (hst : st = ar.reverse ++ rest) (hm : ar.length = y) (ha : okar ar) (hr : (rest.map fun v => v.category).sum ≤ 8) (n : Rn C k (pc + 3, is, lv, v.toList ++ rest, h', c + c', s + s') r) : Rn C k (pc, (.invokestatic ix, 3, x, y, z) :: is, lv, st, h, c, s) r := rn_call (inv_eq hst hm ha hr) hq n
theorem invO_eq {ix a w : Nat} {ar rest : List Value} (hs : SH a = (10 + z, w)) (hst : st = ar.reverse ++ .ref a :: rest) (hm : ar.length = y) (ha : okar ar) (hr : (rest.map fun v => v.category).sum ≤ 8) : step k (pc, (.invokevirtual ix, 3, x, y, z) :: is, lv, st, hpM S fz (m, p), c, s) = some (.inr (.inr (x, .ref a :: ar, (pc + 3, is, lv, rest, hpM S fz (m, p), c, s)))) := by
  simp only [step, stepI]
  have e1 : st[y]? = some (.ref a) := by
    rw [hst, ← hm, List.getElem?_append_right (by rw [List.length_reverse]; exact Nat.le_refl _), List.length_reverse, Nat.sub_self]
    rfl
  simp only [s_invO, e1, hp_obj hs, if_true]
  exact inv_eq (ar := .ref a :: ar) (by rw [hst]; simp) (by rw [List.length_cons, hm]) (okar_cons rfl ha) hr
theorem q_invV {ix a w : Nat} {ar rest : List Value} {v : Option Value} {h' : MH} {c' s' : Nat} (hq : C x (.ref a :: ar) (hpM S fz (m, p)) (.inl v, h', c', s')) (hs : SH a = (10 + z, w)) (hst : st = ar.reverse ++ .ref a :: rest) (hm : ar.length = y) (ha : okar ar) (hr : (rest.map fun v => v.category).sum ≤ 8) (n : Rn C k (pc + 3, is, lv, v.toList ++ rest, h', c + c', s + s') r) : Rn C k (pc, (.invokevirtual ix, 3, x, y, z) :: is, lv, st, hpM S fz (m, p), c, s) r := rn_call (invO_eq hs hst hm ha hr) hq n
theorem q_invSx {ix E : Nat} {ar rest : List Value} {h' : MH} {c' s' : Nat} (hq : C x ar h (.inr E, h', c', s')) (hh : m_hh k = []) (hst : st = ar.reverse ++ rest) (hm : ar.length = y) (ha : okar ar) (hr : (rest.map fun v => v.category).sum ≤ 8) : Rn C k (pc, (.invokestatic ix, 3, x, y, z) :: is, lv, st, h, c, s) (.inr E, h', c + c', s + s') := rn_thrown hh (inv_eq hst hm ha hr) hq
theorem q_invVx {ix E a w : Nat} {ar rest : List Value} {h' : MH} {c' s' : Nat} (hq : C x (.ref a :: ar) (hpM S fz (m, p)) (.inr E, h', c', s')) (hh : m_hh k = []) (hs : SH a = (10 + z, w)) (hst : st = ar.reverse ++ .ref a :: rest) (hm : ar.length = y) (ha : okar ar) (hr : (rest.map fun v => v.category).sum ≤ 8) : Rn C k (pc, (.invokevirtual ix, 3, x, y, z) :: is, lv, st, hpM S fz (m, p), c, s) (.inr E, h', c + c', s + s') := rn_thrown hh (invO_eq hs hst hm ha hr) hq
/-- a throw -/
theorem q_throw {ix si ic : Nat} {a1 a2 a3 a4 : Nat × Nat × Nat} {tl : List Ent} (hx : ¬ x < 8) (ht : (m_cn k, x - 100, ix, ic, si) ∈ thrT) (his : is = (.dup, 1, a1) :: (.ldc si, 2, a2) :: (.invokespecial ic, 3, a3) :: (.athrow, 1, a4) :: tl) : Rn C k (pc, (.new ix, 3, x, y, z) :: is, lv, [], h, c, s) (.inr (x - 100), hth h, c + 1, s + 6) := rn_end (by
  subst his
  simp only [step, stepI]
  simp only [s_new]
  rw [if_neg hx, if_pos ⟨ht, trivial⟩])
theorem q_throwW {ix si ic : Nat} {a1 a2 a3 a4 : Nat × Nat × Nat} {tl : List Ent} (hx : ¬ x < 8) (ht : (m_cn k, x - 100, ix, ic, si) ∈ thrT) (his : is = (.dup, 1, a1) :: (.ldc_w si, 3, a2) :: (.invokespecial ic, 3, a3) :: (.athrow, 1, a4) :: tl) : Rn C k (pc, (.new ix, 3, x, y, z) :: is, lv, [], h, c, s) (.inr (x - 100), hth h, c + 1, s + 6) := rn_end (by
  subst his
  simp only [step, stepI]
  simp only [s_new]
  rw [if_neg hx, if_pos ⟨ht, trivial⟩])
theorem q_table {d9 lo hi : Int} {offs : Array Int} {len t : Nat} {v : Int32} (ht : (if v.toInt < lo ∨ hi < v.toInt then mk_tg pc d9 else (offs[(v.toInt - lo).toNat]?).bind (mk_tg pc)) = some t) (n : Rn C k (t, [], lv, st, h, c, s) r) : Rn C k (pc, (.tableswitch d9 lo hi offs, len, x, y, z) :: is, lv, .int v :: st, h, c, s) r := rn_next (by
  simp only [step, stepI]
  simp only [s_table, jp, nx]
  by_cases q : v.toInt < lo ∨ hi < v.toInt
  · rw [if_pos q] at ht
    rw [if_pos q, ht]
  · rw [if_neg q] at ht
    rw [if_neg q]
    cases ho : offs[(v.toInt - lo).toNat]? with
    | none => rw [ho] at ht; cases ht
    | some o =>
      rw [ho] at ht
      simp only [Option.bind_some] at ht
      simp only [ht]) n
end RR
/-- a contract: method k returns and leaves what Q says -/
def Ct (d k : Nat) (S : Env) (fz : Bool) (ar : List Value) (m : M1) (p : M2) (Q : Option Value → M1 → M2 → Prop) : Prop := ∃ v m' p', Ev d k ar (hpM S fz (m, p)) (.inl v, hpM S fz (m', p'), 0, 0) ∧ Q v m' p'
/-- a contract: method k throws E and changes nothing -/
def ths (S : Env) : Env := (S.1 + 1, S.2)
def Tw (d k : Nat) (S : Env) (fz : Bool) (ar : List Value) (m : M1) (p : M2) (E : Nat) : Prop := Ev d k ar (hpM S fz (m, p)) (.inr E, hpM (ths S) fz (m, p), 1, 6)
theorem hth_hp {S : Env} {fz : Bool} {m : M1} {p : M2} : hth (hpM S fz (m, p)) = hpM (ths S) fz (m, p) := rfl
end
section
/-! NUMBERS: the remainders by 10007. -/
theorem vF_lt (x : F) : vF x < 10007 := by unfold vF; omega
theorem vF_ge (x : F) : 0 ≤ vF x := by unfold vF; omega
theorem rg_vF (x : F) : rg (vF x) := ⟨by have := vF_ge x; omega, by have := vF_lt x; omega⟩
theorem vF_inj {x y : F} (h : vF x = vF y) : x = y := by
  apply Fin.eq_of_val_eq
  unfold vF at h
  omega
theorem vF_0 : vF 0 = 0 := rfl
theorem vF_1 : vF 1 = 1 := rfl
theorem vF_eq0 {x : F} : vF x = 0 ↔ x = 0 := ⟨fun h => vF_inj (h.trans vF_0.symm), fun h => by rw [h]; rfl⟩
theorem vF_eqz {x y : F} : vF x = vF y ↔ x = y := ⟨vF_inj, fun h => by rw [h]⟩
/-- the remainder of a whole number -/
def toF (z : Int) : F := ⟨(z % 10007).toNat, by omega⟩
theorem vF_toF (z : Int) : vF (toF z) = z % 10007 := by unfold vF toF; show (((z % 10007).toNat : Nat) : Int) = _; omega
theorem toF_vF (x : F) : toF (vF x) = x := vF_inj (by rw [vF_toF]; have := vF_ge x; have := vF_lt x; omega)
theorem tmod_vF {z : Int} (h : 0 ≤ z) : z.tmod 10007 = vF (toF z) := by rw [vF_toF, Int.tmod_eq_emod_of_nonneg h]
theorem toF_eq {a b : Int} (h : a % 10007 = b % 10007) : toF a = toF b := vF_inj (by rw [vF_toF, vF_toF, h])
theorem vF_add' (a b : F) : vF (a + b) = (vF a + vF b) % 10007 := by
  unfold vF
  rw [Fin.val_add]
  omega
theorem vF_mul' (a b : F) : vF (a * b) = (vF a * vF b) % 10007 := by
  unfold vF
  rw [Fin.val_mul, ← Int.natCast_mul]
  omega
theorem vF_sub' (a b : F) : vF (a - b) = (vF a - vF b) % 10007 := by
  unfold vF
  rw [Fin.sub_def]
  show (((10007 - b.val + a.val) % 10007 : Nat) : Int) = _
  omega
theorem vF_neg' (a : F) : vF (-a) = (-vF a) % 10007 := by
  have h : -a = 0 - a := by grind
  rw [h, vF_sub', vF_0]
  congr 1
  omega
theorem toF_add (a b : Int) : toF (a + b) = toF a + toF b := vF_inj (by rw [vF_toF, vF_add', vF_toF, vF_toF, Int.emod_add_emod, Int.add_emod_emod])
theorem toF_mul (a b : Int) : toF (a * b) = toF a * toF b := vF_inj (by rw [vF_toF, vF_mul', vF_toF, vF_toF, Int.mul_emod])
theorem toF_sub (a b : Int) : toF (a - b) = toF a - toF b := vF_inj (by rw [vF_toF, vF_sub', vF_toF, vF_toF, Int.emod_sub_emod, Int.sub_emod_emod])
theorem toF_neg (a : Int) : toF (-a) = -toF a := vF_inj (by rw [vF_toF, vF_neg', vF_toF]; omega)
theorem toF_0 : toF 0 = 0 := rfl
theorem toF_1 : toF 1 = 1 := rfl
theorem toF_M : toF 10007 = 0 := rfl
theorem vF_plus (a b : F) : (vF a + vF b).tmod 10007 = vF (a + b) := by
  rw [tmod_vF (by have := vF_ge a; have := vF_ge b; omega), toF_add, toF_vF, toF_vF]
theorem vF_times (a b : F) : (vF a * vF b).tmod 10007 = vF (a * b) := by
  rw [tmod_vF (Int.mul_nonneg (vF_ge a) (vF_ge b)), toF_mul, toF_vF, toF_vF]
theorem vF_minus (a b : F) : (vF a + 10007 - vF b).tmod 10007 = vF (a - b) := by
  rw [tmod_vF (by have := vF_ge a; have := vF_lt b; omega), toF_sub, toF_add, toF_vF, toF_vF, toF_M]
  have h : a + 0 - b = a - b := by grind
  rw [h]
theorem rg_plus (a b : F) : rg (vF a + vF b) := ⟨by have := vF_ge a; have := vF_ge b; omega, by have := vF_lt a; have := vF_lt b; omega⟩
theorem vF_mul_lt (a b : F) : vF a * vF b ≤ 100120036 := by
  have h1 := Int.mul_le_mul (show vF a ≤ 10006 by have := vF_lt a; omega) (show vF b ≤ 10006 by have := vF_lt b; omega) (vF_ge b) (by omega)
  omega
theorem rg_times (a b : F) : rg (vF a * vF b) := ⟨by have := Int.mul_nonneg (vF_ge a) (vF_ge b); omega, by have := vF_mul_lt a b; omega⟩
theorem rg_minus (a b : F) : rg (vF a + 10007 - vF b) := ⟨by have := vF_ge a; have := vF_lt b; omega, by have := vF_lt a; have := vF_ge b; omega⟩
/-- counts as remainders -/
def nF (n : Nat) : F := Fin.ofNat 10007 n
theorem vF_nF {n : Nat} (h : n < 10007) : vF (nF n) = (n : Int) := by
  unfold vF nF
  show ((n % 10007 : Nat) : Int) = _
  omega
/-- loops -/
theorem loop_up {P : Nat → Prop} {n : Nat} (hn : P n) (hs : ∀ i, i < n → P (i + 1) → P i) : ∀ i, i ≤ n → P i := by
  intro i hi
  obtain ⟨j, hj⟩ : ∃ j, n = i + j := ⟨n - i, by omega⟩
  induction j generalizing i with
  | zero =>
    have e : n = i := by omega
    rw [← e]
    exact hn
  | succ j ih => exact hs i (by omega) (ih (i + 1) (by omega) (by omega))
theorem loop_down {P : Nat → Prop} (h0 : P 0) (hs : ∀ i, P i → P (i + 1)) : ∀ i, P i := by
  intro i
  induction i with
  | zero => exact h0
  | succ i ih => exact hs i ih
def Rw (C : Nat → List Value → MH → Res → Prop) (k : Nat) (g : Cfg) (Q : Res → Prop) : Prop := ∃ r, Rn C k g r ∧ Q r
theorem lcons {a b : Option Value} {l l' : List (Option Value)} (h : a = b) (h' : l = l') : a :: l = b :: l' := by rw [h, h']
theorem lvI {a b : Int} (h : a = b) : some (Value.int (iI a)) = some (Value.int (iI b)) := by rw [h]
theorem lvR {a b : Nat} (h : a = b) : some (Value.ref a) = some (Value.ref b) := by rw [h]
theorem hp_cast {S : Env} {fz : Bool} {m m' : M1} {p p' : M2} (h : m = m') (h' : p = p') : hpM S fz (m, p) = hpM S fz (m', p') := by rw [h, h']
/-- the end of a method that returns -/
def RQ (S : Env) (fz : Bool) (Q : Option Value → M1 → M2 → Prop) : Res → Prop := fun r => ∃ v m' p', r = (.inl v, hpM S fz (m', p'), 0, 0) ∧ Q v m' p'
theorem ct_run {d k : Nat} {S : Env} {fz : Bool} {ar : List Value} {m : M1} {p : M2} {Q : Option Value → M1 → M2 → Prop} {lv : List (Option Value)} (hl : ar.length ≤ m_L k) (ha : okar ar) (hlv : lv0 (m_L k) ar = lv) (hr : Rw (Ev d) k (0, [], lv, [], hpM S fz (m, p), 0, 0) (RQ S fz Q)) : Ct (d + 1) k S fz ar m p Q := by
  obtain ⟨r, hr, v, m', p', rfl, hq⟩ := hr
  exact ⟨v, m', p', ev_ret hl ha hlv hr, hq⟩
/-- sums -/
def sm : Nat → (Nat → F) → F
  | 0, _ => 0
  | n + 1, f => sm n f + f n
theorem sm_0 {f : Nat → F} : sm 0 f = 0 := rfl
theorem sm_s {n : Nat} {f : Nat → F} : sm (n + 1) f = sm n f + f n := rfl
theorem sm_congr {n : Nat} {f g : Nat → F} (h : ∀ i, i < n → f i = g i) : sm n f = sm n g := by
  induction n with
  | zero => rfl
  | succ n ih => rw [sm_s, sm_s, ih (fun i hi => h i (by omega)), h n (by omega)]
theorem sm_add {n : Nat} {f g : Nat → F} : sm n (fun i => f i + g i) = sm n f + sm n g := by
  induction n with
  | zero => rfl
  | succ n ih => rw [sm_s, sm_s, sm_s, ih]; grind
theorem sm_mul {n : Nat} {a : F} {f : Nat → F} : sm n (fun i => a * f i) = a * sm n f := by
  induction n with
  | zero => rw [sm_0, sm_0]; grind
  | succ n ih => rw [sm_s, sm_s, ih]; grind
theorem sm_zero {n : Nat} {f : Nat → F} (h : ∀ i, i < n → f i = 0) : sm n f = 0 := by
  induction n with
  | zero => rfl
  | succ n ih => rw [sm_s, ih (fun i hi => h i (by omega)), h n (by omega)]; rfl
theorem sm_swap {n k : Nat} {f : Nat → Nat → F} : sm n (fun i => sm k (fun j => f i j)) = sm k (fun j => sm n (fun i => f i j)) := by
  induction n with
  | zero => exact (sm_zero (fun _ _ => rfl)).symm
  | succ n ih =>
    rw [sm_s, ih, ← sm_add]
    exact sm_congr (fun i _ => rfl)
def dot (n : Nat) (f g : Nat → F) : F := sm n (fun i => f i * g i)
theorem dot_0 {f g : Nat → F} : dot 0 f g = 0 := rfl
theorem dot_s {n : Nat} {f g : Nat → F} : dot (n + 1) f g = dot n f g + f n * g n := rfl
/-- what was not touched -/
def Fr (X : Nat → Prop) (m m' : M1) : Prop := ∀ a, ¬ X a → m' a = m a
theorem Fr_rfl {X : Nat → Prop} {m : M1} : Fr X m m := fun _ _ => rfl
theorem Fr_trans {X : Nat → Prop} {m m' m'' : M1} (h : Fr X m m') (h' : Fr X m' m'') : Fr X m m'' := fun a ha => (h' a ha).trans (h a ha)
theorem Fr_mono {X Y : Nat → Prop} {m m' : M1} (h : Fr X m m') (hs : ∀ a, X a → Y a) : Fr Y m m' := fun a ha => h a (fun hx => ha (hs a hx))
theorem w1_at {m : M1} {a i : Nat} {x : F} : w1 m a i x a i = x := if_pos ⟨rfl, rfl⟩
theorem w1_ne {m : M1} {a i a' i' : Nat} {x : F} (h : ¬ (a' = a ∧ i' = i)) : w1 m a i x a' i' = m a' i' := if_neg h
theorem w1_a {m : M1} {a i a' : Nat} {x : F} (h : a' ≠ a) : w1 m a i x a' = m a' := funext fun _ => if_neg (fun z => h z.1)
theorem w2_at {p : M2} {a i : Nat} {x : Option Nat} : w2 p a i x a i = x := if_pos ⟨rfl, rfl⟩
theorem w2_ne {p : M2} {a i a' i' : Nat} {x : Option Nat} (h : ¬ (a' = a ∧ i' = i)) : w2 p a i x a' i' = p a' i' := if_neg h
theorem w2_a {p : M2} {a i a' : Nat} {x : Option Nat} (h : a' ≠ a) : w2 p a i x a' = p a' := funext fun _ => if_neg (fun z => h z.1)
theorem Fr_w1 {X : Nat → Prop} {m m' : M1} {a i : Nat} {x : F} (h : Fr X m m') (ha : X a) : Fr X m (w1 m' a i x) := fun b hb => (w1_a (fun e => hb (by rw [e]; exact ha))).trans (h b hb)
end
section
/-! RULES with an end that is a property. -/
section RR
variable {C : Nat → List Value → MH → Res → Prop} {k : Nat} {Q : Res → Prop} {pc x y z : Nat} {is : List Ent} {lv lv' : List (Option Value)} {st : List Value} {h h' : MH} {c s : Nat} {S : Env} {fz : Bool} {m m' : M1} {p p' : M2}
theorem rw_of {g g' : Cfg} (h : ∀ r, Rn C k g' r → Rn C k g r) (n : Rw C k g' Q) : Rw C k g Q := by
  obtain ⟨r, hr, hq⟩ := n
  exact ⟨r, h r hr, hq⟩
theorem rw_end {g : Cfg} {r : Res} (h : Rn C k g r) (hq : Q r) : Rw C k g Q := ⟨r, h, hq⟩
theorem rw_blk {is' : List Ent} (hl : (m_bl k).lookup pc = some is') (n : Rw C k (pc, is', lv, st, h, c, s) Q) : Rw C k (pc, [], lv, st, h, c, s) Q := rw_of (fun _ hr => q_blk hl hr) n
theorem rw_cast (n : Rw C k (pc, [], lv', [], h', c, s) Q) (e : lv = lv') (e' : h = h') : Rw C k (pc, [], lv, [], h, c, s) Q := by
  subst e
  subst e'
  exact n
theorem rw_ret {v : Option Value} {Q' : Option Value → M1 → M2 → Prop} {g : Cfg} (hQ : Q = RQ S fz Q') (h : Rn C k g (.inl v, hpM S fz (m, p), 0, 0)) (hq : Q' v m p) : Rw C k g Q := by
  subst hQ
  exact ⟨_, h, v, m, p, rfl, hq⟩
theorem rw_icmp_eq {off : Int} {a b : Int} {t : Nat} (ha : rg a) (hb : rg b) (ht : mk_tg pc off = some t) (n1 : a = b → Rw C k (t, [], lv, st, h, c, s) Q) (n2 : a ≠ b → Rw C k (pc + 3, is, lv, st, h, c, s) Q) : Rw C k (pc, (.if_icmp .eq off, 3, x, y, z) :: is, lv, .int (iI b) :: .int (iI a) :: st, h, c, s) Q := by
  by_cases q : a = b
  · exact rw_of (fun r hr => q_icmp_eq ha hb ht (fun _ => hr) (fun f => by exfalso; omega)) (n1 q)
  · exact rw_of (fun r hr => q_icmp_eq ha hb ht (fun f => absurd f q) (fun _ => hr)) (n2 (by omega))
theorem rw_if_eq {off : Int} {a : Int} {t : Nat} (ha : rg a) (ht : mk_tg pc off = some t) (n1 : a = 0 → Rw C k (t, [], lv, st, h, c, s) Q) (n2 : a ≠ 0 → Rw C k (pc + 3, is, lv, st, h, c, s) Q) : Rw C k (pc, (.ifCond .eq off, 3, x, y, z) :: is, lv, .int (iI a) :: st, h, c, s) Q := by
  by_cases q : a = 0
  · exact rw_of (fun r hr => q_if_eq ha ht (fun _ => hr) (fun f => by exfalso; omega)) (n1 q)
  · exact rw_of (fun r hr => q_if_eq ha ht (fun f => absurd f q) (fun _ => hr)) (n2 (by omega))
theorem rw_icmp_ne {off : Int} {a b : Int} {t : Nat} (ha : rg a) (hb : rg b) (ht : mk_tg pc off = some t) (n1 : a ≠ b → Rw C k (t, [], lv, st, h, c, s) Q) (n2 : a = b → Rw C k (pc + 3, is, lv, st, h, c, s) Q) : Rw C k (pc, (.if_icmp .ne off, 3, x, y, z) :: is, lv, .int (iI b) :: .int (iI a) :: st, h, c, s) Q := by
  by_cases q : a ≠ b
  · exact rw_of (fun r hr => q_icmp_ne ha hb ht (fun _ => hr) (fun f => by exfalso; omega)) (n1 q)
  · exact rw_of (fun r hr => q_icmp_ne ha hb ht (fun f => absurd f q) (fun _ => hr)) (n2 (by omega))
theorem rw_if_ne {off : Int} {a : Int} {t : Nat} (ha : rg a) (ht : mk_tg pc off = some t) (n1 : a ≠ 0 → Rw C k (t, [], lv, st, h, c, s) Q) (n2 : a = 0 → Rw C k (pc + 3, is, lv, st, h, c, s) Q) : Rw C k (pc, (.ifCond .ne off, 3, x, y, z) :: is, lv, .int (iI a) :: st, h, c, s) Q := by
  by_cases q : a ≠ 0
  · exact rw_of (fun r hr => q_if_ne ha ht (fun _ => hr) (fun f => by exfalso; omega)) (n1 q)
  · exact rw_of (fun r hr => q_if_ne ha ht (fun f => absurd f q) (fun _ => hr)) (n2 (by omega))
theorem rw_icmp_lt {off : Int} {a b : Int} {t : Nat} (ha : rg a) (hb : rg b) (ht : mk_tg pc off = some t) (n1 : a < b → Rw C k (t, [], lv, st, h, c, s) Q) (n2 : b ≤ a → Rw C k (pc + 3, is, lv, st, h, c, s) Q) : Rw C k (pc, (.if_icmp .lt off, 3, x, y, z) :: is, lv, .int (iI b) :: .int (iI a) :: st, h, c, s) Q := by
  by_cases q : a < b
  · exact rw_of (fun r hr => q_icmp_lt ha hb ht (fun _ => hr) (fun f => by exfalso; omega)) (n1 q)
  · exact rw_of (fun r hr => q_icmp_lt ha hb ht (fun f => absurd f q) (fun _ => hr)) (n2 (by omega))
theorem rw_if_lt {off : Int} {a : Int} {t : Nat} (ha : rg a) (ht : mk_tg pc off = some t) (n1 : a < 0 → Rw C k (t, [], lv, st, h, c, s) Q) (n2 : 0 ≤ a → Rw C k (pc + 3, is, lv, st, h, c, s) Q) : Rw C k (pc, (.ifCond .lt off, 3, x, y, z) :: is, lv, .int (iI a) :: st, h, c, s) Q := by
  by_cases q : a < 0
  · exact rw_of (fun r hr => q_if_lt ha ht (fun _ => hr) (fun f => by exfalso; omega)) (n1 q)
  · exact rw_of (fun r hr => q_if_lt ha ht (fun f => absurd f q) (fun _ => hr)) (n2 (by omega))
theorem rw_icmp_ge {off : Int} {a b : Int} {t : Nat} (ha : rg a) (hb : rg b) (ht : mk_tg pc off = some t) (n1 : b ≤ a → Rw C k (t, [], lv, st, h, c, s) Q) (n2 : a < b → Rw C k (pc + 3, is, lv, st, h, c, s) Q) : Rw C k (pc, (.if_icmp .ge off, 3, x, y, z) :: is, lv, .int (iI b) :: .int (iI a) :: st, h, c, s) Q := by
  by_cases q : b ≤ a
  · exact rw_of (fun r hr => q_icmp_ge ha hb ht (fun _ => hr) (fun f => by exfalso; omega)) (n1 q)
  · exact rw_of (fun r hr => q_icmp_ge ha hb ht (fun f => absurd f q) (fun _ => hr)) (n2 (by omega))
theorem rw_if_ge {off : Int} {a : Int} {t : Nat} (ha : rg a) (ht : mk_tg pc off = some t) (n1 : 0 ≤ a → Rw C k (t, [], lv, st, h, c, s) Q) (n2 : a < 0 → Rw C k (pc + 3, is, lv, st, h, c, s) Q) : Rw C k (pc, (.ifCond .ge off, 3, x, y, z) :: is, lv, .int (iI a) :: st, h, c, s) Q := by
  by_cases q : 0 ≤ a
  · exact rw_of (fun r hr => q_if_ge ha ht (fun _ => hr) (fun f => by exfalso; omega)) (n1 q)
  · exact rw_of (fun r hr => q_if_ge ha ht (fun f => absurd f q) (fun _ => hr)) (n2 (by omega))
theorem rw_icmp_gt {off : Int} {a b : Int} {t : Nat} (ha : rg a) (hb : rg b) (ht : mk_tg pc off = some t) (n1 : b < a → Rw C k (t, [], lv, st, h, c, s) Q) (n2 : a ≤ b → Rw C k (pc + 3, is, lv, st, h, c, s) Q) : Rw C k (pc, (.if_icmp .gt off, 3, x, y, z) :: is, lv, .int (iI b) :: .int (iI a) :: st, h, c, s) Q := by
  by_cases q : b < a
  · exact rw_of (fun r hr => q_icmp_gt ha hb ht (fun _ => hr) (fun f => by exfalso; omega)) (n1 q)
  · exact rw_of (fun r hr => q_icmp_gt ha hb ht (fun f => absurd f q) (fun _ => hr)) (n2 (by omega))
theorem rw_if_gt {off : Int} {a : Int} {t : Nat} (ha : rg a) (ht : mk_tg pc off = some t) (n1 : 0 < a → Rw C k (t, [], lv, st, h, c, s) Q) (n2 : a ≤ 0 → Rw C k (pc + 3, is, lv, st, h, c, s) Q) : Rw C k (pc, (.ifCond .gt off, 3, x, y, z) :: is, lv, .int (iI a) :: st, h, c, s) Q := by
  by_cases q : 0 < a
  · exact rw_of (fun r hr => q_if_gt ha ht (fun _ => hr) (fun f => by exfalso; omega)) (n1 q)
  · exact rw_of (fun r hr => q_if_gt ha ht (fun f => absurd f q) (fun _ => hr)) (n2 (by omega))
theorem rw_icmp_le {off : Int} {a b : Int} {t : Nat} (ha : rg a) (hb : rg b) (ht : mk_tg pc off = some t) (n1 : a ≤ b → Rw C k (t, [], lv, st, h, c, s) Q) (n2 : b < a → Rw C k (pc + 3, is, lv, st, h, c, s) Q) : Rw C k (pc, (.if_icmp .le off, 3, x, y, z) :: is, lv, .int (iI b) :: .int (iI a) :: st, h, c, s) Q := by
  by_cases q : a ≤ b
  · exact rw_of (fun r hr => q_icmp_le ha hb ht (fun _ => hr) (fun f => by exfalso; omega)) (n1 q)
  · exact rw_of (fun r hr => q_icmp_le ha hb ht (fun f => absurd f q) (fun _ => hr)) (n2 (by omega))
theorem rw_if_le {off : Int} {a : Int} {t : Nat} (ha : rg a) (ht : mk_tg pc off = some t) (n1 : a ≤ 0 → Rw C k (t, [], lv, st, h, c, s) Q) (n2 : 0 < a → Rw C k (pc + 3, is, lv, st, h, c, s) Q) : Rw C k (pc, (.ifCond .le off, 3, x, y, z) :: is, lv, .int (iI a) :: st, h, c, s) Q := by
  by_cases q : a ≤ 0
  · exact rw_of (fun r hr => q_if_le ha ht (fun _ => hr) (fun f => by exfalso; omega)) (n1 q)
  · exact rw_of (fun r hr => q_if_le ha ht (fun f => absurd f q) (fun _ => hr)) (n2 (by omega))
end RR
theorem ct_go {d k : Nat} {S : Env} {fz : Bool} {ar : List Value} {m : M1} {p : M2} {Q : Option Value → M1 → M2 → Prop} {lv : List (Option Value)} (hl : ar.length ≤ m_L k) (ha : okar ar) (hlv : lv0 (m_L k) ar = lv) (hr : ∀ Qr, Qr = RQ S fz Q → Rw (Ev d) k (0, [], lv, [], hpM S fz (m, p), 0, 0) Qr) : Ct (d + 1) k S fz ar m p Q := ct_run hl ha hlv (hr _ rfl)
/-- the end of a method that throws -/
def TQ (S : Env) (fz : Bool) (m : M1) (p : M2) (E : Nat) : Res → Prop := fun r => r = (.inr E, hpM (ths S) fz (m, p), 1, 6)
theorem tw_go {d k E : Nat} {S : Env} {fz : Bool} {ar : List Value} {m : M1} {p : M2} {lv : List (Option Value)} (hl : ar.length ≤ m_L k) (ha : okar ar) (hk : m_kd k ≠ 2 ∧ m_hh k = []) (hd : 6 ≤ d + 1) (hlv : lv0 (m_L k) ar = lv) (hr : ∀ Qr, Qr = TQ S fz m p E → Rw (Ev d) k (0, [], lv, [], hpM S fz (m, p), 0, 0) Qr) : Tw (d + 1) k S fz ar m p E := by
  obtain ⟨r, hr, rfl⟩ := hr _ rfl
  exact ev_thr hl ha hk hd hlv hr
theorem loop_any {P : Nat → Prop} {n : Nat} (hs : ∀ i, i ≤ n → (i < n → P (i + 1)) → P i) : ∀ i, i ≤ n → P i :=
  loop_up (hs n (Nat.le_refl n) (fun h => absurd h (Nat.lt_irrefl n))) (fun i hi h => hs i (Nat.le_of_lt hi) (fun _ => h))
theorem kw {m m' : M1} {a j c : Nat} {x : F} (h : w1 m a j x = m') (hc : c ≠ a) : m' c = m c := by
  rw [← h]
  exact w1_a hc
theorem ki {m m' : M1} {a y n : Nat} (h : m' a = m a) (hv : m a y = nF n) (hn : n < 10007) : vF (m' a y) = (n : Int) := by
  rw [congrFun h y, hv, vF_nF hn]
theorem remF {a : Int} {x : F} (h0 : 0 ≤ a) (h : toF a = x) : a.tmod 10007 = vF x := by rw [tmod_vF h0, h]
theorem F_add0 (x : F) : x + 0 = x := by grind
theorem F_0sub (x : F) : 0 - x = -x := by grind
end
section
/-! THE INVERSE by Fermat: fourteen squares. -/
def tb (i : Nat) : Int := if (10005 / 2 ^ i) % 2 = 1 then 1 else 0
def Pw (b : F) : Nat → F
  | 0 => b
  | i + 1 => Pw b i * Pw b i
def Rs (a b : F) : Nat → F
  | 0 => a
  | i + 1 => if tb i = 1 then Rs a b i * Pw b i else Rs a b i
def iv (b : F) : F := Rs 1 b 14
theorem Rs_mul (a b : F) (i : Nat) : Rs a b i = a * Rs 1 b i := by
  induction i with
  | zero => show a = a * 1; grind
  | succ i ih =>
    show (if tb i = 1 then Rs a b i * Pw b i else Rs a b i) = a * (if tb i = 1 then Rs 1 b i * Pw b i else Rs 1 b i)
    split
    · rw [ih]; grind
    · exact ih
def PwN (b : Nat) : Nat → Nat
  | 0 => b
  | i + 1 => PwN b i * PwN b i % 10007
def goN (b r : Nat) : List Bool → Nat
  | [] => r
  | q :: l => goN (b * b % 10007) (if q then r * b % 10007 else r) l
def bitsN : List Bool := [true, false, true, false, true, false, false, false, true, true, true, false, false, true]
def allN (f : Nat → Bool) : Nat → Bool
  | 0 => true
  | n + 1 => f n && allN f n
theorem allN_at {f : Nat → Bool} {n : Nat} (h : allN f n = true) : ∀ i, i < n → f i = true := by
  induction n with
  | zero => intro i hi; omega
  | succ n ih =>
    intro i hi
    have h' : (f n && allN f n) = true := h
    rw [Bool.and_eq_true] at h'
    rcases Nat.lt_succ_iff_lt_or_eq.mp hi with q | q
    · exact ih h'.2 i q
    · rw [q]; exact h'.1
theorem inv_all : allN (fun i => allN (fun j => let b := 101 * i + j; b == 0 || b * goN b 1 bitsN % 10007 == 1 || decide (10007 ≤ b)) 101) 100 = true := by decide +kernel
def goF (b r : F) : List Bool → F
  | [] => r
  | q :: l => goF (b * b) (if q then r * b else r) l
theorem goF_val (l : List Bool) : ∀ b r : F, (goF b r l).val = goN b.val r.val l := by
  induction l with
  | nil => intro b r; rfl
  | cons q l ih =>
    intro b r
    show (goF (b * b) (if q then r * b else r) l).val = goN (b.val * b.val % 10007) (if q then r.val * b.val % 10007 else r.val) l
    rw [ih, Fin.val_mul]
    cases q
    · rfl
    · show goN _ (r * b).val l = _
      rw [Fin.val_mul]
      rfl
theorem Rs_goF (b : F) (n : Nat) : ∀ i r, goF (Pw b i) r ((List.range' i n).map fun k => decide (tb k = 1)) = (List.range' i n).foldl (fun r k => if tb k = 1 then r * Pw b k else r) r := by
  induction n with
  | zero => intro i r; rfl
  | succ n ih =>
    intro i r
    rw [List.range'_succ, List.map_cons, List.foldl_cons]
    show goF (Pw b (i + 1)) _ _ = _
    rw [← ih (i + 1)]
    by_cases q : tb i = 1
    · simp [q]
    · simp [q]
theorem iv_goF (b : F) : iv b = goF b 1 bitsN := by
  have h := Rs_goF b 14 0 1
  have e : (List.range' 0 14).map (fun k => decide (tb k = 1)) = bitsN := by decide
  rw [e] at h
  exact h.symm ▸ rfl
theorem iv_r {b : F} (hb : b ≠ 0) : b * iv b = 1 := by
  have h := allN_at inv_all (b.val / 101) (by have := b.isLt; omega)
  have h2 := allN_at h (b.val % 101) (by omega)
  have e : 101 * (b.val / 101) + b.val % 101 = b.val := by omega
  simp only [e] at h2
  have hv : b.val ≠ 0 := fun z => hb (Fin.eq_of_val_eq z)
  have hlt : ¬ 10007 ≤ b.val := by have := b.isLt; omega
  have h3 : b.val * goN b.val 1 bitsN % 10007 = 1 := by
    simpa [hv, hlt] using h2
  apply Fin.eq_of_val_eq
  rw [Fin.val_mul, iv_goF, goF_val]
  exact h3
theorem iv_l {b : F} (hb : b ≠ 0) : iv b * b = 1 := by rw [show iv b * b = b * iv b by grind]; exact iv_r hb
theorem F_mul0 {a b : F} (h : a * b = 0) : a = 0 ∨ b = 0 := by
  by_cases q : b = 0
  · exact Or.inr q
  · left
    have h1 : a = a * b * iv b := by
      have := iv_r q
      grind
    rw [h1, h]
    grind
theorem tb_bit : ∀ i : Fin 14, ((iI 10005 >>> (iI ((i : Nat) : Int) &&& 31)) &&& iI 1) = iI (tb i) := by decide
theorem tb_at {i : Nat} (h : i < 14) : ((iI 10005 >>> (iI (i : Int) &&& 31)) &&& iI 1) = iI (tb i) := tb_bit ⟨i, h⟩
theorem tb_01 (i : Nat) : tb i = 0 ∨ tb i = 1 := by unfold tb; split <;> omega
def hf (i : Nat) : Nat := 10005 / 2 ^ i
theorem hf_0 : hf 0 = 10005 := rfl
theorem hf_s (i : Nat) : hf (i + 1) = hf i / 2 := by unfold hf; rw [Nat.div_div_eq_div_mul, Nat.pow_succ]
theorem hf_14 : hf 14 = 0 := by decide
theorem hf_pos' : ∀ i : Fin 14, 0 < hf i := by decide
theorem hf_pos {i : Nat} (h : i ≤ 14) : (i = 14 ∧ hf i = 0) ∨ (i < 14 ∧ 0 < hf i) := by
  by_cases q : i = 14
  · exact Or.inl ⟨q, by rw [q]; exact hf_14⟩
  · exact Or.inr ⟨by omega, hf_pos' ⟨i, by omega⟩⟩
theorem hf_le (i : Nat) : hf i ≤ 10005 := Nat.div_le_self _ _
theorem tb_hf (i : Nat) : (tb i = 1 ∧ hf i % 2 = 1) ∨ (tb i = 0 ∧ hf i % 2 = 0) := by
  unfold tb hf
  split <;> omega
theorem Rs_1 {a b : F} {i : Nat} (h : tb i = 1) : Rs a b i * Pw b i = Rs a b (i + 1) := (if_pos h).symm
theorem Rs_0 {a b : F} {i : Nat} (h : ¬ tb i = 1) : Rs a b i = Rs a b (i + 1) := (if_neg h).symm
end
section
/-! SHAPES and fills. -/
/-- a square of n rows: the cell of its rows, where each row lies -/
def SQ (p : M2) (q : Nat) (R : Nat → Nat) : Prop := SH q = (3, 8) ∧ (∀ i, i < 8 → p q i = some (R i)) ∧ (∀ i, i < 8 → SH (R i) = (1, 8))
/-- a plant -/
def PL (p : M2) (t : Nat) : Prop := SH t = (13, 0) ∧ p t 1 = some (t + 1) ∧ p t 2 = some (t + 10) ∧ p t 3 = some (t + 11) ∧ SH (t + 10) = (1, 8) ∧ SH (t + 11) = (1, 8) ∧ SQ p (t + 1) (fun i => t + 2 + i)
theorem fr_w {X : Nat → Prop} {m m1 m2 : M1} {b i : Nat} {x : F} (hm : w1 m1 b i x = m2) (h : Fr X m m1) (hb : X b) : Fr X m m2 := by
  rw [← hm]
  exact Fr_w1 h hb
theorem fill_w {m1 m2 : M1} {b i : Nat} {x : F} {f g : Nat → F} (hm : w1 m1 b i x = m2) (h : ∀ j, m1 b j = if j < i then f j else g j) (hx : x = f i) : ∀ j, m2 b j = if j < i + 1 then f j else g j := by
  intro j
  rw [← hm]
  by_cases e : j = i
  · subst e
    rw [w1_at, if_pos (by omega), hx]
  · rw [w1_ne (fun z => e z.2), h j]
    by_cases q : j < i
    · rw [if_pos q, if_pos (by omega)]
    · rw [if_neg q, if_neg (by omega)]
/-- a value among those that a loop downward fills -/
theorem filld_w {m1 m2 : M1} {b k : Nat} {x : F} {P P' : Nat → Prop} [DecidablePred P] [DecidablePred P'] {f g : Nat → F} (hm : w1 m1 b k x = m2) (h : ∀ j, m1 b j = if P j then f j else g j) (hx : x = f k) (hP : ∀ j, P' j ↔ (P j ∨ j = k)) : ∀ j, m2 b j = if P' j then f j else g j := by
  intro j
  rw [← hm]
  by_cases e : j = k
  · subst e
    rw [w1_at, if_pos ((hP _).mpr (Or.inr rfl)), hx]
  · rw [w1_ne (fun z => e z.2), h j]
    by_cases q : P j
    · rw [if_pos q, if_pos ((hP _).mpr (Or.inl q))]
    · rw [if_neg q, if_neg (fun z => ((hP _).mp z).elim q e)]
theorem dot_congr {n : Nat} {f g f' g' : Nat → F} (h : ∀ i, i < n → f i = f' i) (h' : ∀ i, i < n → g i = g' i) : dot n f g = dot n f' g' := sm_congr (fun i hi => by rw [h i hi, h' i hi])
/-- rows that are filled one after another -/
theorem rows_w {X : Nat → Prop} {m m1 m2 : M1} {n i : Nat} {T : Nat → Nat} {PP : Nat → (Nat → F) → Prop} (hF : Fr (fun a => a = T i) m1 m2) (hi : i < n) (inj : ∀ a b, a < n → b < n → T a = T b → a = b) (h : ∀ k, k < i → PP k (m1 (T k))) (h0 : Fr X m m1) (hn : PP i (m2 (T i))) (hX : ∀ k, k < n → X (T k)) : Fr X m m2 ∧ ∀ k, k < i + 1 → PP k (m2 (T k)) := by
  refine ⟨fun a ha => (hF a (fun e => ha (by rw [e]; exact hX i hi))).trans (h0 a ha), fun k hk => ?_⟩
  by_cases e : k = i
  · rw [e]
    exact hn
  · rw [hF (T k) (fun z => e (inj k i (by omega) hi z))]
    exact h k (by omega)
end
section
/-! EQUATIONS: eight rows of nine, in some order. -/
def EQ (p : M2) (e : Nat) (R : Nat → Nat) : Prop := SH e = (11, 0) ∧ p e 0 = some (e + 1) ∧ (SH (e + 1) = (3, 8) ∧ (∀ i, i < 8 → p (e + 1) i = some (R i)) ∧ (∀ i, i < 8 → SH (R i) = (1, 9))) ∧ (∀ i, i < 8 → e + 2 ≤ R i ∧ R i < e + 10) ∧ (∀ i j, i < 8 → j < 8 → R i = R j → i = j)
def swR (R : Nat → Nat) (a b : Nat) : Nat → Nat := fun i => if i = b then R a else if i = a then R b else R i
/-- references that stand but in one cell -/
def Pk (x : Nat) (p p' : M2) : Prop := ∀ c, c ≠ x → p' c = p c
theorem Pk_rfl {x : Nat} {p : M2} : Pk x p p := fun _ _ => rfl
theorem Pk_trans {x : Nat} {p p' p'' : M2} (h : Pk x p p') (h' : Pk x p' p'') : Pk x p p'' := fun c hc => (h' c hc).trans (h c hc)
theorem SQ_pk {x q : Nat} {p p' : M2} {R : Nat → Nat} (h : SQ p q R) (k : Pk x p p') (hx : q ≠ x) : SQ p' q R := ⟨h.1, fun i hi => by rw [k q hx]; exact h.2.1 i hi, h.2.2⟩
theorem PL_pk {x t : Nat} {p p' : M2} (h : PL p t) (k : Pk x p p') (hx : t ≠ x) (hx' : t + 1 ≠ x) : PL p' t := by
  obtain ⟨h1, h2, h3, h4, h5, h6, h7⟩ := h
  exact ⟨h1, by rw [k t hx]; exact h2, by rw [k t hx]; exact h3, by rw [k t hx]; exact h4, h5, h6, SQ_pk h7 k hx'⟩
theorem EQ_pk {x e : Nat} {p p' : M2} {R : Nat → Nat} (h : EQ p e R) (k : Pk x p p') (hx : e ≠ x) (hx' : e + 1 ≠ x) : EQ p' e R := by
  obtain ⟨h1, h2, h3, h4⟩ := h
  exact ⟨h1, by rw [k e hx]; exact h2, ⟨h3.1, fun i hi => by rw [k (e + 1) hx']; exact h3.2.1 i hi, h3.2.2⟩, h4⟩
theorem EQ_sw {e a b : Nat} {p p1 p2 : M2} {R : Nat → Nat} (h : EQ p e R) (ha : a < 8) (hb : b < 8) (h1 : w2 p (e + 1) a (some (R b)) = p1) (h2 : w2 p1 (e + 1) b (some (R a)) = p2) : EQ p2 e (swR R a b) ∧ Pk (e + 1) p p2 := by
  obtain ⟨q1, q2, ⟨q3, q4, q5⟩, q6, q7⟩ := h
  have hk : Pk (e + 1) p p2 := fun c hc => by rw [← h2, ← h1, w2_a hc, w2_a hc]
  have hs : ∀ i, i < 8 → ∃ j, j < 8 ∧ swR R a b i = R j ∧ ((i = b ∧ j = a) ∨ (i ≠ b ∧ i = a ∧ j = b) ∨ (i ≠ b ∧ i ≠ a ∧ j = i)) := fun i hi => by
    unfold swR
    by_cases c1 : i = b
    · exact ⟨a, ha, by rw [if_pos c1], Or.inl ⟨c1, rfl⟩⟩
    · by_cases c2 : i = a
      · exact ⟨b, hb, by rw [if_neg c1, if_pos c2], Or.inr (Or.inl ⟨c1, c2, rfl⟩)⟩
      · exact ⟨i, hi, by rw [if_neg c1, if_neg c2], Or.inr (Or.inr ⟨c1, c2, rfl⟩)⟩
  refine ⟨⟨q1, ?_, ⟨q3, fun i hi => ?_, fun i hi => ?_⟩, fun i hi => ?_, fun i j hi hj he => ?_⟩, hk⟩
  · rw [hk e (by omega)]
    exact q2
  · rw [← h2, ← h1]
    unfold swR
    by_cases c1 : i = b
    · rw [c1, w2_at, if_pos rfl]
    · rw [w2_ne (fun z => c1 z.2), if_neg c1]
      by_cases c2 : i = a
      · rw [c2, w2_at, if_pos rfl]
      · rw [w2_ne (fun z => c2 z.2), if_neg c2]
        exact q4 i hi
  · obtain ⟨j, hj, e1, _⟩ := hs i hi
    rw [e1]
    exact q5 j hj
  · obtain ⟨j, hj, e1, _⟩ := hs i hi
    rw [e1]
    exact q6 j hj
  · obtain ⟨i', hi', e1, c1⟩ := hs i hi
    obtain ⟨j', hj', e2, c2⟩ := hs j hj
    rw [e1, e2] at he
    have := q7 i' j' hi' hj' he
    subst this
    omega
theorem ta_step {X : Nat → Prop} {m m1 m2 : M1} {n i : Nat} {R : Nat → Nat} {ta : Nat → Nat → F} (hF : Fr X m m1) (h1 : ∀ k, k < i → ∀ j, j ≤ n → m1 (R k) j = ta k j) (h2 : ∀ k, i ≤ k → k < 8 → m1 (R k) = m (R k)) (hF2 : Fr (fun a => a = R i) m1 m2) (h3 : ∀ j, j ≤ n → m2 (R i) j = ta i j) (inj : ∀ a b, a < 8 → b < 8 → R a = R b → a = b) (hi : i < 8) (hX : ∀ k, k < 8 → X (R k)) : Fr X m m2 ∧ (∀ k, k < i + 1 → ∀ j, j ≤ n → m2 (R k) j = ta k j) ∧ (∀ k, i + 1 ≤ k → k < 8 → m2 (R k) = m (R k)) := by
  refine ⟨fun a ha => (hF2 a (fun e => ha (by rw [e]; exact hX i hi))).trans (hF a ha), fun k hk j hj => ?_, fun k hk hk8 => ?_⟩
  · by_cases e : k = i
    · rw [e]
      exact h3 j hj
    · rw [hF2 (R k) (fun z => e (inj k i (by omega) hi z))]
      exact h1 k (by omega) j hj
  · rw [hF2 (R k) (fun z => by have := inj k i hk8 hi z; omega)]
    exact h2 k (by omega) hk8
end
section
/-! ELIMINATION, as it is reckoned: rows, a pivot, and what the rows behind become. -/
def IsF (f : Nat → F) (n r k : Nat) : Prop := r ≤ k ∧ k ≤ n ∧ (k < n → f k ≠ 0) ∧ ∀ i, r ≤ i → i < k → f i = 0
theorem IsF_uniq {f g : Nat → F} {n r k l : Nat} (hk : IsF f n r k) (hl : IsF g n r l) (h : ∀ i, r ≤ i → i < n → f i = g i) : k = l := by
  obtain ⟨k1, k2, k3, k4⟩ := hk
  obtain ⟨l1, l2, l3, l4⟩ := hl
  rcases Nat.lt_trichotomy k l with q | q | q
  · exact absurd ((h k k1 (by omega)).trans (l4 k k1 q)) (k3 (by omega))
  · exact q
  · exact absurd ((h l l1 (by omega)).symm.trans (k4 l l1 q)) (l3 (by omega))
def ffu (f : Nat → F) (r : Nat) : Nat → Nat
  | 0 => r
  | t + 1 => if f r = 0 then ffu f (r + 1) t else r
theorem ffu_is (f : Nat → F) (t : Nat) : ∀ r, IsF f (r + t) r (ffu f r t) := by
  induction t with
  | zero => intro r; exact ⟨Nat.le_refl _, Nat.le_refl _, fun h => absurd h (Nat.lt_irrefl _), fun i h h' => absurd (Nat.lt_of_le_of_lt h h') (Nat.lt_irrefl _)⟩
  | succ t ih =>
    intro r
    show IsF f (r + (t + 1)) r (if f r = 0 then ffu f (r + 1) t else r)
    by_cases q : f r = 0
    · rw [if_pos q]
      obtain ⟨h1, h2, h3, h4⟩ := ih (r + 1)
      refine ⟨by omega, by omega, fun h => h3 (by omega), fun i hi hlt => ?_⟩
      by_cases e : i = r
      · rw [e]; exact q
      · exact h4 i (by omega) hlt
    · rw [if_neg q]
      exact ⟨Nat.le_refl _, by omega, fun _ => q, fun i h h' => by omega⟩
def ff (f : Nat → F) (n r : Nat) : Nat := ffu f r (n - r)
theorem ff_is {f : Nat → F} {n r : Nat} (h : r ≤ n) : IsF f n r (ff f n r) := by
  have := ffu_is f (n - r) r
  rw [show r + (n - r) = n by omega] at this
  exact this
def swA (A : Nat → Nat → F) (r k : Nat) : Nat → Nat → F := fun i => if i = k then A r else if i = r then A k else A i
/-- one column: where it has a pivot from row r on, that row comes to r, and the rows behind it lose the column -/
def el (n : Nat) (g : (Nat → Nat → F) × Nat) (j : Nat) : (Nat → Nat → F) × Nat :=
  let k := ff (fun i => g.1 i j) n g.2
  if k < n then ((fun i c => if i ≤ g.2 then swA g.1 g.2 k i c else swA g.1 g.2 k i c - swA g.1 g.2 k i j * iv (swA g.1 g.2 k g.2 j) * swA g.1 g.2 k g.2 c), g.2 + 1) else g
def els (n : Nat) (A : Nat → Nat → F) : Nat → (Nat → Nat → F) × Nat
  | 0 => (A, 0)
  | j + 1 => el n (els n A j) j
def rk (n : Nat) (A : Nat → Nat → F) : Nat := (els n A n).2
theorem el_none {n j : Nat} {g : (Nat → Nat → F) × Nat} (h : ¬ ff (fun i => g.1 i j) n g.2 < n) : el n g j = g := if_neg h
theorem el_some {n j : Nat} {g : (Nat → Nat → F) × Nat} (h : ff (fun i => g.1 i j) n g.2 < n) : el n g j = ((fun i c => if i ≤ g.2 then swA g.1 g.2 (ff (fun i => g.1 i j) n g.2) i c else swA g.1 g.2 (ff (fun i => g.1 i j) n g.2) i c - swA g.1 g.2 (ff (fun i => g.1 i j) n g.2) i j * iv (swA g.1 g.2 (ff (fun i => g.1 i j) n g.2) g.2 j) * swA g.1 g.2 (ff (fun i => g.1 i j) n g.2) g.2 c), g.2 + 1) := if_pos h
theorem els_le {n : Nat} {A : Nat → Nat → F} (j : Nat) : j ≤ n → (els n A j).2 ≤ j := by
  induction j with
  | zero => intro _; exact Nat.le_refl 0
  | succ j ih =>
    intro hj
    show (el n (els n A j) j).2 ≤ j + 1
    have := ih (by omega)
    by_cases h : ff (fun i => (els n A j).1 i j) n (els n A j).2 < n
    · rw [el_some h]
      show (els n A j).2 + 1 ≤ j + 1
      omega
    · rw [el_none h]
      omega
theorem rk_le {n : Nat} {A : Nat → Nat → F} : rk n A ≤ n := els_le n (Nat.le_refl n)
theorem dot_scale {n : Nat} {a : F} {f g : Nat → F} : dot n (fun c => a * f c) g = a * dot n f g := by
  unfold dot
  rw [← sm_mul]
  exact sm_congr (fun i _ => by grind)
theorem dot_less {n : Nat} {a : F} {f g x : Nat → F} : dot n (fun c => f c - a * g c) x = dot n f x - a * dot n g x := by
  induction n with
  | zero => rw [dot_0, dot_0, dot_0]; grind
  | succ n ih => rw [dot_s, dot_s, dot_s, ih]; grind
/-- x solves the n equations whose right sides stand behind -/
def Sat (n : Nat) (M : Nat → Nat → F) (x : Nat → F) : Prop := ∀ i, i < n → dot n (M i) x = M i n
theorem Sat_congr {n : Nat} {M M' : Nat → Nat → F} {x : Nat → F} (h : ∀ i, i < n → ∀ c, c ≤ n → M i c = M' i c) : Sat n M x ↔ Sat n M' x := by
  refine ⟨fun s i hi => ?_, fun s i hi => ?_⟩
  · rw [← h i hi n (Nat.le_refl n), ← s i hi]
    exact dot_congr (fun c hc => (h i hi c (by omega)).symm) (fun _ _ => rfl)
  · rw [h i hi n (Nat.le_refl n), ← s i hi]
    exact dot_congr (fun c hc => h i hi c (by omega)) (fun _ _ => rfl)
theorem Sat_sw {n r k : Nat} {M : Nat → Nat → F} {x : Nat → F} (hr : r < n) (hk : k < n) : Sat n (swA M r k) x ↔ Sat n M x := by
  refine ⟨fun s i hi => ?_, fun s i hi => ?_⟩
  · by_cases c1 : i = k
    · have := s r hr
      unfold swA at this
      by_cases c2 : r = k
      · rw [if_pos c2] at this
        rw [c1, ← c2]
        exact this
      · rw [if_neg c2, if_pos rfl] at this
        rw [c1]
        exact this
    · by_cases c2 : i = r
      · have := s k hk
        unfold swA at this
        rw [if_pos rfl] at this
        rw [c2]
        exact this
      · have := s i hi
        unfold swA at this
        rw [if_neg c1, if_neg c2] at this
        exact this
  · unfold swA
    by_cases c1 : i = k
    · rw [if_pos c1]
      exact s r hr
    · rw [if_neg c1]
      by_cases c2 : i = r
      · rw [if_pos c2]
        exact s k hk
      · rw [if_neg c2]
        exact s i hi
/-- the step of Gauss and Jordan at row r, column j -/
def gj (M : Nat → Nat → F) (r j : Nat) : Nat → Nat → F := fun i c => if i = r then iv (M r j) * M r c else M i c - M i j * (iv (M r j) * M r c)
theorem Sat_gj {n r j : Nat} {M : Nat → Nat → F} {x : Nat → F} (hr : r < n) (h : M r j ≠ 0) : Sat n (gj M r j) x ↔ Sat n M x := by
  have hv := iv_l h
  have e1 : ∀ i, i = r → dot n (gj M r j i) x = iv (M r j) * dot n (M r) x := fun i e => by
    rw [show gj M r j i = fun c => iv (M r j) * M r c from funext fun c => if_pos e]
    exact dot_scale
  have e2 : ∀ i, i ≠ r → dot n (gj M r j i) x = dot n (M i) x - M i j * (iv (M r j) * dot n (M r) x) := fun i e => by
    rw [show gj M r j i = fun c => M i c - M i j * (iv (M r j) * M r c) from funext fun c => if_neg e, dot_less (g := fun c => iv (M r j) * M r c), dot_scale]
  refine ⟨fun s => ?_, fun s i hi => ?_⟩
  · have s0 : dot n (M r) x = M r n := by
      have := s r hr
      rw [e1 r rfl, show gj M r j r n = iv (M r j) * M r n from if_pos rfl] at this
      have h3 : M r j * (iv (M r j) * dot n (M r) x) = M r j * (iv (M r j) * M r n) := by rw [this]
      grind
    intro i hi
    by_cases e : i = r
    · rw [e]; exact s0
    · have := s i hi
      rw [e2 i e, show gj M r j i n = M i n - M i j * (iv (M r j) * M r n) from if_neg e, s0] at this
      grind
  · by_cases e : i = r
    · rw [e1 i e, show gj M r j i n = iv (M r j) * M r n from if_pos e, s r hr]
    · rw [e2 i e, show gj M r j i n = M i n - M i j * (iv (M r j) * M r n) from if_neg e, s r hr, s i hi]
/-- ones where row and column are the same, in the first columns -/
def Idc (n j : Nat) (M : Nat → Nat → F) : Prop := ∀ c, c < j → ∀ i, i < n → M i c = if i = c then 1 else 0
theorem Idc_gj {n j k : Nat} {M : Nat → Nat → F} (h : Idc n j M) (hj : j < n) (hk : j ≤ k) (hkn : k < n) (hp : M k j ≠ 0) : Idc n (j + 1) (gj (swA M j k) j j) := by
  have hp' : swA M j k j j ≠ 0 := by
    unfold swA
    by_cases c : j = k
    · rw [if_pos c]; rw [← c] at hp; exact hp
    · rw [if_neg c, if_pos rfl]; exact hp
  have hb : ∀ c, c < j → ∀ i, i < n → swA M j k i c = if i = c then 1 else 0 := fun c hc i hi => by
    unfold swA
    by_cases c1 : i = k
    · rw [if_pos c1, h c hc j hj, if_neg (by omega), if_neg (by omega)]
    · rw [if_neg c1]
      by_cases c2 : i = j
      · rw [if_pos c2, h c hc k hkn, if_neg (by omega), if_neg (by omega)]
      · rw [if_neg c2]
        exact h c hc i hi
  have hv := iv_l hp'
  intro c hc i hi
  unfold gj
  by_cases e : c = j
  · subst e
    by_cases q : i = c
    · rw [if_pos q, if_pos q]
      exact hv
    · rw [if_neg q, if_neg q, hv]
      grind
  · have h1 := hb c (by omega) j hj
    rw [if_neg (by omega)] at h1
    by_cases q : i = j
    · rw [if_pos q, if_neg (by omega), h1]
      grind
    · rw [if_neg q, h1, hb c (by omega) i hi]
      grind
theorem dot_unit {n i : Nat} {x : Nat → F} (hi : i < n) : dot n (fun c => if i = c then 1 else 0) x = x i := by
  have key : ∀ k, dot k (fun c => if i = c then 1 else 0) x = if i < k then x i else 0 := by
    intro k
    induction k with
    | zero => rfl
    | succ k ih =>
      rw [dot_s, ih]
      by_cases q : i < k
      · rw [if_pos q, if_neg (by omega), if_pos (by omega)]
        grind
      · rw [if_neg q]
        by_cases e : i = k
        · rw [if_pos e, if_pos (by omega), e]
          grind
        · rw [if_neg e, if_neg (by omega)]
          grind
  rw [key n, if_pos hi]
theorem Sat_id {n : Nat} {M : Nat → Nat → F} {x : Nat → F} (h : Idc n n M) : Sat n M x ↔ ∀ i, i < n → x i = M i n := by
  have e : ∀ i, i < n → dot n (M i) x = x i := fun i hi => by
    rw [← dot_unit (x := x) hi]
    exact dot_congr (fun c hc => h c hc i hi) (fun _ _ => rfl)
  exact ⟨fun s i hi => (e i hi).symm.trans (s i hi), fun s i hi => (e i hi).trans (s i hi)⟩
/-- the rows behind are what the elimination makes of them -/
theorem gj_el {n j k : Nat} {M : Nat → Nat → F} {g : (Nat → Nat → F) × Nat} (hr : g.2 ≤ n) (hj : j < n) (hM : ∀ i, g.2 ≤ i → i < n → ∀ c, c < n → M i c = g.1 i c) (hk : IsF (fun i => M i j) n g.2 k) :
    (k < n → (el n g j).2 = g.2 + 1 ∧ ∀ i, g.2 + 1 ≤ i → i < n → ∀ c, c < n → gj (swA M g.2 k) g.2 j i c = (el n g j).1 i c) ∧ (¬ k < n → el n g j = g) := by
  have e : k = ff (fun i => g.1 i j) n g.2 := IsF_uniq hk (ff_is hr) (fun i h1 h2 => hM i h1 h2 j hj)
  refine ⟨fun h => ?_, fun h => el_none (by rw [← e]; exact h)⟩
  rw [e] at h
  rw [el_some h, ← e]
  rw [← e] at h
  refine ⟨rfl, fun i h1 h2 c hc => ?_⟩
  have hs : ∀ i, g.2 ≤ i → i < n → ∀ c, c < n → swA M g.2 k i c = swA g.1 g.2 k i c := fun i h1 h2 c hc => by
    unfold swA
    by_cases c1 : i = k
    · rw [if_pos c1, if_pos c1]
      exact hM _ (Nat.le_refl _) (by omega) c hc
    · rw [if_neg c1, if_neg c1]
      by_cases c2 : i = g.2
      · rw [if_pos c2, if_pos c2]
        exact hM k hk.1 h c hc
      · rw [if_neg c2, if_neg c2]
        exact hM i h1 h2 c hc
  show (if i = g.2 then _ else _) = (if i ≤ g.2 then _ else _)
  rw [if_neg (by omega), if_neg (by omega), hs i (by omega) h2 c hc, hs i (by omega) h2 j hj, hs g.2 (Nat.le_refl _) (by omega) c hc, hs g.2 (Nat.le_refl _) (by omega) j hj]
  grind
end
section
/-! SOLVING: what holds ahead of each column. -/
def SI (n e : Nat) (A : Nat → Nat → F) (m : M1) (p : M2) (j r : Nat) (m1 : M1) (p1 : M2) (R1 : Nat → Nat) : Prop := r = (els n A j).2 ∧ EQ p1 e R1 ∧ Pk (e + 1) p p1 ∧ Fr (fun a => e + 2 ≤ a ∧ a < e + 10) m m1 ∧ (∀ i, r ≤ i → i < n → ∀ c, c < n → m1 (R1 i) c = (els n A j).1 i c) ∧ (∀ x, Sat n (fun i => m1 (R1 i)) x ↔ Sat n A x) ∧ (r = j → Idc n j (fun i => m1 (R1 i)))
theorem SI_0 {n e : Nat} {m : M1} {p : M2} {R : Nat → Nat} (h : EQ p e R) : SI n e (fun i => m (R i)) m p 0 0 m p R :=
  ⟨rfl, h, Pk_rfl, Fr_rfl, fun _ _ _ _ _ => rfl, fun _ => Iff.rfl, fun _ c hc => absurd hc (Nat.not_lt_zero c)⟩
theorem SI_skip {n e j r k : Nat} {A : Nat → Nat → F} {m m1 : M1} {p p1 : M2} {R1 : Nat → Nat} (h : SI n e A m p j r m1 p1 R1) (hj : j < n) (hk : IsF (fun i => m1 (R1 i) j) n r k) (hn : ¬ k < n) : SI n e A m p (j + 1) r m1 p1 R1 := by
  obtain ⟨h1, h2, h3, h4, h5, h6, h7⟩ := h
  subst h1
  have hle := els_le (n := n) (A := A) j (by omega)
  have he : els n A (j + 1) = els n A j := (gj_el (M := fun i => m1 (R1 i)) (by omega) hj h5 hk).2 hn
  refine ⟨by rw [he], h2, h3, h4, fun i hi hn c hc => by rw [he]; exact h5 i hi hn c hc, h6, fun q => by omega⟩
theorem swA_swR {m : M1} {R : Nat → Nat} {r k i : Nat} : m (swR R r k i) = swA (fun i => m (R i)) r k i := by
  unfold swR swA
  by_cases c1 : i = k
  · rw [if_pos c1, if_pos c1]
  · rw [if_neg c1, if_neg c1]
    by_cases c2 : i = r
    · rw [if_pos c2, if_pos c2]
    · rw [if_neg c2, if_neg c2]
theorem gj_mem {n r j k : Nat} {m1 m2 m3 : M1} {R1 R2 : Nat → Nat} (hR : R2 = swR R1 r k) (inj : ∀ a b, a < 8 → b < 8 → R2 a = R2 b → a = b) (hn : n ≤ 8) (hr : r < n) (hj : j < n) (hF2 : Fr (fun a => a = R2 r) m1 m2) (hv2 : ∀ c, m2 (R2 r) c = if c < n + 1 then iv (m1 (R2 r) j) * m1 (R2 r) c else m1 (R2 r) c)
    (hv3 : ∀ i, i < n → ∀ c, c ≤ n → m3 (R2 i) c = if i = r then m2 (R2 i) c else m2 (R2 i) c - m2 (R2 i) j * m2 (R2 r) c) : ∀ i, i < n → ∀ c, c ≤ n → m3 (R2 i) c = gj (swA (fun i => m1 (R1 i)) r k) r j i c := by
  intro i hi c hc
  have hs : ∀ i, m1 (R2 i) = swA (fun i => m1 (R1 i)) r k i := fun i => by rw [hR]; exact swA_swR
  rw [hv3 i hi c hc]
  unfold gj
  by_cases e : i = r
  · rw [if_pos e, if_pos e, e, hv2 c, if_pos (by omega), hs r]
  · have hk : m2 (R2 i) = m1 (R2 i) := hF2 _ (fun z => e (inj i r (by omega) (by omega) z))
    rw [if_neg e, if_neg e, hk, hv2 c, if_pos (by omega), hs i, hs r]
theorem SI_step {n e j r k : Nat} {A : Nat → Nat → F} {m m1 m2 m3 : M1} {p p1 p2 : M2} {R1 R2 : Nat → Nat} (h : SI n e A m p j r m1 p1 R1) (hn : n ≤ 8) (hj : j < n) (hk : IsF (fun i => m1 (R1 i) j) n r k) (hkn : k < n) (hR : R2 = swR R1 r k) (hE : EQ p2 e R2) (hP : Pk (e + 1) p1 p2) (hF2 : Fr (fun a => a = R2 r) m1 m2) (hv2 : ∀ c, m2 (R2 r) c = if c < n + 1 then iv (m1 (R2 r) j) * m1 (R2 r) c else m1 (R2 r) c) (hF3 : Fr (fun a => e + 2 ≤ a ∧ a < e + 10) m2 m3)
    (hv3 : ∀ i, i < n → ∀ c, c ≤ n → m3 (R2 i) c = if i = r then m2 (R2 i) c else m2 (R2 i) c - m2 (R2 i) j * m2 (R2 r) c) : SI n e A m p (j + 1) (r + 1) m3 p2 R2 := by
  obtain ⟨h1, h2, h3, h4, h5, h6, h7⟩ := h
  have hle := els_le (n := n) (A := A) j (by omega)
  rw [← h1] at hle
  have hm := gj_mem hR hE.2.2.2.2 hn (by omega) hj hF2 hv2 hv3
  have hp : m1 (R1 k) j ≠ 0 := hk.2.2.1 hkn
  have hp' : swA (fun i => m1 (R1 i)) r k r j ≠ 0 := by
    unfold swA
    by_cases c : r = k
    · rw [if_pos c, c]; exact hp
    · rw [if_neg c, if_pos rfl]; exact hp
  have hg := (gj_el (g := els n A j) (M := fun i => m1 (R1 i)) (by omega) hj (by rw [← h1]; exact h5) (by rw [← h1]; exact hk)).1 hkn
  rw [← h1] at hg
  refine ⟨hg.1.symm, hE, Pk_trans h3 hP, Fr_trans h4 (Fr_trans (Fr_mono hF2 (fun a ha => by rw [ha]; exact hE.2.2.2.1 r (by omega))) hF3), fun i hi hin c hc => ?_, fun x => ?_, fun q => ?_⟩
  · rw [hm i hin c (by omega)]
    exact hg.2 i hi hin c hc
  · rw [← h6 x, ← Sat_sw (M := fun i => m1 (R1 i)) (r := r) (k := k) (by omega) hkn, ← Sat_gj (r := r) (by omega) hp']
    exact Sat_congr hm
  · have hrj : r = j := by omega
    subst hrj
    intro c hc i hi
    show m3 (R2 i) c = _
    rw [hm i hi c (by omega)]
    exact Idc_gj (h7 rfl) hj hk.1 hkn hp c hc i hi
theorem SI_end {n e r : Nat} {A : Nat → Nat → F} {m m1 : M1} {p p1 : M2} {R1 : Nat → Nat} (h : SI n e A m p n r m1 p1 R1) : r = rk n A ∧ EQ p1 e R1 ∧ Pk (e + 1) p p1 ∧ Fr (fun a => e + 2 ≤ a ∧ a < e + 10) m m1 ∧ (rk n A = n → ∀ x, Sat n A x ↔ ∀ i, i < n → x i = m1 (R1 i) n) := by
  obtain ⟨h1, h2, h3, h4, h5, h6, h7⟩ := h
  refine ⟨h1, h2, h3, h4, fun q x => ?_⟩
  rw [← h6 x]
  exact Sat_id (h7 (h1.trans q))
end
section
/-! WHERE all lies: what the references are. -/
def ptC : List (Nat × Nat × Nat) := [(1, 0, 2), (1, 2, 3), (1, 3, 5), (1, 4, 7), (1, 5, 19), (1, 6, 33), (1, 7, 34), (1, 8, 35), (1, 9, 59), (1, 10, 73), (3, 0, 4), (5, 0, 6), (19, 0, 20), (19, 1, 30), (19, 2, 31), (19, 3, 32), (35, 0, 36), (35, 1, 37), (35, 4, 56), (59, 0, 60), (59, 1, 61), (59, 2, 62), (59, 3, 63), (73, 0, 74), (73, 1, 83), (73, 2, 92), (73, 3, 113), (73, 4, 114), (73, 5, 115), (73, 6, 116)]
def PQ (p : M2) : Prop := SQ p 38 (fun i => 39 + i) ∧ SQ p 47 (fun i => 48 + i) ∧ (∃ qa qb, p 35 2 = some qa ∧ p 35 3 = some qb ∧ (qa = 38 ∧ qb = 47 ∨ qa = 47 ∧ qb = 38)) ∧ ∃ u v, p 35 5 = some u ∧ p 35 6 = some v ∧ (u = 57 ∧ v = 58 ∨ u = 58 ∧ v = 57)
def PI (p : M2) : Prop := (∀ q ∈ ptC, p q.1 q.2.1 = some q.2.2) ∧ (∀ k, k < 12 → p 2 k = some (117 + 12 * k)) ∧ (∀ k, k < 12 → PL p (117 + 12 * k)) ∧ PL p 7 ∧ SQ p 74 (fun i => 75 + i) ∧ SQ p 83 (fun i => 84 + i) ∧ (∀ i, i < 20 → p 92 i = some (93 + i)) ∧ (∃ R, EQ p 20 R) ∧ (∃ R, EQ p 63 R) ∧ PQ p
/-- where a plant may lie -/
def IsPl (t : Nat) : Prop := t = 7 ∨ ∃ k, k < 12 ∧ t = 117 + 12 * k
theorem IsPl_b {t : Nat} (h : IsPl t) : t = 7 ∨ (117 ≤ t ∧ t ≤ 249) := h.elim Or.inl (fun ⟨k, h1, h2⟩ => by omega)
theorem PI_pl {p : M2} {t : Nat} (h : PI p) (ht : IsPl t) : PL p t := by
  rcases ht with rfl | ⟨k, hk, rfl⟩
  · exact h.2.2.2.1
  · exact h.2.2.1 k hk
theorem SH_93 {i : Nat} (h : i < 20) : SH (93 + i) = (1, 8) := (show ∀ i : Fin 20, SH (93 + i) = (1, 8) by decide) ⟨i, h⟩
theorem pt_1_0 {p : M2} (h : PI p) : p 1 0 = some 2 := h.1 (1, 0, 2) (by decide)
theorem pt_1_2 {p : M2} (h : PI p) : p 1 2 = some 3 := h.1 (1, 2, 3) (by decide)
theorem pt_1_3 {p : M2} (h : PI p) : p 1 3 = some 5 := h.1 (1, 3, 5) (by decide)
theorem pt_1_4 {p : M2} (h : PI p) : p 1 4 = some 7 := h.1 (1, 4, 7) (by decide)
theorem pt_1_5 {p : M2} (h : PI p) : p 1 5 = some 19 := h.1 (1, 5, 19) (by decide)
theorem pt_1_6 {p : M2} (h : PI p) : p 1 6 = some 33 := h.1 (1, 6, 33) (by decide)
theorem pt_1_7 {p : M2} (h : PI p) : p 1 7 = some 34 := h.1 (1, 7, 34) (by decide)
theorem pt_1_8 {p : M2} (h : PI p) : p 1 8 = some 35 := h.1 (1, 8, 35) (by decide)
theorem pt_1_9 {p : M2} (h : PI p) : p 1 9 = some 59 := h.1 (1, 9, 59) (by decide)
theorem pt_1_10 {p : M2} (h : PI p) : p 1 10 = some 73 := h.1 (1, 10, 73) (by decide)
theorem pt_3_0 {p : M2} (h : PI p) : p 3 0 = some 4 := h.1 (3, 0, 4) (by decide)
theorem pt_5_0 {p : M2} (h : PI p) : p 5 0 = some 6 := h.1 (5, 0, 6) (by decide)
theorem pt_19_0 {p : M2} (h : PI p) : p 19 0 = some 20 := h.1 (19, 0, 20) (by decide)
theorem pt_19_1 {p : M2} (h : PI p) : p 19 1 = some 30 := h.1 (19, 1, 30) (by decide)
theorem pt_19_2 {p : M2} (h : PI p) : p 19 2 = some 31 := h.1 (19, 2, 31) (by decide)
theorem pt_19_3 {p : M2} (h : PI p) : p 19 3 = some 32 := h.1 (19, 3, 32) (by decide)
theorem pt_35_0 {p : M2} (h : PI p) : p 35 0 = some 36 := h.1 (35, 0, 36) (by decide)
theorem pt_35_1 {p : M2} (h : PI p) : p 35 1 = some 37 := h.1 (35, 1, 37) (by decide)
theorem pt_35_4 {p : M2} (h : PI p) : p 35 4 = some 56 := h.1 (35, 4, 56) (by decide)
theorem pt_59_0 {p : M2} (h : PI p) : p 59 0 = some 60 := h.1 (59, 0, 60) (by decide)
theorem pt_59_1 {p : M2} (h : PI p) : p 59 1 = some 61 := h.1 (59, 1, 61) (by decide)
theorem pt_59_2 {p : M2} (h : PI p) : p 59 2 = some 62 := h.1 (59, 2, 62) (by decide)
theorem pt_59_3 {p : M2} (h : PI p) : p 59 3 = some 63 := h.1 (59, 3, 63) (by decide)
theorem pt_73_0 {p : M2} (h : PI p) : p 73 0 = some 74 := h.1 (73, 0, 74) (by decide)
theorem pt_73_1 {p : M2} (h : PI p) : p 73 1 = some 83 := h.1 (73, 1, 83) (by decide)
theorem pt_73_2 {p : M2} (h : PI p) : p 73 2 = some 92 := h.1 (73, 2, 92) (by decide)
theorem pt_73_3 {p : M2} (h : PI p) : p 73 3 = some 113 := h.1 (73, 3, 113) (by decide)
theorem pt_73_4 {p : M2} (h : PI p) : p 73 4 = some 114 := h.1 (73, 4, 114) (by decide)
theorem pt_73_5 {p : M2} (h : PI p) : p 73 5 = some 115 := h.1 (73, 5, 115) (by decide)
theorem pt_73_6 {p : M2} (h : PI p) : p 73 6 = some 116 := h.1 (73, 6, 116) (by decide)
theorem ptC_ne {q : Nat × Nat × Nat} (h : q ∈ ptC) : q.1 ≠ 21 ∧ q.1 ≠ 64 := (show ∀ q ∈ ptC, q.1 ≠ 21 ∧ q.1 ≠ 64 by decide) q h
theorem PQ_pk {x : Nat} {p p' : M2} (h : PQ p) (k : Pk x p p') (hx : x = 21 ∨ x = 64) : PQ p' := by
  obtain ⟨h1, h2, h3, h4⟩ := h
  refine ⟨SQ_pk h1 k (by omega), SQ_pk h2 k (by omega), ?_, ?_⟩
  · rw [k 35 (by omega)]
    exact h3
  · rw [k 35 (by omega)]
    exact h4
theorem PI_eq {p p' : M2} {e : Nat} {R : Nat → Nat} (h : PI p) (hE : EQ p' e R) (k : Pk (e + 1) p p') (he : e = 20 ∨ e = 63) : PI p' := by
  obtain ⟨h1, h2, h3, h4, h5, h6, h7, h8, h9, h10⟩ := h
  refine ⟨fun q hq => ?_, fun i hi => ?_, fun i hi => PL_pk (h3 i hi) k (by omega) (by omega), PL_pk h4 k (by omega) (by omega), SQ_pk h5 k (by omega), SQ_pk h6 k (by omega), fun i hi => ?_, ?_, ?_, PQ_pk h10 k (by omega)⟩
  · have := ptC_ne hq
    rw [k q.1 (by omega)]
    exact h1 q hq
  · rw [k 2 (by omega)]
    exact h2 i hi
  · rw [k 92 (by omega)]
    exact h7 i hi
  · rcases he with rfl | rfl
    · exact ⟨R, hE⟩
    · obtain ⟨R0, h8⟩ := h8
      exact ⟨R0, EQ_pk h8 k (by omega) (by omega)⟩
  · rcases he with rfl | rfl
    · obtain ⟨R0, h9⟩ := h9
      exact ⟨R0, EQ_pk h9 k (by omega) (by omega)⟩
    · exact ⟨R, hE⟩
end
section
/-! WHAT is reckoned, as functions of a plant's numbers. -/
/-- b, A b, A A b and so on -/
def kr (n : Nat) (A : Nat → Nat → F) (b : Nat → F) : Nat → Nat → F
  | 0 => b
  | k + 1 => fun r => dot n (A r) (kr n A b k)
theorem kr_s {n k : Nat} {A : Nat → Nat → F} {b : Nat → F} : kr n A b (k + 1) = fun r => dot n (A r) (kr n A b k) := rfl
theorem kr_congr {n : Nat} {A A' : Nat → Nat → F} {b b' : Nat → F} (hA : ∀ i, i < n → ∀ j, j < n → A i j = A' i j) (hb : ∀ i, i < n → b i = b' i) (k : Nat) : ∀ i, i < n → kr n A b k i = kr n A' b' k i := by
  induction k with
  | zero => exact hb
  | succ k ih => exact fun i hi => dot_congr (fun j hj => hA i hi j hj) ih
/-- the row x times (A less each of the first s of P) -/
def av (n : Nat) (A : Nat → Nat → F) (P : Nat → F) (x : Nat → F) : Nat → Nat → F
  | 0 => x
  | s + 1 => fun j => dot n (av n A P x s) (fun i => A i j) - P s * av n A P x s j
theorem ff_congr {f g : Nat → F} {n r : Nat} (hr : r ≤ n) (h : ∀ i, r ≤ i → i < n → f i = g i) : ff f n r = ff g n r := IsF_uniq (ff_is hr) (ff_is hr) h
theorem els_congr {n : Nat} {A B : Nat → Nat → F} (h : ∀ i, i < n → ∀ c, c < n → A i c = B i c) (j : Nat) : j ≤ n → (els n A j).2 = (els n B j).2 ∧ ∀ i, i < n → ∀ c, c < n → (els n A j).1 i c = (els n B j).1 i c := by
  induction j with
  | zero => exact fun _ => ⟨rfl, h⟩
  | succ j ih =>
    intro hj
    obtain ⟨h1, h2⟩ := ih (by omega)
    have hle := els_le (n := n) (A := A) j (by omega)
    have e : ff (fun i => (els n A j).1 i j) n (els n A j).2 = ff (fun i => (els n B j).1 i j) n (els n B j).2 := by
      rw [← h1]
      exact ff_congr (by omega) (fun i _ hi => h2 i hi j (by omega))
    show (el n (els n A j) j).2 = (el n (els n B j) j).2 ∧ ∀ i, i < n → ∀ c, c < n → (el n (els n A j) j).1 i c = (el n (els n B j) j).1 i c
    by_cases q : ff (fun i => (els n A j).1 i j) n (els n A j).2 < n
    · have q' := q
      rw [e] at q'
      rw [el_some q, el_some q', ← e, ← h1]
      refine ⟨rfl, fun i hi c hc => ?_⟩
      have hs : ∀ i, i < n → ∀ c, c < n → swA (els n A j).1 (els n A j).2 (ff (fun i => (els n A j).1 i j) n (els n A j).2) i c = swA (els n B j).1 (els n A j).2 (ff (fun i => (els n A j).1 i j) n (els n A j).2) i c := fun i hi c hc => by
        unfold swA
        split
        · exact h2 _ (by omega) c hc
        · split
          · exact h2 _ q c hc
          · exact h2 i hi c hc
      show (if i ≤ _ then _ else _) = (if i ≤ _ then _ else _)
      rw [hs i hi c hc, hs i hi j (by omega), hs (els n A j).2 (by omega) c hc, hs (els n A j).2 (by omega) j (by omega)]
    · have q' := q
      rw [e] at q'
      rw [el_none q, el_none q']
      exact ⟨h1, h2⟩
theorem rk_congr {n : Nat} {A B : Nat → Nat → F} (h : ∀ i, i < n → ∀ c, c < n → A i c = B i c) : rk n A = rk n B := (els_congr h n (Nat.le_refl n)).1
/-- the product of (x less each of the first s of P), by powers -/
def ask (P : Nat → F) : Nat → Nat → F
  | 0 => fun j => if j = 0 then 1 else 0
  | s + 1 => fun j => (if j = 0 then 0 else ask P s (j - 1)) - P s * ask P s j
/-- the columns that stand at the powers of the adjugate times b -/
def cf (n : Nat) (A : Nat → Nat → F) (b own : Nat → F) : Nat → Nat → F
  | 0 => b
  | s + 1 => fun j => dot n (A j) (cf n A b own s) + own (n - 1 - s) * b j
theorem ff0 (x : F) : x = 0 + x := by grind
/-- the numbers h -/
def hs (n : Nat) (A : Nat → Nat → F) (b c : Nat → F) (d : F) (k : Nat) : F := if k = 0 then d else dot n c (kr n A b (k - 1))
/-- the inputs, and 0 behind them -/
def uu (v : Nat → F) (c : Nat) (i : Nat) : F := if i < c then v i else 0
/-- the states from 0 on -/
def xs (n : Nat) (A : Nat → Nat → F) (b u : Nat → F) : Nat → Nat → F
  | 0 => fun _ => 0
  | k + 1 => fun r => dot n (A r) (xs n A b u k) + b r * u k
theorem rows2_w {X : Nat → Prop} {m m1 m2 : M1} {i : Nat} {R : Nat → Nat} {PP : Nat → (Nat → F) → Prop} (hF : Fr X m m1) (h1 : ∀ k, k < i → PP k (m1 (R k))) (h2 : ∀ k, i ≤ k → k < 8 → m1 (R k) = m (R k)) (hF2 : Fr (fun a => a = R i) m1 m2) (h3 : PP i (m2 (R i))) (inj : ∀ a b, a < 8 → b < 8 → R a = R b → a = b) (hi : i < 8) (hX : ∀ k, k < 8 → X (R k)) : Fr X m m2 ∧ (∀ k, k < i + 1 → PP k (m2 (R k))) ∧ (∀ k, i + 1 ≤ k → k < 8 → m2 (R k) = m (R k)) := by
  refine ⟨fun a ha => (hF2 a (fun e => ha (by rw [e]; exact hX i hi))).trans (hF a ha), fun k hk => ?_, fun k hk hk8 => ?_⟩
  · by_cases e : k = i
    · rw [e]
      exact h3
    · rw [hF2 (R k) (fun z => e (inj k i (by omega) hi z))]
      exact h1 k (by omega)
  · rw [hF2 (R k) (fun z => by have := inj k i hk8 hi z; omega)]
    exact h2 k (by omega) hk8
/-- Riccati: a step back from P -/
def rb (n : Nat) (P : Nat → Nat → F) (b : Nat → F) (i : Nat) : F := dot n (P i) b
def rm (n : Nat) (P : Nat → Nat → F) (b : Nat → F) (r : F) : F := r + dot n b (rb n P b)
def rpa (n : Nat) (P A : Nat → Nat → F) (i j : Nat) : F := dot n (P i) (fun l => A l j)
def rap (n : Nat) (P A : Nat → Nat → F) (b : Nat → F) (j : Nat) : F := dot n (rb n P b) (fun l => A l j)
def rK (n : Nat) (P A : Nat → Nat → F) (b : Nat → F) (r : F) (j : Nat) : F := iv (rm n P b r) * dot n b (fun l => rpa n P A l j)
def rq (q : F) (c : Nat → F) (i j : Nat) : F := q * (c i * c j)
def rs (n : Nat) (A : Nat → Nat → F) (b c : Nat → F) (q r : F) (P : Nat → Nat → F) (i j : Nat) : F := rq q c i j + dot n (fun l => A l i) (fun l => rpa n P A l j) - rap n P A b i * rK n P A b r j
def rc (n : Nat) (A : Nat → Nat → F) (b c : Nat → F) (q r : F) : Nat → Nat → Nat → F
  | 0 => rq q c
  | s + 1 => rs n A b c q r (rc n A b c q r s)
theorem rc_s {n s : Nat} {A : Nat → Nat → F} {b c : Nat → F} {q r : F} : rc n A b c q r (s + 1) = rs n A b c q r (rc n A b c q r s) := rfl
/-- going from the state of all 1 by the rows K, of which the last is the first -/
def gx (n : Nat) (A : Nat → Nat → F) (b : Nat → F) (K : Nat → Nat → F) (l : Nat) : Nat → Nat → F
  | 0 => fun _ => 1
  | t + 1 => fun r => dot n (A r) (gx n A b K l t) + b r * (0 - dot n (K (l - 1 - t)) (gx n A b K l t))
def hc (n : Nat) (c : Nat → F) (q : F) (x : Nat → F) : F := q * (dot n c x * dot n c x)
def gc (n : Nat) (A : Nat → Nat → F) (b c : Nat → F) (q r : F) (K : Nat → Nat → F) (l : Nat) : Nat → F
  | 0 => 0
  | t + 1 => gc n A b c q r K l t + hc n c q (gx n A b K l t) + r * ((0 - dot n (K (l - 1 - t)) (gx n A b K l t)) * (0 - dot n (K (l - 1 - t)) (gx n A b K l t)))
/-- Faddeev and Leverrier -/
def flG (n : Nat) (A M : Nat → Nat → F) (i j : Nat) : F := dot n (A i) (fun l => M l j)
def flt (n : Nat) (A M : Nat → Nat → F) (s : Nat) : F := (0 - sm n (fun i => flG n A M i i)) * iv (nF (s + 1))
def flM (n : Nat) (A : Nat → Nat → F) : Nat → Nat → Nat → F
  | 0 => fun i j => if i = j then 1 else 0
  | s + 1 => fun i j => flG n A (flM n A s) i j + if i = j then flt n A (flM n A s) s else 0
def pbl (n : Nat) (A : Nat → Nat → F) (k : Nat) : F := if k = n then 1 else flt n A (flM n A (n - 1 - k)) (n - 1 - k)
def pab (n : Nat) (A : Nat → Nat → F) (b c : Nat → F) (k : Nat) : F := if k = n then 0 else dot n c (fun i => dot n (flM n A (n - 1 - k) i) b)
theorem PQ_sq {p : M2} {q : Nat} (h : PQ p) (hq : q = 38 ∨ q = 47) : SQ p q (fun i => q + 1 + i) := by
  rcases hq with rfl | rfl
  · exact h.1
  · exact h.2.1
theorem ptC_35 {q : Nat × Nat × Nat} (h : q ∈ ptC) : q.1 = 35 → q.2.1 = 0 ∨ q.2.1 = 1 ∨ q.2.1 = 4 := (show ∀ q ∈ ptC, q.1 = 35 → q.2.1 = 0 ∨ q.2.1 = 1 ∨ q.2.1 = 4 by decide) q h
/-- of 35, but the fields that change -/
theorem PI_35 {p p' : M2} (h : PI p) (k : Pk 35 p p') (hc : ∀ y, y = 0 ∨ y = 1 ∨ y = 4 → p' 35 y = p 35 y) (ha : ∃ qa qb, p' 35 2 = some qa ∧ p' 35 3 = some qb ∧ (qa = 38 ∧ qb = 47 ∨ qa = 47 ∧ qb = 38)) (hb : ∃ u v, p' 35 5 = some u ∧ p' 35 6 = some v ∧ (u = 57 ∧ v = 58 ∨ u = 58 ∧ v = 57)) : PI p' := by
  obtain ⟨h1, h2, h3, h4, h5, h6, h7, h8, h9, h10⟩ := h
  refine ⟨fun q hq => ?_, fun i hi => ?_, fun i hi => PL_pk (h3 i hi) k (by omega) (by omega), PL_pk h4 k (by omega) (by omega), SQ_pk h5 k (by omega), SQ_pk h6 k (by omega), fun i hi => ?_, ?_, ?_, SQ_pk h10.1 k (by omega), SQ_pk h10.2.1 k (by omega), ha, hb⟩
  · by_cases e : q.1 = 35
    · have := h1 q hq
      rw [e] at this ⊢
      rw [hc _ (ptC_35 hq e)]
      exact this
    · rw [k q.1 e]
      exact h1 q hq
  · rw [k 2 (by omega)]
    exact h2 i hi
  · rw [k 92 (by omega)]
    exact h7 i hi
  · obtain ⟨R0, h8⟩ := h8
    exact ⟨R0, EQ_pk h8 k (by omega) (by omega)⟩
  · obtain ⟨R0, h9⟩ := h9
    exact ⟨R0, EQ_pk h9 k (by omega) (by omega)⟩
theorem PI_sw23 {p p1 p2 : M2} {qa qb : Nat} (h : PI p) (h1 : w2 p 35 2 (some qb) = p1) (h2 : w2 p1 35 3 (some qa) = p2) (hq : qa = 38 ∧ qb = 47 ∨ qa = 47 ∧ qb = 38) : PI p2 ∧ p2 35 2 = some qb ∧ p2 35 3 = some qa := by
  subst h1
  subst h2
  have e2 : w2 (w2 p 35 2 (some qb)) 35 3 (some qa) 35 2 = some qb := by rw [w2_ne (by omega), w2_at]
  have e3 : w2 (w2 p 35 2 (some qb)) 35 3 (some qa) 35 3 = some qa := w2_at
  refine ⟨PI_35 h (fun c hc => by rw [w2_a hc, w2_a hc]) (fun y hy => by rw [w2_ne (by omega), w2_ne (by omega)]) ⟨qb, qa, e2, e3, by omega⟩ ?_, e2, e3⟩
  obtain ⟨u, v, q1, q2, q3⟩ := h.2.2.2.2.2.2.2.2.2.2.2.2
  exact ⟨u, v, by rw [w2_ne (by omega), w2_ne (by omega)]; exact q1, by rw [w2_ne (by omega), w2_ne (by omega)]; exact q2, q3⟩
theorem PI_sw56 {p p1 p2 : M2} {qa qb : Nat} (h : PI p) (h1 : w2 p 35 5 (some qb) = p1) (h2 : w2 p1 35 6 (some qa) = p2) (hq : qa = 57 ∧ qb = 58 ∨ qa = 58 ∧ qb = 57) : PI p2 ∧ p2 35 5 = some qb ∧ p2 35 6 = some qa := by
  subst h1
  subst h2
  have e2 : w2 (w2 p 35 5 (some qb)) 35 6 (some qa) 35 5 = some qb := by rw [w2_ne (by omega), w2_at]
  have e3 : w2 (w2 p 35 5 (some qb)) 35 6 (some qa) 35 6 = some qa := w2_at
  refine ⟨PI_35 h (fun c hc => by rw [w2_a hc, w2_a hc]) (fun y hy => by rw [w2_ne (by omega), w2_ne (by omega)]) ?_ ⟨qb, qa, e2, e3, by omega⟩, e2, e3⟩
  obtain ⟨u, v, q1, q2, q3⟩ := h.2.2.2.2.2.2.2.2.2.2.2.1
  exact ⟨u, v, by rw [w2_ne (by omega), w2_ne (by omega)]; exact q1, by rw [w2_ne (by omega), w2_ne (by omega)]; exact q2, q3⟩
/-- the degree and one, of what stands below k; 0 for nothing -/
def dg (f : Nat → F) : Nat → Nat
  | 0 => 0
  | k + 1 => if f k = 0 then dg f k else k + 1
theorem dg_le {f : Nat → F} (k : Nat) : dg f k ≤ k := by
  induction k with
  | zero => exact Nat.le_refl 0
  | succ k ih =>
    show (if f k = 0 then dg f k else k + 1) ≤ k + 1
    split <;> omega
theorem dg_z {f : Nat → F} {k : Nat} (h : f k = 0) : dg f (k + 1) = dg f k := if_pos h
theorem dg_n {f : Nat → F} {k : Nat} (h : f k ≠ 0) : dg f (k + 1) = k + 1 := if_neg h
theorem dg_congr {f g : Nat → F} {k : Nat} (h : ∀ i, i < k → f i = g i) : dg f k = dg g k := by
  induction k with
  | zero => rfl
  | succ k ih =>
    show (if f k = 0 then dg f k else k + 1) = (if g k = 0 then dg g k else k + 1)
    rw [h k (by omega), ih (fun i hi => h i (by omega))]
/-- so many times g goes out of f, from the top -/
def trs (l : Nat) (g f : Nat → F) (s : Nat) : Nat → F := fun k => if s ≤ k ∧ k < s + (l + 1) then f k - iv (g l) * f (l + s) * g (k - s) else f k
def mdv (h l : Nat) (g f : Nat → F) : Nat → Nat → F
  | 0 => f
  | t + 1 => trs l g (mdv h l g f t) (h - l - t)
def ecd : Nat → (Nat → F) → (Nat → F) → Nat → Nat → Nat
  | 0, _, _, hd, _ => hd
  | k + 1, f, g, hd, ld => if ld = 0 then hd else ecd k g (mdv hd (ld - 1) g f (hd - (ld - 1) + 1)) (ld - 1) (dg (mdv hd (ld - 1) g f (hd - (ld - 1) + 1)) (ld - 1))
theorem mdv_congr {h l : Nat} {g g' f f' : Nat → F} (hl : l ≤ h) (hg : ∀ k, k ≤ l → g k = g' k) (hf : ∀ k, k ≤ h → f k = f' k) (t : Nat) : ∀ k, k ≤ h → mdv h l g f t k = mdv h l g' f' t k := by
  induction t with
  | zero => exact hf
  | succ t ih =>
    intro k hk
    show (if _ then _ else _) = (if _ then _ else _)
    by_cases q : h - l - t ≤ k ∧ k < h - l - t + (l + 1)
    · rw [if_pos q, if_pos q, ih k hk, ih (l + (h - l - t)) (by omega), hg l (Nat.le_refl l), hg (k - (h - l - t)) (by omega)]
    · rw [if_neg q, if_neg q, ih k hk]
theorem ecd_congr (t : Nat) : ∀ (f f' g g' : Nat → F) (hd ld : Nat), ld ≤ hd → (∀ k, k ≤ hd → f k = f' k) → (∀ k, k < ld → g k = g' k) → ecd t f g hd ld = ecd t f' g' hd ld := by
  induction t with
  | zero => intros; rfl
  | succ t ih =>
    intro f f' g g' hd ld hl hf hg
    show (if ld = 0 then hd else _) = (if ld = 0 then hd else _)
    by_cases q : ld = 0
    · rw [if_pos q, if_pos q]
    · have hm := mdv_congr (h := hd) (l := ld - 1) (by omega) (fun k hk => hg k (by omega)) hf (hd - (ld - 1) + 1)
      rw [if_neg q, if_neg q, dg_congr (fun i hi => hm i (by omega))]
      exact ih _ _ _ _ _ _ (dg_le _) (fun k hk => hg k (by omega)) (fun k hk => hm k (by have := dg_le (f := mdv hd (ld - 1) g' f' (hd - (ld - 1) + 1)) (ld - 1); omega))
theorem fillp_w {m1 m2 : M1} {b k : Nat} {x : F} {P P' : Nat → Prop} [DecidablePred P] [DecidablePred P'] {f g : Nat → F} (hm : w1 m1 b k x = m2) (h : ∀ j, m1 b j = if P j then f j else g j) (hx : x = f k) (hP : ∀ j, P' j ↔ (P j ∨ j = k)) : ∀ j, m2 b j = if P' j then f j else g j := filld_w hm h hx hP
theorem SH_57 {u : Nat} (h : u = 57 ∨ u = 58) : SH u = (1, 9) := by rcases h with rfl | rfl <;> rfl
/-- plants in series, side by side -/
def serA (n1 : Nat) (A1 : Nat → Nat → F) (b2 c1 : Nat → F) (A2 : Nat → Nat → F) (r c : Nat) : F := if r < n1 then (if c < n1 then A1 r c else 0) else if c < n1 then b2 (r - n1) * c1 c else A2 (r - n1) (c - n1)
def sidA (n1 : Nat) (A1 A2 : Nat → Nat → F) (r c : Nat) : F := if r < n1 then (if c < n1 then A1 r c else 0) else if c < n1 then 0 else A2 (r - n1) (c - n1)
def twob (n1 : Nat) (x : F) (b1 : Nat → F) (y : F) (b2 : Nat → F) (r : Nat) : F := if r < n1 then x * b1 r else y * b2 (r - n1)
/-- what a plant's row holds once its part from f on is put -/
def ptr1 (f n : Nat) (g h : Nat → F) (r : Nat) : F := if f ≤ r ∧ r < f + n then g (r - f) else h r
def ptr2 (f n : Nat) (A : Nat → Nat → F) (h : Nat → Nat → F) (r c : Nat) : F := if f ≤ r ∧ r < f + n ∧ f ≤ c ∧ c < f + n then A (r - f) (c - f) else h r c
/-- a 2n plant that is steered by what it observes -/
def obA (n : Nat) (A : Nat → Nat → F) (b c k l : Nat → F) (r s : Nat) : F := if r < n then (if s < n then A r s else 0 - b r * k (s - n)) else if s < n then l (r - n) * c s else A (r - n) (s - n) - b (r - n) * k (s - n) - l (r - n) * c (s - n)
end
