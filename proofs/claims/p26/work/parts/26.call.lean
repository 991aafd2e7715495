/-! Calls. -/
def rmD (d c s : Nat) : Room := { frames := d, cells := c, slots := s, locals := 44 * d }
def wsM (k : Nat) : List Cond := m_cw k :: lwg
/-- the heap that a call leaves -/
def Wh (D : va_G) (K : KK) (b sz L : Nat) (xs : Nat → Int32) (h : MH) (U : State) : Prop := va_P D vwCl (mkw K b sz h) U.heap ∧ (∀ a x, h.2.2 a = some x → a ≤ h.1) ∧ h.2.2 0 = some (mI L xs) ∧ sz + h.1 ≤ U.heap.size
def PcM (D : va_G) (K : KK) (b sz L : Nat) (xs : Nat → Int32) (ar : List Value) (h : MH) : Array Value → State → Prop := fun a U => a = (ar.map (cv b sz)).toArray ∧ Wd D K b sz L xs h U ∧ (h.2.1 = false → U.heap.size = sz + h.1)
def QcM (D : va_G) (K : KK) (b sz L : Nat) (xs : Nat → Int32) (r : Res) : Array Value → State → Outcome → State → Prop := fun _ st oc t => (∃ v, r.1 = .inl v ∧ oc = .returned (v.map (cv b sz)) ∧ Wh D K b sz L xs r.2.1 t) ∧ va_F (fun q => sz ≤ q) st t
def XcM (D : va_G) (K : KK) (b sz L : Nat) (xs : Nat → Int32) (r : Res) : String → State → State → Prop := fun E st t => (∃ e9, r.1 = .inr e9 ∧ e9 < 3 ∧ E = exN e9 ∧ Wh D K b sz L xs r.2.1 t) ∧ va_F (fun q => sz ≤ q) st t
def MetM (l : Launch) (D : va_G) (K : KK) (b sz L : Nat) (xs : Nat → Int32) (d k : Nat) (ar : List Value) (h : MH) (r : Res) : Prop := vx_Met l (m_y k) (wsM k) (rmD d r.2.2.1 r.2.2.2) (PcM D K b sz L xs ar h) (QcM D K b sz L xs r) (XcM D K b sz L xs r) r.2.2.1 r.2.2.2 (fun q => sz ≤ q)
theorem PcM.blind {D : va_G} {K : KK} {b sz L : Nat} {xs : Nat → Int32} {ar : List Value} {h : MH} : FrameBlind (PcM D K b sz L xs ar h) := fun _ _ _ _ ⟨w1, w2, w3⟩ => ⟨w1, w2.blind, w3⟩
theorem met_of {l : Launch} {y : MethodName} {ws : List Cond} {rm : Room} {Pc : Array Value → State → Prop} {Qc : Array Value → State → Outcome → State → Prop} {XC : String → State → State → Prop} {mc ms : Nat} {free : Addr → Prop} (h : vx_Met l y ws rm Pc Qc XC mc ms free) (hno : ∀ E st t, ¬ XC E st t) : Met l y ws rm Pc Qc mc ms free := by
  intro p e ha hc hk s m args below hf happ hp hK
  obtain ⟨n, o, h1, h2, h3, h4⟩ := h p e ha hc hk s m args below hf happ hp hK
  refine ⟨n, o, h1, h2, h3, ?_⟩
  rcases h4 with h4 | ⟨q, -, E, ce, L, hx, -⟩
  · exact h4
  · exact absurd hx (hno _ _ _)
theorem wsM_good {k : Nat} (hk : mP k) : GoodIn lwg (wsM k) := fun w hw => (List.mem_cons.mp hw).elim (fun e => by rw [e]; exact lwg_self _ hk.2.1.1) (fun h => lwg_self _ h)
theorem m_cw_nil {k : Nat} (h : m_hh k = []) : m_cw k = .code (m_y k) (m_b k) (m_L k) (m_ret k) := by
  unfold m_cw
  rw [h]
theorem m_cw_cons {k : Nat} (h : m_hh k ≠ []) : m_cw k = .codeWith (m_y k) (m_b k) (m_L k) (m_ret k) (m_hh k) := by
  unfold m_cw
  split
  · next q => exact absurd q h
  · rfl
theorem s_inv_eq {x m pc : Nat} {is : List Ent} {lv : List (Option Value)} {st : List Value} {h : MH} {c s : Nat} {o : Out} (hs : s_inv x m pc is lv st h c s = some o) : m ≤ st.length ∧ ((st.drop m).map fun v => v.category).sum ≤ 8 ∧ o = .inr (.inr (x, (st.take m).reverse, (pc, is, lv, st.drop m, h, c, s))) := by
  unfold s_inv at hs
  split at hs
  · next hc =>
    simp only [Option.some.injEq] at hs
    exact ⟨hc.1, hc.2.1, hs.symm⟩
  · cases hs
theorem st_split {st : List Value} {y : Nat} {v : Value} (h : st[y]? = some v) : st = st.take y ++ v :: st.drop (y + 1) ∧ (st.take (y + 1)).reverse = v :: (st.take y).reverse := by
  obtain ⟨hl, he⟩ := List.getElem?_eq_some_iff.mp h
  constructor
  · rw [← he, ← List.drop_eq_getElem_cons hl, List.take_append_drop]
  · rw [List.take_succ, h]
    simp
section CA
variable {p : Program} {l : Launch} {e : Env} {R : Room} {s : State} {m : MethodId} {args : Array Value} {below : List Frame} {meth : Method} {c : Code} {D : va_G} {K : KK} {b sz L : Nat} {xs : Nat → Int32} {Q : State → Prop} {k : Nat}
variable {pc : Nat} {is : List Ent} {lv : List (Option Value)} {st : List Value} {h : MH} {c0 s0 : Nat} {o : Out}
theorem RH.start {H : Heap} {locs : List Loc} (hR : RH D K b sz L xs s.heap h H locs) (hV : FxV D K s) (hF : FxH b sz L xs s) (hz : h.2.1 = false → H.size = sz + h.1) (ar : List Value) : ∀ U : State, U.heap = H → s.WarmedH U.vm → PcM D K b sz L xs ar h (ar.map (cv b sz)).toArray U := by
  intro U hU hW
  subst hU
  exact ⟨rfl, ⟨hR.1, hR.2.2.1, hR.2.2.2, hV.warm hW, hF.warm hW hR.2.1⟩, hz⟩
/-- a call of a static method -/
theorem run_S {d x ix y : Nat} {q : Res} {H : Heap} {locs : List Loc} {ls : Array Slot} (hx : p.tables.exec = Jvm.exec) (hb : c.code = m_b k) (hml : c.maxLocals = m_L k) (hts : ∀ w ∈ lwg, w.before args s = true) (hown : s.vm.findClass (cnm (m_cn k)) = some m.cls) (hV : FxV D K s) (hF : FxH b sz L xs s)
    (hRf : d + 1 ≤ R.frames) (hRl : 44 * d + 38 ≤ R.locals) (hRc : c0 + q.2.2.1 ≤ R.cells ∧ s0 + q.2.2.2 ≤ R.slots) (hE : (m_cn k, ix, x, 0) ∈ callT) (hkd : m_kd x = 0) (hna : m_na x = y) (hlt : x < 111) (hyl : y ≤ st.length) (hcat : ((st.drop y).map fun v => v.category).sum ≤ 8) (dg : decode (m_b k) pc = .ok (.invokestatic ix, 3))
    (hM : MetM l D K b sz L xs d x (st.take y).reverse h q) (hno : m_hh x ≠ [] → ∃ v, q.1 = .inl v) (hR : RH D K b sz L xs s.heap h H locs) (hz : h.2.1 = false → H.size = sz + h.1) (hL : LV b sz (m_L k) lv ls) :
    vx_Run p l e R s m args below meth c H locs c0 s0 q.2.2.1 q.2.2.2 (F0 m pc ls (st.map (cv b sz))) ((st.drop y).map (cv b sz)) (QcM D K b sz L xs q (((st.take y).reverse).map (cv b sz)).toArray) (XcM D K b sz L xs q) (fun q => sz ≤ q) := by
  obtain ⟨⟨p1, p2, p3, p4⟩, ⟨p5, p6⟩, p7, -, -, ⟨p8, p9⟩, -⟩ := id (mp_all x hlt)
  have hG := wsM_good (mp_all x hlt)
  have hlen : ∀ sig, parseMethodDescriptor (m_y x).desc = some sig → y = sig.parameters.length := fun sig hs => by
    rw [hs, hna] at p4
    exact (Option.some.inj p4).symm
  have hlink : (Cond.methodLink (cnm (m_cn k)) ix (m_y x)).before args s = true := by
    rcases callT_ok _ hE with ⟨-, h1⟩ | ⟨h1, -⟩
    · exact hts _ h1
    · exact absurd (show (0 : Nat) = 1 from h1) (by decide)
  have hst : st.map (cv b sz) = (((st.take y).reverse).map (cv b sz)).reverse ++ (st.drop y).map (cv b sz) := by
    rw [List.map_reverse, List.reverse_reverse, ← List.map_append, List.take_append_drop]
  have hal : (((st.take y).reverse).map (cv b sz)).length = y := by simp; omega
  have hcat2 : 2 * (F0 m pc ls (st.map (cv b sz))).monitorRoom + (((st.drop y).map (cv b sz)).map fun v => v.category).sum ≤ 8 := lv_room (by rw [cv_cats]; exact hcat)
  by_cases hh : m_hh x = []
  · have hcw := m_cw_nil hh
    refine vx_runS ⟨hx, hb, hml, hown, hts⟩ hM ⟨⟨rfl, rfl, hRf, by show 8 + (m_L x + 11) + 44 * d ≤ R.locals; omega, pay_in hts hG, by rw [← hcw]; exact List.mem_cons_self, by rw [← hcw]; exact hts _ p5, hts _ p6, p3, hlen, hlink⟩, hts _ (p7 hkd)⟩ ⟨PcM.blind, hR.start hV hF hz _⟩ rfl hal hL.2.1.1 hst hcat2 dg hRc
  · have hcw := m_cw_cons hh
    obtain ⟨v, hv⟩ := hno hh
    have hM' := met_of hM (fun E st t hX => by obtain ⟨⟨e9, h1, -⟩, -⟩ := hX; rw [hv] at h1; cases h1)
    have hr := vx_runSW (e := e) (below := below) (meth := meth) (locs := locs) (As := ((st.take y).reverse).map (cv b sz)) (rest := (st.drop y).map (cv b sz)) ⟨hx, hb, hml, hown, hts⟩ hM' (hh := m_hh x) (bytes := m_b x) (maxL := m_L x) (ret := m_ret x) (n := y) ⟨⟨rfl, rfl, hRf, by show 8 + (m_L x + 11) + 44 * d ≤ R.locals; omega, pay_in hts hG, by rw [← hcw]; exact List.mem_cons_self⟩, by rw [← hcw]; exact hts _ p5, hts _ p6, p3, hlen, hlink, hts _ (p7 hkd)⟩ ⟨PcM.blind, hR.start hV hF hz _⟩ rfl hal hL.2.1.1 hst hcat2 dg hRc
    exact fun T hT X => Or.inl (hr T hT X)
/-- a call of an object's method -/
theorem run_V {d x ix y z a : Nat} {fs : List Value} {q : Res} {H : Heap} {locs : List Loc} {ls : Array Slot} (hx : p.tables.exec = Jvm.exec) (hb : c.code = m_b k) (hml : c.maxLocals = m_L k) (hts : ∀ w ∈ lwg, w.before args s = true) (hown : s.vm.findClass (cnm (m_cn k)) = some m.cls) (hV : FxV D K s) (hF : FxH b sz L xs s)
    (hRf : d + 1 ≤ R.frames) (hRl : 44 * d + 38 ≤ R.locals) (hRc : c0 + q.2.2.1 ≤ R.cells ∧ s0 + q.2.2.2 ≤ R.slots) (hE : (m_cn k, ix, x, 0) ∈ callT) (hkd : m_kd x = 1) (hna : m_na x = y) (hz9 : (m_cn x, z) ∈ cnciT) (hlt : x < 111) (hcat : ((st.drop (y + 1)).map fun v => v.category).sum ≤ 8) (dg : decode (m_b k) pc = .ok (.invokevirtual ix, 3)) (hy : st[y]? = some (.ref a)) (ha : h.2.2 a = some (.inl (z, fs)))
    (hM : MetM l D K b sz L xs d x (st.take (y + 1)).reverse h q) (hR : RH D K b sz L xs s.heap h H locs) (hz : h.2.1 = false → H.size = sz + h.1) (hL : LV b sz (m_L k) lv ls) :
    vx_Run p l e R s m args below meth c H locs c0 s0 q.2.2.1 q.2.2.2 (F0 m pc ls (st.map (cv b sz))) ((st.drop (y + 1)).map (cv b sz)) (QcM D K b sz L xs q (((st.take (y + 1)).reverse).map (cv b sz)).toArray) (XcM D K b sz L xs q) (fun q => sz ≤ q) := by
  obtain ⟨⟨p1, p2, p3, p4⟩, ⟨p5, p6⟩, -, p7, -, ⟨p8, p9⟩, -⟩ := id (mp_all x hlt)
  obtain ⟨p7, p7'⟩ := p7 hkd
  have hG := wsM_good (mp_all x hlt)
  have hlen : ∀ sig, parseMethodDescriptor (m_y x).desc = some sig → y = sig.parameters.length := fun sig hs => by
    rw [hs, hna] at p4
    exact (Option.some.inj p4).symm
  have hlink : (Cond.methodLink (cnm (m_cn k)) ix (m_y x)).before args s = true := by
    rcases callT_ok _ hE with ⟨-, h1⟩ | ⟨h1, -⟩
    · exact hts _ h1
    · exact absurd (show (0 : Nat) = 1 from h1) (by decide)
  obtain ⟨e1, e2⟩ := st_split hy
  have hst : st.map (cv b sz) = (((st.take y).reverse).map (cv b sz)).reverse ++ .ref (ad b sz a) :: (st.drop (y + 1)).map (cv b sz) := by
    rw [List.map_reverse, List.reverse_reverse]
    conv => lhs; rw [e1]
    rw [List.map_append]
    rfl
  have hyl : y < st.length := (List.getElem?_eq_some_iff.mp hy).1
  have hal : (((st.take y).reverse).map (cv b sz)).length = y := by simp; omega
  have hcat2 : 2 * (F0 m pc ls (st.map (cv b sz))).monitorRoom + (((st.drop (y + 1)).map (cv b sz)).map fun v => v.category).sum ≤ 8 := lv_room (by rw [cv_cats]; exact hcat)
  have hh : m_hh x = [] := by
    by_cases q : m_hh x = []
    · exact q
    · exact absurd ((p9 q).symm.trans hkd) (by decide)
  have hcw := m_cw_nil hh
  obtain ⟨T9, N9, hcl⟩ := cnciT_ok _ hz9
  have ha0 : a ≠ 0 := hR.ne0 ha (fun _ _ q => by cases q)
  obtain ⟨cellB, r1, r2, r3⟩ := va_recv hV.1 hR.1 hcl (mkw_get ha ha0 (hR.2.2.1 _ _ ha))
  have hpc := hR.start hV hF hz (st.take (y + 1)).reverse
  rw [e2] at hM hpc ⊢
  exact vx_runV (C := (m_y x).cls) (b := ad b sz a) ⟨hx, hb, hml, hown, hts⟩ hM ⟨⟨rfl, rfl, hRf, by show 8 + (m_L x + 11) + 44 * d ≤ R.locals; omega, pay_in hts hG, by rw [← hcw]; exact List.mem_cons_self, by rw [← hcw]; exact hts _ p5, hts _ p6, p3, hlen, hlink⟩, hts _ p7, hts _ p7'⟩ ⟨PcM.blind, ⟨cellB, r1, r2, by rw [p2]; exact r3⟩, hpc⟩ rfl hal hL.2.1.1 hst hcat2 dg hRc
/-- a call of a constructor -/
theorem run_I {d x ix y z a : Nat} {q : Res} {H : Heap} {locs : List Loc} {ls : Array Slot} (hx : p.tables.exec = Jvm.exec) (hb : c.code = m_b k) (hml : c.maxLocals = m_L k) (hts : ∀ w ∈ lwg, w.before args s = true) (hown : s.vm.findClass (cnm (m_cn k)) = some m.cls) (hV : FxV D K s) (hF : FxH b sz L xs s)
    (hRf : d + 1 ≤ R.frames) (hRl : 44 * d + 38 ≤ R.locals) (hRc : c0 + q.2.2.1 ≤ R.cells ∧ s0 + q.2.2.2 ≤ R.slots) (hE : (m_cn k, ix, x, z) ∈ callT) (hkd : m_kd x = 2) (hna : m_na x = y) (hlt : x < 111) (hcat : ((st.drop (y + 1)).map fun v => v.category).sum ≤ 8) (dg : decode (m_b k) pc = .ok (.invokespecial ix, 3)) (hy : st[y]? = some (.ref a))
    (hM : MetM l D K b sz L xs d x (st.take (y + 1)).reverse h q) (hno : ∃ v, q.1 = .inl v) (hR : RH D K b sz L xs s.heap h H locs) (hz : h.2.1 = false → H.size = sz + h.1) (hL : LV b sz (m_L k) lv ls) :
    vx_Run p l e R s m args below meth c H locs c0 s0 q.2.2.1 q.2.2.2 (F0 m pc ls (st.map (cv b sz))) ((st.drop (y + 1)).map (cv b sz)) (QcM D K b sz L xs q (((st.take (y + 1)).reverse).map (cv b sz)).toArray) (XcM D K b sz L xs q) (fun q => sz ≤ q) := by
  obtain ⟨⟨p1, p2, p3, p4⟩, ⟨p5, p6⟩, -, -, p7, ⟨p8, p9⟩, -⟩ := id (mp_all x hlt)
  obtain ⟨p7, p7', p7''⟩ := p7 hkd
  have hG := wsM_good (mp_all x hlt)
  have hlen : ∀ sig, parseMethodDescriptor (m_y x).desc = some sig → y = sig.parameters.length := fun sig hs => by
    rw [hs, hna] at p4
    exact (Option.some.inj p4).symm
  obtain ⟨e1, e2⟩ := st_split hy
  have hst : st.map (cv b sz) = (((st.take y).reverse).map (cv b sz)).reverse ++ .ref (ad b sz a) :: (st.drop (y + 1)).map (cv b sz) := by
    rw [List.map_reverse, List.reverse_reverse]
    conv => lhs; rw [e1]
    rw [List.map_append]
    rfl
  have hyl : y < st.length := (List.getElem?_eq_some_iff.mp hy).1
  have hal : (((st.take y).reverse).map (cv b sz)).length = y := by simp; omega
  have hcat2 : 2 * (F0 m pc ls (st.map (cv b sz))).monitorRoom + (((st.drop (y + 1)).map (cv b sz)).map fun v => v.category).sum ≤ 8 := lv_room (by rw [cv_cats]; exact hcat)
  have hh : m_hh x = [] := by
    by_cases q : m_hh x = []
    · exact q
    · exact absurd ((p9 q).symm.trans hkd) (by decide)
  have hcw := m_cw_nil hh
  rw [p7''] at hcw
  obtain ⟨v, hv⟩ := hno
  have hM' := met_of hM (fun E st t hX => by obtain ⟨⟨e9, h1, -⟩, -⟩ := hX; rw [hv] at h1; cases h1)
  have hpc := hR.start hV hF hz (st.take (y + 1)).reverse
  rw [e2] at hM' hpc ⊢
  rcases callT_ok _ hE with ⟨-, h1⟩ | ⟨hz1, -⟩
  · have hr := va_runI (e := e) (below := below) (meth := meth) (locs := locs) (b := ad b sz a) (As := ((st.take y).reverse).map (cv b sz)) (rest := (st.drop (y + 1)).map (cv b sz)) ⟨hx, hb, hml, hown, hts⟩ hM' (bytes := m_b x) (maxL := m_L x) (n := y) ⟨⟨rfl, rfl, hRf, by show 8 + (m_L x + 11) + 44 * d ≤ R.locals; omega, pay_in hts hG, by rw [← hcw]; exact List.mem_cons_self, by rw [← hcw]; exact hts _ p5, hts _ p6, p3, hlen, hts _ h1⟩, p7', hts _ p7⟩ ⟨PcM.blind, hpc⟩ rfl hal hL.2.1.1 hst hcat2 dg hRc
    exact fun T hT X => Or.inl (hr T hT X)
  · have hl := hV.2.2.1 _ (nestW_of hE hz1)
    have hr := va_runIN (e := e) (below := below) (meth := meth) (locs := locs) (b := ad b sz a) (As := ((st.take y).reverse).map (cv b sz)) (rest := (st.drop (y + 1)).map (cv b sz)) (host := "PoleShop") ⟨hx, hb, hml, hown, hts⟩ hM' (bytes := m_b x) (maxL := m_L x) (n := y) ⟨⟨⟨rfl, rfl, hRf, by show 8 + (m_L x + 11) + 44 * d ≤ R.locals; omega, pay_in hts hG, by rw [← hcw]; exact List.mem_cons_self⟩, by rw [← hcw]; exact hts _ p5, hts _ p6, p3, hlen, va_Nw.use rfl hl⟩, p7', hts _ p7⟩ ⟨PcM.blind, hpc⟩ rfl hal hL.2.1.1 hst hcat2 dg hRc
    exact fun T hT X => Or.inl (hr T hT X)
/-- behind a call -/
theorem after_call {x pc1 : Nat} {q : Res} {a : Array Value} {rest : List Value} {H : Heap} {locs : List Loc} {ls : Array Slot} (hrun : vx_Run p l e R s m args below meth c H locs c0 s0 q.2.2.1 q.2.2.2 (F0 m pc ls (st.map (cv b sz))) (rest.map (cv b sz)) (QcM D K b sz L xs q a) (XcM D K b sz L xs q) (fun q => sz ≤ q)) (hR : RH D K b sz L xs s.heap h H locs) (hZ : h.2.1 = false → s.heap.size + c0 = sz + h.1) (hL : LV b sz (m_L k) lv ls)
    (hg : gm h.1 h.2.1 0 0 q.2.1.1 q.2.1.2.1 q.2.2.1 q.2.2.2)
    (kr : ∀ v, q.1 = .inl v → MW p l e R s m args below meth c D K b sz L xs Q k (pc + 3) lv (v.toList ++ rest) q.2.1 (c0 + q.2.2.1) (s0 + q.2.2.2))
    (kx : ∀ E, q.1 = .inr E → E < 3 → ∀ (H1 : Heap) (locs1 : List Loc) (q9 : Addr) (ce : Cell), RH D K b sz L xs s.heap q.2.1 H1 locs1 → (q.2.1.2.1 = false → s.heap.size + (c0 + q.2.2.1) = sz + q.2.1.1) → H1[q9]? = some ce → ce.vm = .none → s.vm.findClass (exN E) = some ce.cls → vx_W p l e R s m args below meth c H1 locs1 (c0 + q.2.2.1) (s0 + q.2.2.2) Q (F0 m pc ls (rest.map (cv b sz))) q9) :
    W p l e R s m args below meth c H locs c0 s0 Q (F0 m pc ls (st.map (cv b sz))) := by
  have hZ' : q.2.1.2.1 = false → s.heap.size + (c0 + q.2.2.1) = sz + q.2.1.1 := fun hq => by
    obtain ⟨g1, g2⟩ := hg.2.2 hq
    have := hZ g1
    omega
  intro T hT X
  rcases hrun T hT X with ⟨v, st₀, t, T', L9, h0, X', hL9, e1, e2, ⟨⟨v', hv', hoc, hw⟩, hF⟩, sg⟩ | ⟨q9, st₀, t, T', L9, E, ce, h0, X', hL9, e1, e2, ⟨⟨e9, hv', h9, hE, hw⟩, hF⟩, hce, hcv, hcl, sg⟩
  · obtain ⟨k1, k2, k3⟩ := vx_keep h0 e1 hR.2.1 (fun q _ h => h) (fun q h => h) hL9 hF
    have hv : v = v'.map (cv b sz) := by cases hoc; rfl
    subst hv
    obtain ⟨t2, a1, b1⟩ := kr v' hv' T'.heap (locs ++ L9) ls ⟨by rw [e1]; exact hw.1, k3, hw.2.1, hw.2.2.1, by rw [e1]; exact hw.2.2.2⟩ hZ' hL T' rfl X'
    refine ⟨t2, sg t2 ?_, b1⟩
    have e3 : (v'.toList ++ rest).map (cv b sz) = (v'.map (cv b sz)).toList ++ rest.map (cv b sz) := by cases v' <;> rfl
    rw [← e3]
    exact a1
  · obtain ⟨k1, k2, k3⟩ := vx_keep h0 e1 hR.2.1 (fun q _ h => h) (fun q h => h) hL9 hF
    subst hE
    obtain ⟨t2, a1, b1⟩ := kx e9 hv' h9 T'.heap (locs ++ L9) q9 ce ⟨by rw [e1]; exact hw.1, k3, hw.2.1, hw.2.2.1, by rw [e1]; exact hw.2.2.2⟩ hZ' (by rw [e1]; exact hce) hcv hcl T' rfl X'
    exact ⟨t2, sg.trans a1, b1⟩
end CA
