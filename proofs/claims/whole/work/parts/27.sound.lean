/-! THE MODEL IS SOUND: what a method does in the model it does in the machine. -/
def rok (k : Nat) (v : Option Value) (pc : Nat) : Prop := match v with
  | none => decode (m_b k) pc = .ok (.return_, 1) ∧ rkf (m_ret k) = 0
  | some (.int x) => decode (m_b k) pc = .ok (.ireturn, 1) ∧ (rkf (m_ret k) = 1 ∨ (rkf (m_ret k) = 2 ∧ (x = 0 ∨ x = 1)))
  | some (.ref _) => decode (m_b k) pc = .ok (.areturn, 1) ∧ rkf (m_ret k) = 3
  | _ => False
theorem exN_lt {E : Nat} (h : E < 3) : E = 0 ∨ E = 1 ∨ E = 2 := by omega
theorem hh_cn : ∀ k, k < 174 → m_hh k ≠ [] → m_cn k = 11 := by
  have h : ∀ k ∈ List.range 174, m_hh k ≠ [] → m_cn k = 11 := by decide +kernel
  exact fun k hk => h k (List.mem_range.mpr hk)
theorem thr_cn : ∀ q ∈ thrT, q.1 = 9 ∧ q.2.1 < 3 := by decide +kernel
section SO
variable {p : Program} {l : Launch} {e : Env} {R : Room} {s : State} {m : MethodId} {args : Array Value} {below : List Frame} {meth : Method} {c : Code} {D : va_G} {K : KK} {b sz L : Nat} {xs : Nat → Int32} {Q : State → Prop} {k : Nat}
variable {pc : Nat} {is : List Ent} {lv : List (Option Value)} {st : List Value} {h : MH} {c0 s0 : Nat} {o : Out}
/-- what a throw needs, of the exception's row in the tables -/
theorem thr_facts {E ik ic si : Nat} (hts : ∀ w ∈ lwg, w.before args s = true) (hV : FxV D K s) (hT : (m_cn k, E, ik, ic, si) ∈ thrT) : m_cn k = 9 ∧ E < 3 ∧ cnm (m_cn k) = RX9 ∧ (Cond.classLink (cnm (m_cn k)) ik (exN E)).before args s = true ∧ (Cond.initialized (exN E)).before args s = true ∧ Bundle.fit (exN E) = true ∧ (∀ w ∈ vx_atS (cnm (m_cn k)) ic (exN E) exS, w.before args s = true) ∧ (∀ w ∈ Cond.classLink (cnm (m_cn k)) ik (exN E) :: Cond.initialized (exN E) :: vx_atS (cnm (m_cn k)) ic (exN E) exS, vx_ot w = true) ∧ ∃ tx sa, vk_R (cnm (m_cn k)) si tx sa s := by
  obtain ⟨t1, ⟨tx, t2⟩, t3⟩ := thrT_ok _ hT
  have t1 : (m_cn k, E, ik, ic) ∈ thkT := t1
  have t2 : (si, tx) ∈ strT := t2
  have t3 : cnm (m_cn k) = RX9 := t3
  obtain ⟨t4, t5⟩ := thr_cn _ hT
  have t4 : m_cn k = 9 := t4
  have t5 : E < 3 := t5
  obtain ⟨q1, q2, q3, q4, q5⟩ := thkT_ok _ t1
  have q4 : ∀ w ∈ (vx_atS (cnm (m_cn k)) ic (exN E) exS).filter goodWord, w ∈ lwg := q4
  have q6 : ∀ w ∈ (vx_atS (cnm (m_cn k)) ic (exN E) exS).filter (fun w => !goodWord w), w ∈ exW := exW_of (m_cn k, E, ik, ic) t1
  have hat : ∀ w ∈ vx_atS (cnm (m_cn k)) ic (exN E) exS, w.before args s = true := by
    generalize vx_atS (cnm (m_cn k)) ic (exN E) exS = LL at q4 q6 ⊢
    exact vx_hat (L := LL) (B := exW) (fun w hw => hts w (q4 w hw)) q6 (fun w hw => va_Nw.use (exW_on w hw) (hV.2.1 w hw))
  obtain ⟨sa, hsa⟩ := hV.2.2.2.1 _ t2
  have hsa : vk_R RX9 si tx sa s := hsa
  rw [← t3] at hsa
  exact ⟨t4, t5, t3, hts _ q1, hts _ q2, q3, hat, q5, tx, sa, hsa⟩
theorem Wh.of {H : Heap} {locs : List Loc} {t : State} (hR : RH D K b sz L xs s.heap h H locs) (h1 : H.size ≤ t.heap.size) (h2 : ∀ q : Nat, q < H.size → t.heap[q]? = H[q]?) : Wh D K b sz L xs h t ∧ va_F (fun q => sz ≤ q) s t :=
  ⟨⟨hR.1.kept (fun k x hx => h2 x.1 ((hR.1 k x hx).lt)), hR.2.2.1, hR.2.2.2⟩, ⟨Nat.le_trans hR.2.1.1 h1, fun q q1 q2 => (h2 q (Nat.lt_of_lt_of_le q1 hR.2.1.1)).trans (hR.2.1.2.1 q q1 q2)⟩⟩
theorem sd_thr {ix x E : Nat} {r : Res} (hx : p.tables.exec = Jvm.exec) (hb : c.code = m_b k) (hml : c.maxLocals = m_L k) (hts : ∀ w ∈ lwg, w.before args s = true) (hown : s.vm.findClass (cnm (m_cn k)) = some m.cls) (hV : FxV D K s) (hF : FxH b sz L xs s) (hlocks : meth.locks = false) (hl : l.stackTraces = false) (htab : m_hh k = [] → ∀ x ∈ c.exceptionTable.toList, False) (hk : k < 174)
    (hRf : 6 ≤ R.frames) (hRl : 82 ≤ R.locals) (hRc : r.2.2.1 ≤ R.cells ∧ r.2.2.2 ≤ R.slots) (hx9 : ¬ x < 9) (ok : okS k pc ((.new ix, 3, x, E, c0) :: is)) {c1 s1 : Nat} (hs : s_new (m_cn k) ix x (pc + 3) is lv st h c1 s1 = some (.inr (.inl r))) (hQ : Q = vx_MQ below (QcM D K b sz L xs r) (XcM D K b sz L xs r) args s r.2.2.1 r.2.2.2 (fun q => sz ≤ q)) : MW p l e R s m args below meth c D K b sz L xs Q k pc lv st h c1 s1 := by
  intro H locs ls hR hZ hL
  subst hQ
  unfold s_new at hs
  rw [if_neg hx9] at hs
  have hhh : m_cn k = 9 → m_hh k = [] := fun h9 => by
    by_cases q : m_hh k = []
    · exact q
    · exact absurd ((hh_cn k hk q).symm.trans h9) (by decide)
  split at hs
  · next a1 si a2 ic a3 a4 tl =>
    split at hs
    · next hc =>
      obtain ⟨hT, hst⟩ := hc
      simp only [Option.some.injEq, Sum.inr.injEq, Sum.inl.injEq] at hs
      subst hs
      subst hst
      obtain ⟨f1, f2, f3, f4, f5, f6, f7, f8, tx, sa, f9⟩ := thr_facts hts hV hT
      have d3 := ok.tail.dec
      have d4 := ok.tail.tail.dec
      have d6 := ok.tail.tail.tail.dec
      have d9 := ok.tail.tail.tail.tail.dec
      exact vx_throwS (rest := []) hx hb hl hown f6 (by decide +kernel) f4 f5 f9 f7 f8 hF.1 hF.2.1 hR.2.1 (by rw [hml]; exact hL.2.1.1) ok.dec d3 d4 d6 d9 (fun x hx => (htab (hhh f1) x hx).elim) (by exact hRf) (by exact hRl) hRc.1 hRc.2 hlocks
        (fun t _ q1 q2 => ⟨⟨_, rfl, f2, rfl, (Wh.of hR q1 q2).1⟩, (Wh.of hR q1 q2).2⟩) hR.2.1.2.2 (Nat.le_refl _) (Nat.le_refl _)
    · cases hs
  · next a1 si a2 ic a3 a4 tl =>
    split at hs
    · next hc =>
      obtain ⟨hT, hst⟩ := hc
      simp only [Option.some.injEq, Sum.inr.injEq, Sum.inl.injEq] at hs
      subst hs
      subst hst
      obtain ⟨f1, f2, f3, f4, f5, f6, f7, f8, tx, sa, f9⟩ := thr_facts hts hV hT
      have d3 := ok.tail.dec
      have d4 := ok.tail.tail.dec
      have d6 := ok.tail.tail.tail.dec
      have d9 := ok.tail.tail.tail.tail.dec
      exact vx_throwSW (rest := []) hx hb hl hown f6 (by decide +kernel) f4 f5 f9 f7 f8 hF.1 hF.2.1 hR.2.1 (by rw [hml]; exact hL.2.1.1) ok.dec d3 d4 d6 d9 (fun x hx => (htab (hhh f1) x hx).elim) (by exact hRf) (by exact hRl) hRc.1 hRc.2 hlocks
        (fun t _ q1 q2 => ⟨⟨_, rfl, f2, rfl, (Wh.of hR q1 q2).1⟩, (Wh.of hR q1 q2).2⟩) hR.2.1.2.2 (Nat.le_refl _) (Nat.le_refl _)
    · cases hs
  · cases hs
end SO
