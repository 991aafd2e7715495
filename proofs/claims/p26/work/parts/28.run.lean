/-! The run of one method. -/
theorem hnd_spec {pc E t : Nat} (hE : E < 3) : ∀ (hh : List (Nat × Nat × Nat × Nat)), hnd pc E hh = some t → ∃ pre x suf, hh = pre ++ x :: suf ∧ (∀ z ∈ pre, ¬ (z.1 ≤ pc ∧ pc < z.2.1) ∨ ∃ E', (z.2.2.2, E') ∈ ctT ∧ E' ≠ E) ∧ (x.1 ≤ pc ∧ pc < x.2.1) ∧ (x.2.2.2, E) ∈ ctT ∧ x.2.2.1 = t
  | [], h => by cases h
  | q :: hh, h => by
    unfold hnd at h
    split at h
    · next hc =>
      split at h
      · next E' hE' =>
        split at h
        · next he =>
          subst he
          cases h
          exact ⟨[], q, hh, rfl, fun z hz => (by cases hz), hc, lookup_mem _ _ _ hE', rfl⟩
        · next he =>
          obtain ⟨pre, x, suf, h1, h2, h3⟩ := hnd_spec hE hh h
          refine ⟨q :: pre, x, suf, by rw [h1]; rfl, fun z hz => ?_, h3⟩
          rcases List.mem_cons.mp hz with rfl | hz
          · exact Or.inr ⟨E', lookup_mem _ _ _ hE', he⟩
          · exact h2 z hz
      · cases h
    · next hc =>
      obtain ⟨pre, x, suf, h1, h2, h3⟩ := hnd_spec hE hh h
      refine ⟨q :: pre, x, suf, by rw [h1]; rfl, fun z hz => ?_, h3⟩
      rcases List.mem_cons.mp hz with rfl | hz
      · exact Or.inl hc
      · exact h2 z hz
theorem s_table_nil {d lo hi : Int} {offs : Array Int} {p0 : Nat} {lv : List (Option Value)} {st : List Value} {h : MH} {c s : Nat} {pc' : Nat} {is' : List Ent} {g : List (Option Value) × List Value × MH × Nat × Nat} (hs : s_table d lo hi offs p0 lv st h c s = some (.inl (pc', is', g))) : is' = [] := by
  unfold s_table at hs
  split at hs
  · split at hs
    · obtain ⟨t, -, q⟩ := jp_some hs
      cases q
      rfl
    · split at hs
      · obtain ⟨t, -, q⟩ := jp_some hs
        cases q
        rfl
      · cases hs
  · cases hs
theorem lookup_mem2 {α β : Type} [BEq α] [LawfulBEq α] : ∀ (l : List (α × β)) (k : α) (x : β), l.lookup k = some x → (k, x) ∈ l
  | [], _, _, h => by cases h
  | (i, y) :: l, k, x, h => by
    rw [List.lookup_cons] at h
    by_cases e : k = i
    · subst e
      rw [beq_self_eq_true] at h
      cases h
      exact List.mem_cons_self
    · have e2 : (k == i) = false := by simp [e]
      rw [e2] at h
      exact List.mem_cons_of_mem _ (lookup_mem2 l k x (by simpa using h))
theorem ctT_lt : ∀ q ∈ ctT, q.2 < 3 := by decide +kernel
/-- what a method's walk stands on -/
def Cx (l : Launch) (p : Program) (s : State) (m : MethodId) (args : Array Value) (meth : Method) (c : Code) (D : va_G) (K : KK) (b sz L : Nat) (xs : Nat → Int32) (k : Nat) : Prop :=
  p.tables.exec = Jvm.exec ∧ c.code = m_b k ∧ c.maxLocals = m_L k ∧ (∀ w ∈ lwg, w.before args s = true) ∧ s.vm.findClass (cnm (m_cn k)) = some m.cls ∧ FxV D K s ∧ FxH b sz L xs s ∧ meth.locks = false ∧ l.stackTraces = false ∧ (k ≠ 111 → c.exceptionTable.toList = tableOf (m_hh k)) ∧ (m_kd k = 2 → meth.name = "<init>")
section RU
variable {p : Program} {l : Launch} {e : Env} {R : Room} {s : State} {m : MethodId} {args : Array Value} {below : List Frame} {meth : Method} {c : Code} {D : va_G} {K : KK} {b sz L : Nat} {xs : Nat → Int32} {Q : State → Prop} {k : Nat}
variable {pc : Nat} {is : List Ent} {lv : List (Option Value)} {st : List Value} {h : MH} {c0 s0 : Nat} {o : Out}
set_option maxHeartbeats 4000000 in
/-- one instruction that calls nothing -/
theorem run_one {d : Nat} {r : Res} {i : ClassFile.Instr} {len x y z : Nat} (C : Cx l p s m args meth c D K b sz L xs k) (hk : k < 112) (hRc : r.2.2.1 ≤ R.cells ∧ r.2.2.2 ≤ R.slots)
    (hQ : ∀ E, r.1 = .inr E → Q = vx_MQ below (QcM D K b sz L xs r) (XcM D K b sz L xs r) args s r.2.2.1 r.2.2.2 (fun q => sz ≤ q) ∧ 6 ≤ R.frames ∧ 82 ≤ R.locals ∧ k ≠ 111)
    (hf1 : 1 ≤ R.frames) (hl1 : 31 ≤ R.locals)
    (hret : ∀ v, r.1 = .inl v → ∀ pc H locs ls, RH D K b sz L xs s.heap r.2.1 H locs → rok k v pc → W p l e R s m args below meth c H locs r.2.2.1 r.2.2.2 Q (F0 m pc ls (v.toList.map (cv b sz))))
    (ok : okS k pc ((i, len, x, y, z) :: is)) (hs : stepI (m_cn k) i x y z pc (pc + len) is lv st h c0 s0 = some o)
    (hB : ∀ g, o = .inl g → g.2.2.2.2.2.1 ≤ R.cells ∧ g.2.2.2.2.2.2 ≤ R.slots)
    (kn : ∀ pc' is' lv' st' h' c' s', o = .inl (pc', is', lv', st', h', c', s') → ((pc' = pc + len ∧ is' = is) ∨ is' = []) → MW p l e R s m args below meth c D K b sz L xs Q k pc' lv' st' h' c' s')
    (kr : ∀ r', o = .inr (.inl r') → r = r')
    (kc : ∀ g, o = .inr (.inr g) → ((∃ ix, i = .invokestatic ix) ∨ (∃ ix, i = .invokevirtual ix) ∨ ∃ ix, i = .invokespecial ix) → MW p l e R s m args below meth c D K b sz L xs Q k pc lv st h c0 s0) : MW p l e R s m args below meth c D K b sz L xs Q k pc lv st h c0 s0 := by
  obtain ⟨hx, hb, hml, hts, hown, hV, hF, hlocks, hl, htab, hin⟩ := C
  have d0 := ok.dec
  have hE := ok.ent
  have hX := hF.2.2.1
  have hbl : b < s.heap.size := Nat.lt_of_lt_of_le hF.2.2.2.1 hF.2.2.2.2
  cases i with
  | iload n => simp only [okE, beq_iff_eq] at hE; subst hE; exact sd_iload hx hb d0 hs kn
  | iload_n n => simp only [okE, beq_iff_eq] at hE; subst hE; exact sd_iload_n hx hb d0 hs kn
  | aload n => simp only [okE, beq_iff_eq] at hE; subst hE; exact sd_aload hx hb d0 hs kn
  | aload_n n => simp only [okE, beq_iff_eq] at hE; subst hE; exact sd_aload_n hx hb d0 hs kn
  | istore n => simp only [okE, beq_iff_eq] at hE; subst hE; exact sd_istore hx hb d0 hs kn
  | istore_n n => simp only [okE, beq_iff_eq] at hE; subst hE; exact sd_istore_n hx hb d0 hs kn
  | astore n => simp only [okE, beq_iff_eq] at hE; subst hE; exact sd_astore hx hb d0 hs kn
  | astore_n n => simp only [okE, beq_iff_eq] at hE; subst hE; exact sd_astore_n hx hb d0 hs kn
  | iinc n d9 => simp only [okE, beq_iff_eq] at hE; subst hE; exact sd_iinc hx hb d0 hs kn
  | iconst n => simp only [okE, beq_iff_eq] at hE; subst hE; exact sd_iconst hx hb d0 hs kn
  | bipush n => simp only [okE, beq_iff_eq] at hE; subst hE; exact sd_bipush hx hb d0 hs kn
  | sipush n => simp only [okE, beq_iff_eq] at hE; subst hE; exact sd_sipush hx hb d0 hs kn
  | iadd => simp only [okE, beq_iff_eq] at hE; subst hE; exact sd_iadd hx hb d0 hs kn
  | isub => simp only [okE, beq_iff_eq] at hE; subst hE; exact sd_isub hx hb d0 hs kn
  | imul => simp only [okE, beq_iff_eq] at hE; subst hE; exact sd_imul hx hb d0 hs kn
  | iand => simp only [okE, beq_iff_eq] at hE; subst hE; exact sd_iand hx hb d0 hs kn
  | ishr => simp only [okE, beq_iff_eq] at hE; subst hE; exact sd_ishr hx hb d0 hs kn
  | idiv => simp only [okE, beq_iff_eq] at hE; subst hE; exact sd_idiv hx hb d0 hs kn
  | irem => simp only [okE, beq_iff_eq] at hE; subst hE; exact sd_irem hx hb d0 hs kn
  | ineg => simp only [okE, beq_iff_eq] at hE; subst hE; exact sd_ineg hx hb d0 hs kn
  | i2l => simp only [okE, beq_iff_eq] at hE; subst hE; exact sd_i2l hx hb d0 hs kn
  | lcmp => simp only [okE, beq_iff_eq] at hE; subst hE; exact sd_lcmp hx hb d0 hs kn
  | dup => simp only [okE, beq_iff_eq] at hE; subst hE; exact sd_dup hx hb d0 hs kn
  | ldc ix =>
    have h8 := hs
    simp only [stepI] at h8
    unfold s_ldc at h8
    split at h8
    · next hl9 =>
      have e9 : len = 2 := by omega
      subst e9
      split at h8
      · next v hv =>
        simp only [nx, Option.some.injEq] at h8
        intro H locs ls hR hZ hL
        exact lv_ldc hx hb hown (hts _ (cstT_ok _ (lookup_mem2 _ _ _ hv))) d0 (kn _ _ _ _ _ _ _ h8.symm (Or.inl ⟨rfl, rfl⟩) _ _ _ hR hZ hL)
      · cases h8
    · cases h8
  | dup2 => simp only [okE, beq_iff_eq] at hE; subst hE; exact sd_dup2 hx hb d0 hs kn
  | pop => simp only [okE, beq_iff_eq] at hE; subst hE; exact sd_pop hx hb d0 hs kn
  | goto off => simp only [okE, beq_iff_eq] at hE; subst hE; exact sd_goto hx hb d0 hs kn
  | tableswitch d9 lo hi offs => exact sd_table (is := is) hx hb d0 hs (fun pc' is' lv' st' h' c' s' ho hi => kn pc' is' lv' st' h' c' s' ho (Or.inr (s_table_nil (ho ▸ hs))))
  | if_icmp cd off =>
    simp only [okE, beq_iff_eq] at hE
    subst hE
    cases cd with
    | eq => exact sd_icmp_eq hx hb d0 hs kn
    | ne => exact sd_icmp_ne hx hb d0 hs kn
    | lt => exact sd_icmp_lt hx hb d0 hs kn
    | ge => exact sd_icmp_ge hx hb d0 hs kn
    | gt => exact sd_icmp_gt hx hb d0 hs kn
    | le => exact sd_icmp_le hx hb d0 hs kn
  | ifCond cd off =>
    simp only [okE, beq_iff_eq] at hE
    subst hE
    cases cd with
    | eq => exact sd_if_eq hx hb d0 hs kn
    | ne => exact sd_if_ne hx hb d0 hs kn
    | lt => exact sd_if_lt hx hb d0 hs kn
    | ge => exact sd_if_ge hx hb d0 hs kn
    | gt => exact sd_if_gt hx hb d0 hs kn
    | le => exact sd_if_le hx hb d0 hs kn
  | getfield ix =>
    simp only [okE, Bool.and_eq_true, beq_iff_eq, List.contains_eq_mem, decide_eq_true_eq] at hE
    obtain ⟨rfl, hE⟩ := hE
    exact sd_getf hx hb hts hown hV.1 hE d0 hs kn
  | putfield ix =>
    simp only [okE, Bool.and_eq_true, Bool.or_eq_true, beq_iff_eq, List.contains_eq_mem, decide_eq_true_eq] at hE
    obtain ⟨⟨⟨rfl, h1⟩, h2⟩, h3⟩ := hE
    exact sd_putf hx hb hts hown hV.1 h1 h2 h3 hin d0 hs kn
  | iaload => simp only [okE, beq_iff_eq] at hE; subst hE; exact sd_iald hx hb hts hown hV.1 hX hbl hF.2.2.2.1 d0 hs kn
  | iastore => simp only [okE, beq_iff_eq] at hE; subst hE; exact sd_iast hx hb hts hown hV.1 d0 hs kn
  | aaload => simp only [okE, beq_iff_eq] at hE; subst hE; exact sd_aald hx hb hts hown hV.1 d0 hs kn
  | aastore => simp only [okE, beq_iff_eq] at hE; subst hE; exact sd_aast hx hb hts hown hV.1 hV.2.2.2.2.2.1 d0 hs kn
  | arraylength => simp only [okE, beq_iff_eq] at hE; subst hE; exact sd_alen hx hb hts hown hV.1 hX hbl hF.2.2.2.1 d0 hs kn
  | newarray t => simp only [okE, beq_iff_eq] at hE; subst hE; exact sd_newa hx hb hts hown hV.1 hF.2.2.2.2 d0 hs hB kn
  | anewarray ix =>
    simp only [okE, Bool.and_eq_true, beq_iff_eq, List.contains_eq_mem, decide_eq_true_eq] at hE
    obtain ⟨rfl, hE⟩ := hE
    exact sd_ana hx hb hts hown hV.1 hF.2.2.2.2 hV.2.2.2.2.2.2.1 hE d0 hs hB kn
  | multianewarray ix n =>
    simp only [okE, Bool.and_eq_true, beq_iff_eq, List.contains_eq_mem, decide_eq_true_eq] at hE
    obtain ⟨⟨rfl, rfl⟩, hE⟩ := hE
    exact sd_mna hx hb hts hown hV.1 hF.2.2.2.2 (ovA_use hV.2.2.2.2.2.2.2) hE d0 hs hB kn
  | new ix =>
    simp only [okE, Bool.and_eq_true, beq_iff_eq] at hE
    obtain ⟨rfl, hE⟩ := hE
    by_cases hx9 : x < 8
    · rw [if_pos (show x < 9 by omega)] at hE
      simp only [List.contains_eq_mem, decide_eq_true_eq] at hE
      exact sd_new hx hb hts hown hV.1 hF.2.2.2.2 hx9 hE d0 hs hB kn
    · obtain ⟨r', hr'⟩ : ∃ r', o = .inr (.inl (.inr (x - 100), r')) := by
        have h9 := hs
        simp only [stepI] at h9
        unfold s_new at h9
        rw [if_neg hx9] at h9
        split at h9
        · split at h9
          · simp only [Option.some.injEq] at h9
            exact ⟨_, h9.symm⟩
          · cases h9
        · split at h9
          · simp only [Option.some.injEq] at h9
            exact ⟨_, h9.symm⟩
          · cases h9
        · cases h9
      subst hr'
      have hr := kr _ rfl
      obtain ⟨q1, q2, q3, q4⟩ := hQ (x - 100) (by rw [hr])
      rw [← hr] at hs
      exact sd_thr hx hb hml hts hown hV hF hlocks hl (fun h0 x hx => by rw [htab q4, h0] at hx; cases hx) hk q2 q3 hRc hx9 ok hs q1
  | ireturn =>
    simp only [okE, Bool.and_eq_true, Bool.or_eq_true, beq_iff_eq] at hE
    obtain ⟨rfl, hE⟩ := hE
    have h9 := hs
    simp only [stepI] at h9
    unfold s_iret s_ret at h9
    split at h9
    · next v =>
      split at h9
      · next hv =>
        simp only [Option.some.injEq] at h9
        subst h9
        have hr := kr _ rfl
        subst hr
        intro H locs ls hR hZ hL
        refine hret (some (.int v)) rfl pc H locs ls hR ⟨d0, ?_⟩
        rcases hE with ⟨h1, h2⟩ | ⟨h1, h2⟩
        · exact Or.inl h1
        · refine Or.inr ⟨h1, ?_⟩
          rcases hv with hv | hv
          · exact absurd (hv.symm.trans h2) (by decide)
          · exact hv
      · cases h9
    · cases h9
  | areturn =>
    simp only [okE, Bool.and_eq_true, beq_iff_eq] at hE
    obtain ⟨rfl, hE⟩ := hE
    have h9 := hs
    simp only [stepI] at h9
    unfold s_aret s_ret at h9
    split at h9
    · next v =>
      simp only [Option.some.injEq] at h9
      subst h9
      have hr := kr _ rfl
      subst hr
      intro H locs ls hR hZ hL
      exact hret (some (.ref v)) rfl pc H locs ls hR ⟨d0, hE⟩
    · cases h9
  | return_ =>
    simp only [okE, Bool.and_eq_true, beq_iff_eq] at hE
    obtain ⟨rfl, hE⟩ := hE
    have h9 := hs
    simp only [stepI] at h9
    unfold s_vret s_ret at h9
    split at h9
    · simp only [Option.some.injEq] at h9
      subst h9
      have hr := kr _ rfl
      subst hr
      intro H locs ls hR hZ hL
      exact hret none rfl pc H locs ls hR ⟨d0, hE⟩
    · cases h9
  | invokestatic ix =>
    have h9 := hs
    simp only [stepI] at h9
    obtain ⟨-, -, h9⟩ := s_inv_eq h9
    exact kc _ h9 (Or.inl ⟨_, rfl⟩)
  | invokevirtual ix =>
    have h9 := hs
    simp only [stepI] at h9
    unfold s_invO at h9
    split at h9
    · split at h9
      · split at h9
        · obtain ⟨-, -, h9⟩ := s_inv_eq h9
          exact kc _ h9 (Or.inr (Or.inl ⟨_, rfl⟩))
        · cases h9
      · cases h9
    · cases h9
  | invokespecial ix =>
    have h9 := hs
    simp only [stepI] at h9
    unfold s_invI at h9
    split at h9
    · split at h9
      · next hx0 =>
        split at h9
        · next a st' _ =>
          split at h9
          · next hc8 =>
            simp only [nx, Option.some.injEq] at h9
            simp only [okE, Bool.and_eq_true, Bool.or_eq_true, beq_iff_eq, List.contains_eq_mem, decide_eq_true_eq] at hE
            obtain ⟨rfl, hE⟩ := hE
            have hoi : (m_cn k, ix) ∈ oiT := by
              rcases hE with ((⟨-, h1⟩ | h1) | ⟨⟨⟨-, -⟩, -⟩, h1⟩)
              · exact h1
              · omega
              · rw [hx0] at h1
                exact absurd h1 (by decide)
            intro H locs ls hR hZ hL
            refine W.objInit hx hb hown (hts _ (oiT_ok _ hoi)) (hts _ w_oi) (hts _ w_oc) (g := F0 m pc ls ((.ref a :: st').map (cv b sz))) (rest := st'.map (cv b sz)) rfl (by rw [hml]; exact hL.2.1.1) rfl d0 hf1 ?_ (kn _ _ _ _ _ _ _ h9.symm (Or.inl ⟨rfl, rfl⟩) H locs ls hR hZ hL)
            rw [cv_cats]
            show 2 * 0 + _ + 12 ≤ _
            omega
          · cases h9
        · cases h9
      · obtain ⟨-, -, h9⟩ := s_inv_eq h9
        exact kc _ h9 (Or.inr (Or.inr ⟨_, rfl⟩))
    · cases h9
  | _ => simp only [stepI] at hs; cases hs
end RU
