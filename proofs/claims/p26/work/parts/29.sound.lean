/-! THE MODEL IS SOUND. -/
/-- a handler keeps what was thrown in a local of the method -/
theorem catch_lt : ∀ k, k < 112 → ∀ q ∈ m_bl k, ∀ (n len : Nat) (a : Nat × Nat × Nat) (is : List Ent), (q.2 = (.astore n, len, a) :: is ∨ ∃ n' : Fin 4, (n' : Nat) = n ∧ q.2 = (.astore_n n', len, a) :: is) → n < m_L k := by
  have h : ∀ k ∈ List.range 112, ∀ q ∈ m_bl k, (match q.2 with | (.astore n, _) :: _ => decide (n < m_L k) | (.astore_n n, _) :: _ => decide ((n : Nat) < m_L k) | _ => true) = true := by decide +kernel
  intro k hk q hq n len a is hc
  have h1 := h k (List.mem_range.mpr hk) q hq
  rcases hc with hc | ⟨n', rfl, hc⟩
  · rw [hc] at h1
    exact of_decide_eq_true h1
  · rw [hc] at h1
    exact of_decide_eq_true h1
section RV
variable {p : Program} {l : Launch} {e : Env} {R : Room} {s : State} {m : MethodId} {args : Array Value} {below : List Frame} {meth : Method} {c : Code} {D : va_G} {K : KK} {b sz L : Nat} {xs : Nat → Int32} {Q : State → Prop} {k : Nat}
variable {pc : Nat} {is : List Ent} {lv : List (Option Value)} {st : List Value} {h : MH} {c0 s0 : Nat} {o : Out}
theorem hnd_nil : m_hh k = [] ∨ ∃ q hh, m_hh k = q :: hh := by
  cases m_hh k with
  | nil => exact Or.inl rfl
  | cons q hh => exact Or.inr ⟨q, hh, rfl⟩
set_option maxHeartbeats 4000000 in
theorem run_sound {d : Nat} {r : Res} (C : Cx l p s m args meth c D K b sz L xs k) (hk : k < 112) (hbl : blP k) (hsnd : ∀ x ar h q, x < 111 → Ev d x ar h q → MetM l D K b sz L xs d x ar h q)
    (hRf : d + 1 ≤ R.frames) (hRl : 44 * d + 38 ≤ R.locals) (hRc : r.2.2.1 ≤ R.cells ∧ r.2.2.2 ≤ R.slots)
    (hQ : ∀ E, r.1 = .inr E → Q = vx_MQ below (QcM D K b sz L xs r) (XcM D K b sz L xs r) args s r.2.2.1 r.2.2.2 (fun q => sz ≤ q) ∧ 6 ≤ R.frames ∧ 82 ≤ R.locals ∧ k ≠ 111)
    (hret : ∀ v, r.1 = .inl v → ∀ pc H locs ls, RH D K b sz L xs s.heap r.2.1 H locs → rok k v pc → W p l e R s m args below meth c H locs r.2.2.1 r.2.2.2 Q (F0 m pc ls (v.toList.map (cv b sz)))) :
    ∀ (f pc : Nat) (is : List Ent) (lv : List (Option Value)) (st : List Value) (h : MH) (c0 s0 : Nat), runR (Ev d) k f (pc, is, lv, st, h, c0, s0) r → okS k pc is → MW p l e R s m args below meth c D K b sz L xs Q k pc lv st h c0 s0 := by
  intro f
  induction f with
  | zero => intro pc is lv st h c0 s0 hr; exact hr.elim
  | succ f ih =>
    intro pc is lv st h c0 s0 hr ok
    unfold runR at hr
    cases hs : step k (pc, is, lv, st, h, c0, s0) with
    | none => rw [hs] at hr; exact hr.elim
    | some o =>
      rw [hs] at hr
      have hB : ∀ g, o = .inl g → g.2.2.2.2.2.1 ≤ R.cells ∧ g.2.2.2.2.2.2 ≤ R.slots := by
        intro g ho
        subst ho
        have h1 := runR_gm (Ev_gm d) f g r hr
        exact ⟨Nat.le_trans h1.1 hRc.1, Nat.le_trans h1.2.1 hRc.2⟩
      cases is with
      | nil =>
        simp only [step] at hs
        split at hs
        · next is' hl' =>
          simp only [nx, Option.some.injEq] at hs
          subst hs
          exact ih _ _ _ _ _ _ _ hr (hbl _ (lookup_mem _ _ _ hl'))
        · cases hs
      | cons q is =>
        obtain ⟨i, len, x, y, z⟩ := q
        have hs : stepI (m_cn k) i x y z pc (pc + len) is lv st h c0 s0 = some o := hs
        refine run_one (d := d) (r := r) C hk hRc hQ (by omega) (by omega) hret ok hs hB ?_ ?_ ?_
        · intro pc' is' lv' st' h' c' s' ho hi
          subst ho
          refine ih _ _ _ _ _ _ _ hr ?_
          rcases hi with ⟨h1, h2⟩ | h1
          · rw [h1, h2]
            exact ok.tail
          · rw [h1]
            exact okS.nil
        · intro r' ho
          subst ho
          exact hr
        · intro g ho hkind
          subst ho
          obtain ⟨hx, hb, hml, hts, hown, hV, hF, hlocks, hl, htab, hin⟩ := id C
          obtain ⟨x9, ar, pc', is', lv', st', h', c', s'⟩ := g
          obtain ⟨q, hq, hr⟩ := hr
          have d0 := ok.dec
          have hE := ok.ent
          have hgq := Ev_gm d x9 ar h' q hq
          have key : ∀ (hlt : x9 < 111) (e1 : h' = h) (e2 : lv' = lv) (e3 : c' = c0) (e4 : s' = s0) (e5 : pc' = pc + 3) (e6 : is' = is) (e7 : len = 3) (hrun : ∀ H locs ls, RH D K b sz L xs s.heap h H locs → (h.2.1 = false → H.size = sz + h.1) → LV b sz (m_L k) lv ls → MetM l D K b sz L xs d x9 ar h q → (c0 + q.2.2.1 ≤ R.cells ∧ s0 + q.2.2.2 ≤ R.slots) →
              ∃ a, vx_Run p l e R s m args below meth c H locs c0 s0 q.2.2.1 q.2.2.2 (F0 m pc ls (st.map (cv b sz))) (st'.map (cv b sz)) (QcM D K b sz L xs q a) (XcM D K b sz L xs q) (fun q => sz ≤ q)), MW p l e R s m args below meth c D K b sz L xs Q k pc lv st h c0 s0 := by
            intro hlt e1 e2 e3 e4 e5 e6 e7 hrun
            subst e1 e2 e3 e4 e5 e6 e7
            intro H locs ls hR hZ hL
            refine W_sz fun hle => ?_
            have hse : h'.2.1 = false → H.size = sz + h'.1 := fun hf => by have := hR.lo hF.2.2.2.2; have := hZ hf; omega
            have hM := hsnd x9 ar h' q hlt hq
            have hgr : c' + q.2.2.1 ≤ r.2.2.1 ∧ s' + q.2.2.2 ≤ r.2.2.2 := by
              obtain ⟨qr, qh, qc, qs⟩ := q
              cases qr with
              | inl v =>
                have h1 := runR_gm (Ev_gm d) f _ r hr
                exact ⟨h1.1, h1.2.1⟩
              | inr E =>
                simp only at hr
                rcases hnd_nil (k := k) with hh | ⟨q0, hh0, hh⟩
                · rw [hh] at hr
                  simp only at hr
                  rw [hr]
                  exact ⟨Nat.le_refl _, Nat.le_refl _⟩
                · rw [hh] at hr
                  simp only at hr
                  split at hr
                  · exact hr.elim
                  · split at hr
                    · have h1 := runR_gm (Ev_gm d) f _ r hr
                      exact ⟨h1.1, h1.2.1⟩
                    · have h1 := runR_gm (Ev_gm d) f _ r hr
                      exact ⟨h1.1, h1.2.1⟩
                    · exact hr.elim
            obtain ⟨a, hrun⟩ := hrun H locs ls hR hse hL hM ⟨Nat.le_trans hgr.1 hRc.1, Nat.le_trans hgr.2 hRc.2⟩
            refine after_call (x := 0) (pc1 := 0) (q := q) hrun hR hZ hL hgq (fun v hv => ?_) (fun E hE9 h3 H1 locs1 q9 ce hR1 hZ1 hce hcv hcl => ?_)
            · obtain ⟨qr, qh, qc, qs⟩ := q
              simp only at hv
              subst hv
              exact ih _ _ _ _ _ _ _ hr ok.tail
            · obtain ⟨qr, qh, qc, qs⟩ := q
              simp only at hE9
              subst hE9
              simp only at hr
              rcases hnd_nil (k := k) with hh | ⟨q0, hh0, hh⟩
              · rw [hh] at hr
                simp only at hr
                subst hr
                obtain ⟨q1, -, -, q4⟩ := hQ E rfl
                subst q1
                exact vx_out (fun x hx => by rw [htab q4, hh] at hx; cases hx) hlocks hce hcv hcl (fun t ht _ => ⟨⟨E, rfl, h3, rfl, (Wh.of hR1 (by rw [ht]; exact Nat.le_refl _) (fun q _ => by rw [ht])).1⟩, (Wh.of hR1 (by rw [ht]; exact Nat.le_refl _) (fun q _ => by rw [ht])).2⟩) hR1.2.1.2.2 (Nat.le_refl _) (Nat.le_refl _)
              · rw [hh] at hr
                simp only at hr
                have hcn : m_cn k = 11 := hh_cn k hk (by rw [hh]; exact fun h => by cases h)
                split at hr
                · exact hr.elim
                · next t ht =>
                  obtain ⟨pre, x0, suf, s1, s2, s3, s4, s5⟩ := hnd_spec h3 _ ht
                  have hcat : ∀ kk, W p l e R s m args below meth c H1 locs1 (c' + qc) (s' + qs) Q (F0 m t ls [.ref q9]) → vx_W p l e R s m args below meth c H1 locs1 (c' + qc) (s' + qs) Q (F0 m pc ls kk) q9 := by
                    intro kk hkk
                    obtain ⟨c1, c2, c3⟩ := ctT_ok _ s4
                    have hRL : cnm (m_cn k) = RL := by rw [hcn]; rfl
                    refine vx_catch (own := RL) (name := exN E) (E := exN E) (by rw [← hRL]; exact hown) (tableOf pre) ⟨x0.1, x0.2.1, x0.2.2.1, x0.2.2.2⟩ (tableOf suf) (by rw [htab (fun e => by subst e; exact absurd hh (fun h => by cases h)), hh, s1]; simp [tableOf]) ?_ ?_ c3 (hts _ c1) (va_Nw.use rfl (hV.2.1 _ ?_)) hce hcv hcl (by show W _ _ _ _ _ _ _ _ _ _ _ _ _ _ _ (F0 m x0.2.2.1 ls [.ref q9]); rw [s5]; exact hkk)
                    · intro z hz
                      obtain ⟨z0, hz0, rfl⟩ := List.mem_map.mp hz
                      rcases s2 z0 hz0 with h9 | ⟨E', h9, h10⟩
                      · refine Or.inl ?_
                        show (decide (z0.1 ≤ pc) && decide (pc < z0.2.1)) = false
                        have h9 : ¬ (z0.1 ≤ pc ∧ pc < z0.2.1) := h9
                        simp only [Bool.and_eq_false_iff, decide_eq_false_iff_not]
                        omega
                      · obtain ⟨d1, d2, d3⟩ := ctT_ok _ h9
                        exact Or.inr ⟨d3, exN E', hts _ d1, hV.2.2.2.2.1 E E' h3 (ctT_lt _ h9) (fun h => h10 h.symm)⟩
                    · show (decide (x0.1 ≤ pc) && decide (pc < x0.2.1)) = true
                      have h9 : x0.1 ≤ pc ∧ pc < x0.2.1 := s3
                      simp only [Bool.and_eq_true, decide_eq_true_eq]
                      exact h9
                    · rcases exN_lt h3 with rfl | rfl | rfl <;> simp [exW]
                  split at hr
                  · next n9 a9 is9 hl9 =>
                    have okh := hbl _ (lookup_mem _ _ _ hl9)
                    have okh : okS k t ((.astore n9, 2, a9) :: is9) := okh
                    refine hcat _ ?_
                    have hn9 : n9 < m_L k := by
                      by_cases hq9 : n9 < m_L k
                      · exact hq9
                      · exfalso
                        have := catch_lt k hk _ (lookup_mem _ _ _ hl9) n9 2 a9 is9 (Or.inl rfl)
                        exact hq9 this
                    exact lv_astore hx hb okh.dec hL.has hn9 rfl (fun ls' h9 => ih _ _ _ _ _ _ _ hr okh.tail H1 locs1 ls' hR1 hZ1 (hL.store none (fun v hv => by cases hv) h9))
                  · next n9 a9 is9 hl9 =>
                    have okh := hbl _ (lookup_mem _ _ _ hl9)
                    have okh : okS k t ((.astore_n n9, 1, a9) :: is9) := okh
                    refine hcat _ ?_
                    have hn9 : (n9 : Nat) < m_L k := catch_lt k hk _ (lookup_mem _ _ _ hl9) n9 1 a9 is9 (Or.inr ⟨n9, rfl, rfl⟩)
                    exact lv_astore_n hx hb okh.dec rfl hL.has hn9 rfl (fun ls' h9 => ih _ _ _ _ _ _ _ hr okh.tail H1 locs1 ls' hR1 hZ1 (hL.store none (fun v hv => by cases hv) h9))
                  · exact hr.elim
          rcases hkind with ⟨ix, rfl⟩ | ⟨ix, rfl⟩ | ⟨ix, rfl⟩
          · simp only [stepI] at hs
            obtain ⟨i1, i2, i3⟩ := s_inv_eq hs
            cases i3
            simp only [okE, Bool.and_eq_true, beq_iff_eq, List.contains_eq_mem, decide_eq_true_eq] at hE
            obtain ⟨⟨⟨⟨rfl, h1⟩, h2⟩, h3⟩, h4⟩ := hE
            refine key h4 rfl rfl rfl rfl rfl rfl rfl (fun H locs ls hR hse hL hM hRc' => ⟨_, run_S hx hb hml hts hown hV hF hRf hRl hRc' h1 h2 h3 h4 i1 i2 d0 hM ?_ hR hse hL⟩)
            intro hne
            cases d with
            | zero => exact hq.elim
            | succ d => exact hq.1.2.2.1 (Or.inr hne)
          · have h8 := hs
            simp only [stepI] at h8
            unfold s_invO at h8
            split at h8
            · next a hy =>
              split at h8
              · next ci fs ha =>
                split at h8
                · next hci =>
                  subst hci
                  obtain ⟨i1, i2, i3⟩ := s_inv_eq h8
                  cases i3
                  simp only [okE, Bool.and_eq_true, beq_iff_eq, List.contains_eq_mem, decide_eq_true_eq] at hE
                  obtain ⟨⟨⟨⟨⟨rfl, h1⟩, h2⟩, h3⟩, h4⟩, h5⟩ := hE
                  exact key h5 rfl rfl rfl rfl rfl rfl rfl (fun H locs ls hR hse hL hM hRc' => ⟨_, run_V hx hb hml hts hown hV hF hRf hRl hRc' h1 h2 h3 h4 h5 i2 d0 hy ha hM hR hse hL⟩)
                · cases h8
              · cases h8
            · cases h8
          · have h8 := hs
            simp only [stepI] at h8
            unfold s_invI at h8
            split at h8
            · next a hy =>
              split at h8
              · split at h8
                · split at h8
                  · simp only [nx, Option.some.injEq] at h8
                    cases h8
                  · cases h8
                · cases h8
              · next hne =>
                obtain ⟨i1, i2, i3⟩ := s_inv_eq h8
                cases i3
                simp only [okE, Bool.and_eq_true, Bool.or_eq_true, beq_iff_eq, List.contains_eq_mem, decide_eq_true_eq] at hE
                obtain ⟨rfl, hE⟩ := hE
                rcases hE with ((⟨h1, -⟩ | h1) | ⟨⟨⟨h1, h2⟩, h3⟩, h4⟩)
                · exact absurd h1 hne
                · exfalso
                  subst h1
                  cases d with
                  | zero => exact hq
                  | succ d =>
                    have h88 := hq.1.1
                    have e8 : m_L 7777 = 0 := by decide +kernel
                    rw [e8] at h88
                    have : ((st.take (y + 1)).reverse).length = y + 1 := by simp; omega
                    omega
                · refine key h4 rfl rfl rfl rfl rfl rfl rfl (fun H locs ls hR hse hL hM hRc' => ⟨_, run_I hx hb hml hts hown hV hF hRf hRl hRc' h1 h2 h3 h4 i2 d0 hy hM ?_ hR hse hL⟩)
                  cases d with
                  | zero => exact hq.elim
                  | succ d => exact hq.1.2.2.1 (Or.inl h2)
            · cases h8
end RV
