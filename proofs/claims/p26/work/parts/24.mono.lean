/-! What the model has made only grows, and is counted. -/
def gm (N : Nat) (fz : Bool) (c s : Nat) (N' : Nat) (fz' : Bool) (c' s' : Nat) : Prop := c ≤ c' ∧ s ≤ s' ∧ (fz' = false → fz = false ∧ N' + c = N + c')
theorem gm.rf {N : Nat} {fz : Bool} {c s : Nat} : gm N fz c s N fz c s := ⟨Nat.le_refl _, Nat.le_refl _, fun h => ⟨h, rfl⟩⟩
theorem gm.tr {N N1 N2 c c1 c2 s s1 s2 : Nat} {f f1 f2 : Bool} (h : gm N f c s N1 f1 c1 s1) (h' : gm N1 f1 c1 s1 N2 f2 c2 s2) : gm N f c s N2 f2 c2 s2 := by
  refine ⟨Nat.le_trans h.1 h'.1, Nat.le_trans h.2.1 h'.2.1, fun q => ?_⟩
  obtain ⟨a1, a2⟩ := h'.2.2 q
  obtain ⟨b1, b2⟩ := h.2.2 a1
  have := h.1
  have := h'.1
  exact ⟨b1, by omega⟩
/-- what a step leaves: a state, an end, a call -/
def og (N : Nat) (fz : Bool) (c s : Nat) (o : Out) : Prop := match o with
  | .inl g => gm N fz c s g.2.2.2.2.1.1 g.2.2.2.2.1.2.1 g.2.2.2.2.2.1 g.2.2.2.2.2.2
  | .inr (.inl r) => gm N fz c s r.2.1.1 r.2.1.2.1 r.2.2.1 r.2.2.2
  | .inr (.inr (_, _, g)) => g.2.2.2.2.1.1 = N ∧ g.2.2.2.2.1.2.1 = fz ∧ g.2.2.2.2.2.1 = c ∧ g.2.2.2.2.2.2 = s
section OG
variable {pc p0 : Nat} {is : List Ent} {lv : List (Option Value)} {st : List Value} {h : MH} {c s : Nat} {o : Out}
theorem og_nx (hs : nx pc is lv st h c s = some o) : og h.1 h.2.1 c s o := by
  simp only [nx, Option.some.injEq] at hs
  subst hs
  exact gm.rf
theorem og_jp {off : Int} (hs : jp p0 off lv st h c s = some o) : og h.1 h.2.1 c s o := by
  unfold jp at hs
  split at hs
  · exact og_nx hs
  · cases hs
theorem og_up {a : Nat} {x : MC} (hs : nx pc is lv st (hup h a x) c s = some o) : og h.1 h.2.1 c s o := by
  simp only [nx, Option.some.injEq] at hs
  subst hs
  exact gm.rf
theorem og_step {cn : Nat} {i : ClassFile.Instr} {x y z : Nat} (hs : stepI cn i x y z p0 pc is lv st h c s = some o) : og h.1 h.2.1 c s o := by
  cases i <;> simp only [stepI] at hs <;> first
    | exact og_nx hs
    | exact og_jp hs
    | cases hs; done
    | (unfold s_iload at hs; split at hs; exact og_nx hs; cases hs)
    | (unfold s_aload at hs; split at hs; exact og_nx hs; cases hs)
    | (unfold s_istore at hs; split at hs; (split at hs; exact og_nx hs; cases hs); cases hs)
    | (unfold s_astore at hs; split at hs; (split at hs; exact og_nx hs; cases hs); cases hs)
    | (unfold s_iinc at hs; split at hs; exact og_nx hs; cases hs)
    | (unfold s_bin at hs; split at hs; exact og_nx hs; cases hs)
    | (unfold s_div at hs; split at hs; (split at hs; cases hs; exact og_nx hs); cases hs)
    | (unfold s_un at hs; split at hs; exact og_nx hs; cases hs)
    | (unfold s_i2l at hs; split at hs; exact og_nx hs; cases hs)
    | (unfold s_lcmp at hs; split at hs; exact og_nx hs; cases hs)
    | (unfold s_dup at hs; split at hs; (split at hs; exact og_nx hs; cases hs); cases hs)
    | (unfold s_ldc at hs; split at hs; (split at hs; exact og_nx hs; cases hs); cases hs)
    | (unfold s_dup2 at hs; split at hs; (split at hs; exact og_nx hs; cases hs); cases hs)
    | (unfold s_pop at hs; split at hs; (split at hs; exact og_nx hs; cases hs); cases hs)
    | (unfold s_icmp at hs; split at hs; (split at hs; (split at hs; exact og_nx hs; exact og_nx hs); cases hs); cases hs)
    | (unfold s_if at hs; split at hs; (split at hs; (split at hs; exact og_nx hs; exact og_nx hs); cases hs); cases hs)
    | (unfold s_table at hs; split at hs; (split at hs; exact og_jp hs; (split at hs; exact og_jp hs; cases hs)); cases hs)
    | (unfold s_getf at hs; split at hs; (split at hs; (split at hs; (split at hs; exact og_nx hs; cases hs); cases hs); cases hs); cases hs)
    | (unfold s_putf at hs; split at hs; (split at hs; (split at hs; exact og_up hs; cases hs); cases hs); cases hs)
    | (unfold s_iald at hs; split at hs; (split at hs; (split at hs; cases hs; exact og_nx hs); cases hs); cases hs)
    | (unfold s_iast at hs; split at hs; (split at hs; cases hs; (split at hs; (split at hs; cases hs; exact og_up hs); cases hs)); cases hs)
    | (unfold s_aald at hs; split at hs; (split at hs; (split at hs; cases hs; (split at hs; exact og_nx hs; cases hs)); cases hs); cases hs)
    | (unfold s_aast at hs; split at hs; (split at hs; (split at hs; cases hs; (split at hs; (split at hs; exact og_up hs; cases hs); (split at hs; exact og_up hs; cases hs); cases hs)); cases hs); cases hs)
    | (unfold s_alen at hs; split at hs; (split at hs; exact og_nx hs; cases hs); cases hs)
    | skip
  all_goals first
    | (unfold s_newa at hs; split at hs <;> first | (split at hs <;> first | (split at hs <;> first | (simp only [nx, Option.some.injEq] at hs; subst hs; exact ⟨Nat.le_add_right _ _, Nat.le_add_right _ _, fun q => ⟨q, by show _ + 1 + _ = _ + (_ + 1); omega⟩⟩) | cases hs) | cases hs) | cases hs)
    | (unfold s_ana at hs; split at hs <;> first | (split at hs <;> first | (simp only [nx, Option.some.injEq] at hs; subst hs; exact ⟨Nat.le_add_right _ _, Nat.le_add_right _ _, fun q => ⟨q, by show _ + 1 + _ = _ + (_ + 1); omega⟩⟩) | cases hs) | cases hs)
    | (unfold s_mna at hs; split at hs <;> first | (split at hs <;> first | (simp only [nx, Option.some.injEq] at hs; subst hs; exact ⟨by show _ ≤ _ + 1 + _; omega, by show _ ≤ _ + _ + _; omega, fun q => ⟨q, by show _ + 1 + _ + _ = _ + (_ + 1 + _); omega⟩⟩) | cases hs) | cases hs)
    | (unfold s_new at hs; split at hs; (split at hs; cases hs; (simp only [nx, Option.some.injEq] at hs; subst hs; exact ⟨Nat.le_add_right _ _, Nat.le_add_right _ _, fun q => ⟨q, by show _ + 1 + _ = _ + (_ + 1); omega⟩⟩)); (split at hs <;> first | (split at hs; (simp only [Option.some.injEq] at hs; subst hs; exact ⟨Nat.le_add_right _ _, Nat.le_add_right _ _, fun q => ⟨q, by show _ + 1 + _ = _ + (_ + 1); omega⟩⟩); cases hs) | cases hs))
    | (unfold s_inv at hs; split at hs; (simp only [Option.some.injEq] at hs; subst hs; exact ⟨rfl, rfl, rfl, rfl⟩); cases hs)
    | (unfold s_invO at hs; split at hs; (split at hs; (split at hs; (unfold s_inv at hs; split at hs; (simp only [Option.some.injEq] at hs; subst hs; exact ⟨rfl, rfl, rfl, rfl⟩); cases hs); cases hs); cases hs); cases hs)
    | (unfold s_invI at hs; split at hs; (split at hs; (split at hs; (split at hs; exact og_nx hs; cases hs); cases hs); (unfold s_inv at hs; split at hs; (simp only [Option.some.injEq] at hs; subst hs; exact ⟨rfl, rfl, rfl, rfl⟩); cases hs)); cases hs)
    | (unfold s_iret s_ret at hs; split at hs; (split at hs; (simp only [Option.some.injEq] at hs; subst hs; exact gm.rf); cases hs); cases hs)
    | (unfold s_aret s_ret at hs; split at hs; (simp only [Option.some.injEq] at hs; subst hs; exact gm.rf); cases hs)
    | (unfold s_vret s_ret at hs; split at hs; (simp only [Option.some.injEq] at hs; subst hs; exact gm.rf); cases hs)
end OG
theorem og_all {k pc : Nat} {is : List Ent} {lv : List (Option Value)} {st : List Value} {h : MH} {c s : Nat} {o : Out} (hs : step k (pc, is, lv, st, h, c, s) = some o) : og h.1 h.2.1 c s o := by
  cases is with
  | nil =>
    simp only [step] at hs
    split at hs
    · exact og_nx hs
    · cases hs
  | cons q is =>
    obtain ⟨i, len, x, y, z⟩ := q
    exact og_step hs
/-- a run: what is made only grows -/
def CG (C : Nat → List Value → MH → Res → Prop) : Prop := ∀ x ar h r, C x ar h r → gm h.1 h.2.1 0 0 r.2.1.1 r.2.1.2.1 r.2.2.1 r.2.2.2
theorem gm.sh {N N' c s c' s' : Nat} {f f' : Bool} (h : gm N f 0 0 N' f' c' s') : gm N f c s N' f' (c + c') (s + s') := ⟨Nat.le_add_right _ _, Nat.le_add_right _ _, fun q => ⟨(h.2.2 q).1, by have := (h.2.2 q).2; omega⟩⟩
theorem runR_gm {C : Nat → List Value → MH → Res → Prop} (hC : CG C) {k : Nat} : ∀ (f : Nat) (g : Cfg) (r : Res), runR C k f g r → gm g.2.2.2.2.1.1 g.2.2.2.2.1.2.1 g.2.2.2.2.2.1 g.2.2.2.2.2.2 r.2.1.1 r.2.1.2.1 r.2.2.1 r.2.2.2
  | 0, _, _, h => h.elim
  | f + 1, (pc, is, lv, st, h, c, s), r, hr => by
    unfold runR at hr
    cases hs : step k (pc, is, lv, st, h, c, s) with
    | none => rw [hs] at hr; exact hr.elim
    | some o =>
      rw [hs] at hr
      have h1 := og_all hs
      match o, hr, h1 with
      | .inl g', hr, h1 => exact gm.tr h1 (runR_gm hC f g' r hr)
      | .inr (.inl r'), hr, h1 => subst hr; exact h1
      | .inr (.inr (x, ar, (pc', is', lv', st', h', c', s'))), hr, h1 =>
        obtain ⟨e1, e2, e3, e4⟩ := h1
        obtain ⟨q, hq, hr⟩ := hr
        have h2 := hC x ar h' q hq
        rw [e1, e2] at h2
        simp only at e3 e4
        subst e3
        subst e4
        match q, hr, h2 with
        | (.inl v, h2', c2, s2), hr, h2 => exact gm.tr h2.sh (runR_gm hC f _ r hr)
        | (.inr E, h2', c2, s2), hr, h2 =>
          cases hh : m_hh k with
          | nil => rw [hh] at hr; subst hr; exact h2.sh
          | cons a l =>
            rw [hh] at hr
            simp only at hr
            split at hr
            · exact hr.elim
            · split at hr
              · exact gm.tr h2.sh (runR_gm hC f _ r hr)
              · exact gm.tr h2.sh (runR_gm hC f _ r hr)
              · exact hr.elim
theorem Ev_gm : ∀ d, CG (Ev d)
  | 0 => fun _ _ _ _ h => h.elim
  | d + 1 => fun x ar h r hr => by
    obtain ⟨-, f, hr⟩ := hr
    exact runR_gm (Ev_gm d) f _ r hr
