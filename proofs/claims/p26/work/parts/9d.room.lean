/-! Every cell has at most 100 places. -/
def gs (c s c' s' : Nat) : Prop := s' + 100 * c ≤ s + 100 * c'
theorem gs.rf {c s : Nat} : gs c s c s := Nat.le_refl _
theorem gs.tr {c c1 c2 s s1 s2 : Nat} (h : gs c s c1 s1) (h' : gs c1 s1 c2 s2) : gs c s c2 s2 := by
  unfold gs at *
  omega
theorem na_b {c s n : Nat} (h : ¬ 100 < n) : gs c s (c + 1) (s + n) := by
  unfold gs
  omega
theorem mna_b {c s n w : Nat} (h : ¬ 100 < n) (h' : ¬ 100 < w) : gs c s (c + 1 + n) (s + n + n * w) := by
  unfold gs
  have h1 : n * w ≤ n * 99 + n := by
    have := Nat.mul_le_mul_left n (show w ≤ 100 by omega)
    omega
  by_cases q : n ≤ 100
  · have h2 : n * w ≤ n * 100 := Nat.mul_le_mul_left n (by omega)
    omega
  · omega
theorem new_b {c s x : Nat} (h : x < 8) : gs c s (c + 1) (s + (dfl x).length) := by
  have h1 : (dfl x).length ≤ 100 := by
    rcases (show x = 0 ∨ x = 1 ∨ x = 2 ∨ x = 3 ∨ x = 4 ∨ x = 5 ∨ x = 6 ∨ x = 7 by omega) with rfl | rfl | rfl | rfl | rfl | rfl | rfl | rfl <;> decide
  exact na_b (by omega)
theorem thr_b {c s : Nat} : gs c s (c + 1) (s + 6) := na_b (by decide)
/-- what a step leaves: a state, an end, a call -/
def os (c s : Nat) (o : Out) : Prop := match o with
  | .inl g => gs c s g.2.2.2.2.2.1 g.2.2.2.2.2.2
  | .inr (.inl r) => gs c s r.2.2.1 r.2.2.2
  | .inr (.inr (_, _, g)) => g.2.2.2.2.2.1 = c ∧ g.2.2.2.2.2.2 = s
section OS9
variable {pc p0 : Nat} {is : List Ent} {lv : List (Option Value)} {st : List Value} {h : MH} {c s : Nat} {o : Out}
theorem os_nx (hs : nx pc is lv st h c s = some o) : os c s o := by
  simp only [nx, Option.some.injEq] at hs
  subst hs
  exact gs.rf
theorem os_jp {off : Int} (hs : jp p0 off lv st h c s = some o) : os c s o := by
  unfold jp at hs
  split at hs
  · exact os_nx hs
  · cases hs
theorem os_up {a : Nat} {x : MC} (hs : nx pc is lv st (hup h a x) c s = some o) : os c s o := by
  simp only [nx, Option.some.injEq] at hs
  subst hs
  exact gs.rf
theorem os_step {cn : Nat} {i : ClassFile.Instr} {x y z : Nat} (hs : stepI cn i x y z p0 pc is lv st h c s = some o) : os c s o := by
  cases i <;> simp only [stepI] at hs <;> first
    | exact os_nx hs
    | exact os_jp hs
    | cases hs; done
    | (unfold s_iload at hs; split at hs; exact os_nx hs; cases hs)
    | (unfold s_aload at hs; split at hs; exact os_nx hs; cases hs)
    | (unfold s_istore at hs; split at hs; (split at hs; exact os_nx hs; cases hs); cases hs)
    | (unfold s_astore at hs; split at hs; (split at hs; exact os_nx hs; cases hs); cases hs)
    | (unfold s_iinc at hs; split at hs; exact os_nx hs; cases hs)
    | (unfold s_bin at hs; split at hs; exact os_nx hs; cases hs)
    | (unfold s_div at hs; split at hs; (split at hs; cases hs; exact os_nx hs); cases hs)
    | (unfold s_un at hs; split at hs; exact os_nx hs; cases hs)
    | (unfold s_i2l at hs; split at hs; exact os_nx hs; cases hs)
    | (unfold s_lcmp at hs; split at hs; exact os_nx hs; cases hs)
    | (unfold s_dup at hs; split at hs; (split at hs; exact os_nx hs; cases hs); cases hs)
    | (unfold s_ldc at hs; split at hs; (split at hs; exact os_nx hs; cases hs); cases hs)
    | (unfold s_dup2 at hs; split at hs; (split at hs; exact os_nx hs; cases hs); cases hs)
    | (unfold s_pop at hs; split at hs; (split at hs; exact os_nx hs; cases hs); cases hs)
    | (unfold s_icmp at hs; split at hs; (split at hs; (split at hs; exact os_nx hs; exact os_nx hs); cases hs); cases hs)
    | (unfold s_if at hs; split at hs; (split at hs; (split at hs; exact os_nx hs; exact os_nx hs); cases hs); cases hs)
    | (unfold s_table at hs; split at hs; (split at hs; exact os_jp hs; (split at hs; exact os_jp hs; cases hs)); cases hs)
    | (unfold s_getf at hs; split at hs; (split at hs; (split at hs; (split at hs; exact os_nx hs; cases hs); cases hs); cases hs); cases hs)
    | (unfold s_putf at hs; split at hs; (split at hs; (split at hs; exact os_up hs; cases hs); cases hs); cases hs)
    | (unfold s_iald at hs; split at hs; (split at hs; (split at hs; cases hs; exact os_nx hs); cases hs); cases hs)
    | (unfold s_iast at hs; split at hs; (split at hs; cases hs; (split at hs; (split at hs; cases hs; exact os_up hs); cases hs)); cases hs)
    | (unfold s_aald at hs; split at hs; (split at hs; (split at hs; cases hs; (split at hs; exact os_nx hs; cases hs)); cases hs); cases hs)
    | (unfold s_aast at hs; split at hs; (split at hs; (split at hs; cases hs; (split at hs; (split at hs; exact os_up hs; cases hs); (split at hs; exact os_up hs; cases hs); cases hs)); cases hs); cases hs)
    | (unfold s_alen at hs; split at hs; (split at hs; exact os_nx hs; cases hs); cases hs)
    | skip
  all_goals first
    | (unfold s_newa at hs; split at hs <;> first | (split at hs <;> first | (split at hs <;> first | (simp only [nx, Option.some.injEq] at hs; subst hs; rename_i h9 _; exact na_b (fun q => h9 (Or.inr (Or.inr q)))) | (simp only [nx, Option.some.injEq] at hs; subst hs; rename_i h9; exact na_b (fun q => h9 (Or.inr (Or.inr q)))) | cases hs) | cases hs) | cases hs)
    | (unfold s_ana at hs; split at hs <;> first | (split at hs <;> first | (simp only [nx, Option.some.injEq] at hs; subst hs; rename_i h9; exact na_b (fun q => h9 (Or.inr (Or.inr q)))) | cases hs) | cases hs)
    | (unfold s_mna at hs; split at hs <;> first | (split at hs <;> first | (simp only [nx, Option.some.injEq] at hs; subst hs; rename_i h9; exact mna_b (fun q => h9 (Or.inr (Or.inr (Or.inl q)))) (fun q => h9 (Or.inr (Or.inr (Or.inr (Or.inr q)))))) | cases hs) | cases hs)
    | (unfold s_new at hs; split at hs; (rename_i hx8; split at hs; cases hs; (simp only [nx, Option.some.injEq] at hs; subst hs; exact new_b hx8)); (split at hs <;> first | (split at hs; (simp only [Option.some.injEq] at hs; subst hs; exact thr_b); cases hs) | cases hs))
    | (unfold s_inv at hs; split at hs; (simp only [Option.some.injEq] at hs; subst hs; exact ⟨rfl, rfl⟩); cases hs)
    | (unfold s_invO at hs; split at hs; (split at hs; (split at hs; (unfold s_inv at hs; split at hs; (simp only [Option.some.injEq] at hs; subst hs; exact ⟨rfl, rfl⟩); cases hs); cases hs); cases hs); cases hs)
    | (unfold s_invI at hs; split at hs; (split at hs; (split at hs; (split at hs; exact os_nx hs; cases hs); cases hs); (unfold s_inv at hs; split at hs; (simp only [Option.some.injEq] at hs; subst hs; exact ⟨rfl, rfl⟩); cases hs)); cases hs)
    | (unfold s_iret s_ret at hs; split at hs; (split at hs; (simp only [Option.some.injEq] at hs; subst hs; exact gs.rf); cases hs); cases hs)
    | (unfold s_aret s_ret at hs; split at hs; (simp only [Option.some.injEq] at hs; subst hs; exact gs.rf); cases hs)
    | (unfold s_vret s_ret at hs; split at hs; (simp only [Option.some.injEq] at hs; subst hs; exact gs.rf); cases hs)
end OS9
theorem os_all {k pc : Nat} {is : List Ent} {lv : List (Option Value)} {st : List Value} {h : MH} {c s : Nat} {o : Out} (hs : step k (pc, is, lv, st, h, c, s) = some o) : os c s o := by
  cases is with
  | nil =>
    simp only [step] at hs
    split at hs
    · exact os_nx hs
    · cases hs
  | cons q is =>
    obtain ⟨i, len, x, y, z⟩ := q
    exact os_step hs
/-- a run: what is made only grows -/
def CS9 (C : Nat → List Value → MH → Res → Prop) : Prop := ∀ x ar h r, C x ar h r → gs 0 0 r.2.2.1 r.2.2.2
theorem gs.sh {c s c' s' : Nat} (h : gs 0 0 c' s') : gs c s (c + c') (s + s') := by unfold gs at *; omega
theorem runR_gs {C : Nat → List Value → MH → Res → Prop} (hC : CS9 C) {k : Nat} : ∀ (f : Nat) (g : Cfg) (r : Res), runR C k f g r → gs g.2.2.2.2.2.1 g.2.2.2.2.2.2 r.2.2.1 r.2.2.2
  | 0, _, _, h => h.elim
  | f + 1, (pc, is, lv, st, h, c, s), r, hr => by
    unfold runR at hr
    cases hs : step k (pc, is, lv, st, h, c, s) with
    | none => rw [hs] at hr; exact hr.elim
    | some o =>
      rw [hs] at hr
      have h1 := os_all hs
      match o, hr, h1 with
      | .inl g', hr, h1 => exact gs.tr h1 (runR_gs hC f g' r hr)
      | .inr (.inl r'), hr, h1 => subst hr; exact h1
      | .inr (.inr (x, ar, (pc', is', lv', st', h', c', s'))), hr, h1 =>
        obtain ⟨e3, e4⟩ := h1
        obtain ⟨q, hq, hr⟩ := hr
        have h2 := hC x ar h' q hq
        simp only at e3 e4
        subst e3
        subst e4
        match q, hr, h2 with
        | (.inl v, h2', c2, s2), hr, h2 => exact gs.tr h2.sh (runR_gs hC f _ r hr)
        | (.inr E, h2', c2, s2), hr, h2 =>
          cases hh : m_hh k with
          | nil => rw [hh] at hr; subst hr; exact h2.sh
          | cons a l =>
            rw [hh] at hr
            simp only at hr
            split at hr
            · exact hr.elim
            · split at hr
              · exact gs.tr h2.sh (runR_gs hC f _ r hr)
              · exact gs.tr h2.sh (runR_gs hC f _ r hr)
              · exact hr.elim
theorem Ev_gs : ∀ d, CS9 (Ev d)
  | 0 => fun _ _ _ _ h => h.elim
  | d + 1 => fun x ar h r hr => by
    obtain ⟨-, f, hr⟩ := hr
    exact runR_gs (Ev_gs d) f _ r hr
