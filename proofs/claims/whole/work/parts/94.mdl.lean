def nzf (x : F) : Nat := if x = 0 then 0 else 1
theorem nzf_0 {x : F} (h : x = 0) : nzf x = 0 := if_pos h
theorem nzf_1 {x : F} (h : x ≠ 0) : nzf x = 1 := if_neg h
def sZ : Nat → (Nat → Int) → Int
  | 0, _ => 0
  | n + 1, f => sZ n f + f n
theorem sZ_b {n : Nat} {f : Nat → Int} {M : Int} (h : ∀ i, i < n → 0 ≤ f i ∧ f i ≤ M) (hM : 0 ≤ M) (hn : n ≤ 8) : 0 ≤ sZ n f ∧ sZ n f ≤ 8 * M := by
  have key : ∀ l, l ≤ n → 0 ≤ sZ l f ∧ sZ l f ≤ (l : Int) * M := by
    intro l
    induction l with
    | zero => exact fun _ => ⟨Int.le_refl 0, by show (0 : Int) ≤ ((0 : Nat) : Int) * M; omega⟩
    | succ l ih =>
      intro hl
      have h1 := ih (by omega)
      have h2 := h l (by omega)
      have e : ((l + 1 : Nat) : Int) * M = (l : Int) * M + M := by rw [Int.natCast_succ, Int.add_mul, Int.one_mul]
      show 0 ≤ sZ l f + f l ∧ sZ l f + f l ≤ ((l + 1 : Nat) : Int) * M
      rw [e]
      omega
  have h1 := key n (Nat.le_refl n)
  have h2 : (n : Int) * M ≤ 8 * M := Int.mul_le_mul_of_nonneg_right (by omega) hM
  omega
theorem sZ_toF (n l : Nat) (g : Nat → Nat → F) : toF (sZ n (fun z => sI l (g z))) = sm n (fun z => sm l (g z)) := by
  induction n with
  | zero => rfl
  | succ n ih =>
    show toF (sZ n (fun z => sI l (g z)) + sI l (g n)) = sm n (fun z => sm l (g z)) + sm l (g n)
    rw [toF_add, ih, sI_toF]
theorem sZ_ok {n l : Nat} {g : Nat → Nat → F} (hn : n ≤ 8) (hl : l ≤ 8) : 0 ≤ sZ n (fun z => sI l (g z)) ∧ sZ n (fun z => sI l (g z)) ≤ 640384 := by
  have := sZ_b (n := n) (f := fun z => sI l (g z)) (M := 80048) (fun i _ => by have := sI_b l (g i); omega) (by omega) hn
  omega
theorem c_X10_stepsB {d : Nat} {S : MC} {fz : Bool} {m : M1} {p : M2} (hd : 3 ≤ d) (s n : Nat) (q r : F) (hP : PI p) (hm : m 262 s = nF n) (hn0 : 1 ≤ n) (hn : n ≤ 8) (hs12 : s ≤ 12) : Ct d k_X10_steps S fz [.ref (261), .int (iI (((s : Nat) : Int))), .int (iI (vF (q))), .int (iI (vF (r)))] m p (fun v m' p' => v = some (.int (iI ((nzf (rm n (fun z w => m 269 (8 * z + w)) (fun z => m 264 (8 * s + z)) r) : Nat) : Int))) ∧ p = p' ∧ Fr (fun a_ => a_ = 269 ∨ a_ = 270 ∨ a_ = 274 ∨ a_ = 275) m m' ∧ (rm n (fun z w => m 269 (8 * z + w)) (fun z => m 264 (8 * s + z)) r ≠ 0 → ∀ i, i < n → ∀ j, j < n → m' 269 (8 * i + j) = ms n (fun z w => m 263 (64 * s + 8 * z + w)) (fun z => m 264 (8 * s + z)) (fun z => m 265 (8 * s + z)) q r (fun z w => m 269 (8 * z + w)) i j)) := by
  by_cases h : rm n (fun z w => m 269 (8 * z + w)) (fun z => m 264 (8 * s + z)) r = 0
  · obtain ⟨v, m', p', h1, h2, h3, h4⟩ := c_X10_steps0 (S := S) (fz := fz) (p := p) hd s n q r hP hm hn0 hn hs12 h
    exact ⟨v, m', p', h1, by rw [nzf_0 h]; exact h2, h3, h4, fun w => absurd h w⟩
  · obtain ⟨v, m', p', h1, h2, h3, h4, h5⟩ := c_X10_steps1 (S := S) (fz := fz) (p := p) hd s n q r hP hm hn0 hn hs12 h
    exact ⟨v, m', p', h1, by rw [nzf_1 h]; exact h2, h3, h4, fun _ => h5⟩
theorem c_X10_goesBack0 {d : Nat} {S : MC} {fz : Bool} {m : M1} {p : M2} (hd : 4 ≤ d) (s n l l0 : Nat) (q r : F) (hP : PI p) (hm : m 262 s = nF n) (hn0 : 1 ≤ n) (hn : n ≤ 8) (hs12 : s ≤ 12) (hl : l0 < l ∧ l ≤ 20) (hr : ∀ z, z < l0 → rm n ((mc n (fun z w => m 263 (64 * s + 8 * z + w)) (fun z => m 264 (8 * s + z)) (fun z => m 265 (8 * s + z)) q r) z) (fun z => m 264 (8 * s + z)) r ≠ 0) (hr0 : rm n ((mc n (fun z w => m 263 (64 * s + 8 * z + w)) (fun z => m 264 (8 * s + z)) (fun z => m 265 (8 * s + z)) q r) l0) (fun z => m 264 (8 * s + z)) r = 0) : Ct d k_X10_goesBack S fz [.ref (261), .int (iI (((s : Nat) : Int))), .int (iI (vF (q))), .int (iI (vF (r))), .int (iI (((l : Nat) : Int)))] m p (fun v m' p' => v = some (.int (iI 0)) ∧ p = p' ∧ Fr (fun a_ => a_ = 269 ∨ a_ = 270 ∨ a_ = 274 ∨ a_ = 275) m m') := by
  obtain ⟨d, rfl⟩ : ∃ e, d = e + 1 := ⟨d - 1, by omega⟩
  refine ct_go (lv := [some (.ref (261)), some (.int (iI (((s : Nat) : Int)))), some (.int (iI (vF (q)))), some (.int (iI (vF (r)))), some (.int (iI (((l : Nat) : Int)))), none, none]) (Nat.le_of_ble_eq_true rfl) (okar_cons rfl (okar_cons rfl (okar_cons rfl (okar_cons rfl (okar_cons rfl okar_nil))))) rfl (fun Qr hQ => ?_)
  refine rw_blk lk_X10_goesBack_0 ?_
  refine rw_of (fun rr hrr => q_iconst (q_istore (Nat.le_of_ble_eq_true rfl) rfl hrr)) ?_
  have hL3 : ∀ i, i ≤ n → ∀ (m1 : M1) (x3_6 : Option Value), (Fr (fun a_ => a_ = 269) m m1 ∧ ∀ z, z < i → ∀ w, w < n → m1 269 (8 * z + w) = rq q (fun z => m 265 (8 * s + z)) z w) → Rw (Ev d) k_X10_goesBack (3, [], [some (.ref (261)), some (.int (iI (((s : Nat) : Int)))), some (.int (iI (vF (q)))), some (.int (iI (vF (r)))), some (.int (iI (((l : Nat) : Int)))), some (.int (iI (((i : Nat) : Int)))), x3_6], [], hpM S fz (m1, p), 0, 0) Qr := by
    refine loop_any (fun i hi3 ih3 => ?_)
    intro m1 x3_6
    intro hI3
    obtain ⟨hF1, h1⟩ := hI3
    refine rw_blk lk_X10_goesBack_3 ?_
    refine rw_of (fun rr hrr => q_iload rfl (q_aload_n rfl (q_getR (show SH 261 = (18, 0) from rfl) rfl (pt_261_1 hP) (q_iload_n rfl (q_iald (j := s) (show SH 262 = (1, 13) from rfl) rfl (by omega) (ki (hF1 262 (by show ¬ (262 = 269); omega)) hm (by omega)) hrr))))) ?_
    refine rw_icmp_ge ⟨by omega, by omega⟩ ⟨by omega, by omega⟩ (t := 63) rfl (fun hc1 => ?_) (fun hc1 => ?_)
    · skip
      refine rw_blk lk_X10_goesBack_63 ?_
      refine rw_of (fun rr hrr => q_iconst (q_istore (Nat.le_of_ble_eq_true rfl) rfl (q_iconst (q_istore (Nat.le_of_ble_eq_true rfl) rfl hrr)))) ?_
      have hL69 : ∀ k, k ≤ l → ∀ (m3 : M1) (fl : Nat), (Fr (fun a_ => a_ = 269 ∨ a_ = 270 ∨ a_ = 274 ∨ a_ = 275) m m3 ∧ ((fl = 1 ∧ k ≤ l0 ∧ ∀ z, z < n → ∀ w, w < n → m3 269 (8 * z + w) = (mc n (fun z w => m 263 (64 * s + 8 * z + w)) (fun z => m 264 (8 * s + z)) (fun z => m 265 (8 * s + z)) q r) k z w) ∨ fl = 0)) → Rw (Ev d) k_X10_goesBack (69, [], [some (.ref (261)), some (.int (iI (((s : Nat) : Int)))), some (.int (iI (vF (q)))), some (.int (iI (vF (r)))), some (.int (iI (((l : Nat) : Int)))), some (.int (iI (((fl : Nat) : Int)))), some (.int (iI (((k : Nat) : Int))))], [], hpM S fz (m3, p), 0, 0) Qr := by
        refine loop_any (fun k hi69 ih69 => ?_)
        intro m3 fl
        intro hI69
        obtain ⟨hF, hD⟩ := hI69
        refine rw_blk lk_X10_goesBack_69 ?_
        refine rw_of (fun rr hrr => q_iload rfl (q_iload rfl hrr)) ?_
        refine rw_icmp_ge ⟨by omega, by omega⟩ ⟨by omega, by omega⟩ (t := 96) rfl (fun hc2 => ?_) (fun hc2 => ?_)
        · skip
          have hfl : fl = 0 := hD.resolve_left (fun z => by omega)
          refine rw_blk lk_X10_goesBack_96 ?_
          refine rw_of (fun rr hrr => q_iload rfl hrr) ?_
          exact rw_ret hQ (q_ireturn (by omega)) (by exact ⟨lvI (by omega), rfl, hF⟩)
        · skip
          refine rw_of (fun rr hrr => q_iload rfl hrr) ?_
          refine rw_if_eq ⟨by omega, by omega⟩ (t := 96) rfl (fun hc3 => ?_) (fun hc3 => ?_)
          · skip
            have hfl : fl = 0 := (by omega)
            refine rw_blk lk_X10_goesBack_96 ?_
            refine rw_of (fun rr hrr => q_iload rfl hrr) ?_
            exact rw_ret hQ (q_ireturn (by omega)) (by exact ⟨lvI (by omega), rfl, hF⟩)
          · skip
            have hfl : fl = 1 := hD.elim (fun z => z.1) (fun z => absurd hc3 (by omega))
            refine rw_of (fun rr hrr => q_aload_n rfl (q_iload_n rfl (q_iload_n rfl (q_iload_n rfl hrr)))) ?_
            obtain ⟨_, mm4, pp5, hV6, rfl, rfl, hF6, hv6⟩ := c_X10_stepsB (S := S) (fz := fz) (m := m3) (p := p) (d := d) (by omega) (s) (n) (q) (r) hP ((congrFun (hF 262 (by show ¬ (262 = 269 ∨ 262 = 270 ∨ 262 = 274 ∨ 262 = 275); omega)) s).trans hm) (by omega) (by omega) (by omega)
            refine rw_of (fun rr hrr => q_invV hV6 (show SH 261 = (18, 0) from rfl) rfl rfl (okar_cons rfl (okar_cons rfl (okar_cons rfl okar_nil))) (Nat.le_of_ble_eq_true rfl) (q_istore (Nat.le_of_ble_eq_true rfl) rfl (q_iinc rfl rfl (q_goto (t := 69) rfl hrr)))) ?_
            have hA7 : Fr (fun a_ => a_ = 269 ∨ a_ = 270 ∨ a_ = 274 ∨ a_ = 275) m mm4 ∧ (((nzf (rm n (fun z w => m3 269 (8 * z + w)) (fun z => m3 264 (8 * s + z)) r)) = 1 ∧ (k + 1) ≤ l0 ∧ ∀ z, z < n → ∀ w, w < n → mm4 269 (8 * z + w) = (mc n (fun z w => m 263 (64 * s + 8 * z + w)) (fun z => m 264 (8 * s + z)) (fun z => m 265 (8 * s + z)) q r) (k + 1) z w) ∨ (nzf (rm n (fun z w => m3 269 (8 * z + w)) (fun z => m3 264 (8 * s + z)) r)) = 0) := by
              obtain ⟨_, hk, h3⟩ := hD.resolve_right (by omega)
              have e264 : m3 264 = m 264 := hF 264 (by omega)
              have e263 : m3 263 = m 263 := hF 263 (by omega)
              have e265 : m3 265 = m 265 := hF 265 (by omega)
              have hrm : rm n (fun z w => m3 269 (8 * z + w)) (fun z => m3 264 (8 * s + z)) r = rm n ((mc n (fun z w => m 263 (64 * s + 8 * z + w)) (fun z => m 264 (8 * s + z)) (fun z => m 265 (8 * s + z)) q r) k) (fun z => m 264 (8 * s + z)) r := by
                rw [e264]
                exact rm_congr h3
              refine ⟨Fr_trans hF hF6, ?_⟩
              by_cases c : k < l0
              · left
                have hne : rm n (fun z w => m3 269 (8 * z + w)) (fun z => m3 264 (8 * s + z)) r ≠ 0 := by rw [hrm]; exact hr k c
                refine ⟨nzf_1 hne, c, fun z hz w hw => ?_⟩
                rw [hv6 hne z hz w hw, e263, e264, e265]
                exact ms_congr h3 z w
              · right
                have hk9 : k = l0 := (by omega)
                subst hk9
                exact nzf_0 (hrm.trans hr0)
            exact rw_cast (ih69 (by omega) mm4 (nzf (rm n (fun z w => m3 269 (8 * z + w)) (fun z => m3 264 (8 * s + z)) r)) hA7) (lcons rfl (lcons rfl (lcons rfl (lcons rfl (lcons rfl (lcons (lvI (by omega)) (lcons (lvI (by omega)) rfl))))))) rfl
      exact rw_cast (hL69 0 (by omega) m1 1 (by exact ⟨Fr_mono hF1 (fun a ha => by omega), Or.inl ⟨rfl, Nat.zero_le _, fun z hz w hw => h1 z (by omega) w hw⟩⟩)) (lcons rfl (lcons rfl (lcons rfl (lcons rfl (lcons rfl (lcons (lvI (by omega)) (lcons (lvI (by omega)) rfl))))))) rfl
    · skip
      refine rw_of (fun rr hrr => q_iconst (q_istore (Nat.le_of_ble_eq_true rfl) rfl hrr)) ?_
      have hL17 : ∀ j, j ≤ n → ∀ (m2 : M1), (Fr (fun a_ => a_ = 269) m1 m2 ∧ (∀ w, w < j → m2 269 (8 * i + w) = rq q (fun z => m 265 (8 * s + z)) i w) ∧ ∀ z, z < 8 → z ≠ i → ∀ w, w < 8 → m2 269 (8 * z + w) = m1 269 (8 * z + w)) → Rw (Ev d) k_X10_goesBack (17, [], [some (.ref (261)), some (.int (iI (((s : Nat) : Int)))), some (.int (iI (vF (q)))), some (.int (iI (vF (r)))), some (.int (iI (((l : Nat) : Int)))), some (.int (iI (((i : Nat) : Int)))), some (.int (iI (((j : Nat) : Int))))], [], hpM S fz (m2, p), 0, 0) Qr := by
        refine loop_any (fun j hi17 ih17 => ?_)
        intro m2
        intro hI17
        obtain ⟨hF2, h2, h2'⟩ := hI17
        refine rw_blk lk_X10_goesBack_17 ?_
        refine rw_of (fun rr hrr => q_iload rfl (q_aload_n rfl (q_getR (show SH 261 = (18, 0) from rfl) rfl (pt_261_1 hP) (q_iload_n rfl (q_iald (j := s) (show SH 262 = (1, 13) from rfl) rfl (by omega) (ki ((hF2 262 (by show ¬ (262 = 269); omega)).trans (hF1 262 (by show ¬ (262 = 269); omega))) hm (by omega)) hrr))))) ?_
        refine rw_icmp_ge ⟨by omega, by omega⟩ ⟨by omega, by omega⟩ (t := 57) rfl (fun hc8 => ?_) (fun hc8 => ?_)
        · skip
          refine rw_blk lk_X10_goesBack_57 ?_
          refine rw_of (fun rr hrr => q_iinc rfl rfl (q_goto (t := 3) rfl hrr)) ?_
          have hA9 : Fr (fun a_ => a_ = 269) m m2 ∧ ∀ z, z < (i + 1) → ∀ w, w < n → m2 269 (8 * z + w) = rq q (fun z => m 265 (8 * s + z)) z w := by
            refine ⟨Fr_trans hF1 hF2, fun z hz w hw => ?_⟩
            by_cases e : z = i
            · rw [e]
              exact h2 w (by omega)
            · rw [h2' z (by omega) e w (by omega)]
              exact h1 z (by omega) w hw
          exact rw_cast (ih3 (by omega) m2 (some (.int (iI (((j : Nat) : Int))))) hA9) (lcons rfl (lcons rfl (lcons rfl (lcons rfl (lcons rfl (lcons (lvI (by omega)) (lcons rfl rfl))))))) rfl
        · skip
          refine rw_of (fun rr hrr => q_aload_n rfl (q_getR (show SH 261 = (18, 0) from rfl) rfl (pt_261_10 hP) (q_bipush rfl (q_iload rfl (q_imul (q_iload rfl (q_iadd (q_aload_n rfl (q_iload_n rfl (q_iload_n rfl (q_iload rfl (q_iload rfl hrr)))))))))))) ?_
          obtain ⟨_, mm10, pp11, hV12, rfl, rfl, rfl⟩ := c_X10_weight (S := S) (fz := fz) (m := m2) (p := p) (d := d) (by omega) (s) (i) (j) (q) hP (by omega) (by omega) (by omega)
          refine rw_of (fun rr hrr => q_invV hV12 (show SH 261 = (18, 0) from rfl) rfl rfl (okar_cons rfl (okar_cons rfl (okar_cons rfl (okar_cons rfl okar_nil)))) (Nat.le_of_ble_eq_true rfl) (q_iast (j := 8 * i + j) (xx := rq q (fun z => m2 265 (8 * s + z)) i j) (show SH 269 = (1, 64) from rfl) (by omega) (by omega) rfl hrr)) ?_
          generalize hm14 : w1 m2 269 (8 * i + j) (rq q (fun z => m2 265 (8 * s + z)) i j) = mm13
          refine rw_of (fun rr hrr => q_iinc rfl rfl (q_goto (t := 17) rfl hrr)) ?_
          have hA15 : Fr (fun a_ => a_ = 269) m1 mm13 ∧ (∀ w, w < (j + 1) → mm13 269 (8 * i + w) = rq q (fun z => m 265 (8 * s + z)) i w) ∧ ∀ z, z < 8 → z ≠ i → ∀ w, w < 8 → mm13 269 (8 * z + w) = m1 269 (8 * z + w) := by
            refine ⟨fr_w hm14 hF2 rfl, fun w hw => ?_, fun z hz hzi w hw => ?_⟩
            · rw [← hm14]
              by_cases e : w = j
              · rw [e, w1_at, hF2 265 (by omega), hF1 265 (by omega)]
              · rw [w1_ne (by omega)]
                exact h2 w (by omega)
            · rw [← hm14, w1_ne (by omega)]
              exact h2' z hz hzi w hw
          exact rw_cast (ih17 (by omega) mm13 hA15) (lcons rfl (lcons rfl (lcons rfl (lcons rfl (lcons rfl (lcons rfl (lcons (lvI (by omega)) rfl))))))) rfl
      exact rw_cast (hL17 0 (by omega) m1 (by exact ⟨Fr_rfl, fun w hw => absurd hw (Nat.not_lt_zero w), fun _ _ _ _ _ => rfl⟩)) (lcons rfl (lcons rfl (lcons rfl (lcons rfl (lcons rfl (lcons rfl (lcons (lvI (by omega)) rfl))))))) rfl
  exact rw_cast (hL3 0 (by omega) m none (by exact ⟨Fr_rfl, fun z hz => absurd hz (Nat.not_lt_zero z)⟩)) (lcons rfl (lcons rfl (lcons rfl (lcons rfl (lcons rfl (lcons (lvI (by omega)) (lcons rfl rfl))))))) rfl
theorem c_X10_cost1 {d : Nat} {S : MC} {fz : Bool} {m : M1} {p : M2} (hd : 5 ≤ d) (s k n l : Nat) (q r : F) (hP : PI p) (hk : m 261 0 = nF k) (hk12 : k ≤ 12) (hsk : s < k) (hm : m 262 s = nF n) (hn0 : 1 ≤ n) (hn : n ≤ 8) (hl : l ≤ 20) (hr : ∀ z, z < l → rm n ((mc n (fun z w => m 263 (64 * s + 8 * z + w)) (fun z => m 264 (8 * s + z)) (fun z => m 265 (8 * s + z)) q r) z) (fun z => m 264 (8 * s + z)) r ≠ 0) : Ct d k_X10_cost S fz [.ref (261), .int (iI (((s : Nat) : Int))), .int (iI (vF (q))), .int (iI (vF (r))), .int (iI (((l : Nat) : Int)))] m p (fun v m' p' => v = some (.int (iI (vF (sm n (fun z => sm n (fun w => (mc n (fun z w => m 263 (64 * s + 8 * z + w)) (fun z => m 264 (8 * s + z)) (fun z => m 265 (8 * s + z)) q r) l z w)))))) ∧ p = p' ∧ QMx 0 m m') := by
  obtain ⟨d, rfl⟩ : ∃ e, d = e + 1 := ⟨d - 1, by omega⟩
  refine ct_go (lv := [some (.ref (261)), some (.int (iI (((s : Nat) : Int)))), some (.int (iI (vF (q)))), some (.int (iI (vF (r)))), some (.int (iI (((l : Nat) : Int)))), none, none, none, none]) (Nat.le_of_ble_eq_true rfl) (okar_cons rfl (okar_cons rfl (okar_cons rfl (okar_cons rfl (okar_cons rfl okar_nil))))) rfl (fun Qr hQ => ?_)
  refine rw_blk lk_X10_cost_0 ?_
  refine rw_of (fun rr hrr => q_iload_n rfl (q_iconst (q_sipush rfl hrr))) ?_
  obtain ⟨_, mm1, pp2, hV3, rfl, rfl, rfl⟩ := c_X10_isIn1 (S := S) (fz := fz) (m := m) (p := p) (d := d) (by omega) (vF (q)) (0) (10006) (by have := vF_ge q; have := vF_lt q; have := vF_ge r; have := vF_lt r; omega) (by omega) (by have := vF_ge q; have := vF_lt q; have := vF_ge r; have := vF_lt r; omega)
  refine rw_of (fun rr hrr => q_invS hV3 rfl rfl (okar_cons rfl (okar_cons rfl (okar_cons rfl okar_nil))) (Nat.le_of_ble_eq_true rfl) hrr) ?_
  refine rw_if_eq ⟨by omega, by omega⟩ (t := 37) rfl (fun hc4 => ?_) (fun hc4 => ?_)
  · exfalso; omega
  · skip
    refine rw_of (fun rr hrr => q_iload_n rfl (q_iconst (q_sipush rfl hrr))) ?_
    obtain ⟨_, mm5, pp6, hV7, rfl, rfl, rfl⟩ := c_X10_isIn1 (S := S) (fz := fz) (m := m) (p := p) (d := d) (by omega) (vF (r)) (0) (10006) (by have := vF_ge q; have := vF_lt q; have := vF_ge r; have := vF_lt r; omega) (by omega) (by have := vF_ge q; have := vF_lt q; have := vF_ge r; have := vF_lt r; omega)
    refine rw_of (fun rr hrr => q_invS hV7 rfl rfl (okar_cons rfl (okar_cons rfl (okar_cons rfl okar_nil))) (Nat.le_of_ble_eq_true rfl) hrr) ?_
    refine rw_if_eq ⟨by omega, by omega⟩ (t := 37) rfl (fun hc8 => ?_) (fun hc8 => ?_)
    · exfalso; omega
    · skip
      refine rw_of (fun rr hrr => q_iload rfl (q_iconst (q_bipush rfl hrr))) ?_
      obtain ⟨_, mm9, pp10, hV11, rfl, rfl, rfl⟩ := c_X10_isIn1 (S := S) (fz := fz) (m := m) (p := p) (d := d) (by omega) (((l : Nat) : Int)) (0) (20) (by omega) (by omega) (by omega)
      refine rw_of (fun rr hrr => q_invS hV11 rfl rfl (okar_cons rfl (okar_cons rfl (okar_cons rfl okar_nil))) (Nat.le_of_ble_eq_true rfl) hrr) ?_
      refine rw_if_eq ⟨by omega, by omega⟩ (t := 37) rfl (fun hc12 => ?_) (fun hc12 => ?_)
      · exfalso; omega
      · skip
        refine rw_of (fun rr hrr => q_iconst (q_goto (t := 38) rfl hrr)) ?_
        refine rw_blk lk_X10_cost_38 ?_
        refine rw_of (fun rr hrr => q_istore (Nat.le_of_ble_eq_true rfl) rfl (q_aload_n rfl (q_aload_n rfl (q_iload_n rfl hrr)))) ?_
        obtain ⟨_, mm13, pp14, hV15, rfl, rfl, rfl⟩ := c_X10_isSystem1 (S := S) (fz := fz) (m := m) (p := p) (d := d) (by omega) (((s : Nat) : Int)) (k) hP hk (by omega) (by omega) (by omega)
        refine rw_of (fun rr hrr => q_invV hV15 (show SH 261 = (18, 0) from rfl) rfl rfl (okar_cons rfl okar_nil) (Nat.le_of_ble_eq_true rfl) hrr) ?_
        refine rw_if_ne ⟨by omega, by omega⟩ (t := 53) rfl (fun hc16 => ?_) (fun hc16 => ?_)
        · skip
          refine rw_blk lk_X10_cost_53 ?_
          refine rw_of (fun rr hrr => q_iload rfl hrr) ?_
          refine rw_if_ne ⟨by omega, by omega⟩ (t := 62) rfl (fun hc17 => ?_) (fun hc17 => ?_)
          · skip
            refine rw_blk lk_X10_cost_62 ?_
            refine rw_of (fun rr hrr => q_aload_n rfl (q_iload_n rfl (q_iload_n rfl (q_iload_n rfl (q_iload rfl hrr))))) ?_
            obtain ⟨_, mm18, pp19, hV20, rfl, rfl, hF20, hv20⟩ := c_X10_goesBack1 (S := S) (fz := fz) (m := m) (p := p) (d := d) (by omega) (s) (n) (l) (q) (r) hP hm (by omega) (by omega) (by omega) (by omega) (hr)
            refine rw_of (fun rr hrr => q_invV hV20 (show SH 261 = (18, 0) from rfl) rfl rfl (okar_cons rfl (okar_cons rfl (okar_cons rfl (okar_cons rfl okar_nil)))) (Nat.le_of_ble_eq_true rfl) hrr) ?_
            refine rw_if_eq ⟨by omega, by omega⟩ (t := 78) rfl (fun hc21 => ?_) (fun hc21 => ?_)
            · exfalso; omega
            · skip
              refine rw_of (fun rr hrr => q_iconst (q_goto (t := 79) rfl hrr)) ?_
              refine rw_blk lk_X10_cost_79 ?_
              obtain ⟨_, mm22, pp23, hV24, rfl, rfl, hw24, hF24⟩ := c_X10_fails0 (S := S) (fz := fz) (m := mm18) (p := p) (d := d) (by omega) hP
              refine rw_of (fun rr hrr => q_invV hV24 (show SH 261 = (18, 0) from rfl) rfl rfl (okar_cons rfl okar_nil) (Nat.le_of_ble_eq_true rfl) hrr) ?_
              refine rw_if_eq ⟨by omega, by omega⟩ (t := 87) rfl (fun hc25 => ?_) (fun hc25 => ?_)
              · skip
                refine rw_blk lk_X10_cost_87 ?_
                refine rw_of (fun rr hrr => q_iconst (q_istore (Nat.le_of_ble_eq_true rfl) rfl (q_iconst (q_istore (Nat.le_of_ble_eq_true rfl) rfl hrr)))) ?_
                have hL93 : ∀ i, i ≤ n → ∀ (m9 : M1) (x93_8 : Option Value), (Fr (fun a_ => a_ = 261 ∨ a_ = 269 ∨ a_ = 270 ∨ a_ = 274 ∨ a_ = 275) m m9 ∧ QMx 0 m m9 ∧ ∀ z, z < n → ∀ w, w < n → m9 269 (8 * z + w) = (mc n (fun z w => m 263 (64 * s + 8 * z + w)) (fun z => m 264 (8 * s + z)) (fun z => m 265 (8 * s + z)) q r) l z w) → Rw (Ev d) k_X10_cost (93, [], [some (.ref (261)), some (.int (iI (((s : Nat) : Int)))), some (.int (iI (vF (q)))), some (.int (iI (vF (r)))), some (.int (iI (((l : Nat) : Int)))), some (.int (iI (1))), some (.int (iI (sZ i (fun z => sI n (fun w => m9 269 (8 * z + w)))))), some (.int (iI (((i : Nat) : Int)))), x93_8], [], hpM S fz (m9, p), 0, 0) Qr := by
                  refine loop_any (fun i hi93 ih93 => ?_)
                  intro m9 x93_8
                  intro hI93
                  obtain ⟨hF9, hq9, hv9⟩ := hI93
                  refine rw_blk lk_X10_cost_93 ?_
                  refine rw_of (fun rr hrr => q_iload rfl (q_aload_n rfl (q_getR (show SH 261 = (18, 0) from rfl) rfl (pt_261_1 hP) (q_iload_n rfl (q_iald (j := s) (show SH 262 = (1, 13) from rfl) rfl (by omega) (ki (hF9 262 (by show ¬ (262 = 261 ∨ 262 = 269 ∨ 262 = 270 ∨ 262 = 274 ∨ 262 = 275); omega)) hm (by omega)) hrr))))) ?_
                  refine rw_icmp_ge ⟨by omega, by omega⟩ ⟨by omega, by omega⟩ (t := 148) rfl (fun hc26 => ?_) (fun hc26 => ?_)
                  · skip
                    refine rw_blk lk_X10_cost_148 ?_
                    refine rw_of (fun rr hrr => q_iload rfl (q_sipush rfl (q_irem (by have := sZ_ok (n := i) (l := n) (g := fun z w => m9 269 (8 * z + w)) (by omega) hn; exact ⟨by omega, by omega⟩) ⟨by omega, by omega⟩ (by omega) (by exact remF (sZ_ok (by omega) hn).1 (sZ_toF i n (fun z w => m9 269 (8 * z + w)))) hrr))) ?_
                    refine rw_ret hQ (q_ireturn (Or.inl rfl)) ?_
                    
                    refine ⟨lvI (congrArg vF ?_), rfl, hq9⟩
                    rw [show i = n by omega]
                    exact sm_congr (fun z hz => sm_congr (fun w hw => hv9 z hz w hw))
                    
                  · skip
                    refine rw_of (fun rr hrr => q_iconst (q_istore (Nat.le_of_ble_eq_true rfl) rfl hrr)) ?_
                    have hL107 : ∀ j, j ≤ n → Rw (Ev d) k_X10_cost (107, [], [some (.ref (261)), some (.int (iI (((s : Nat) : Int)))), some (.int (iI (vF (q)))), some (.int (iI (vF (r)))), some (.int (iI (((l : Nat) : Int)))), some (.int (iI (1))), some (.int (iI (sZ i (fun z => sI n (fun w => m9 269 (8 * z + w))) + sI j (fun w => m9 269 (8 * i + w))))), some (.int (iI (((i : Nat) : Int)))), some (.int (iI (((j : Nat) : Int))))], [], hpM S fz (m9, p), 0, 0) Qr := by
                      refine loop_any (fun j hi107 ih107 => ?_)
                      refine rw_blk lk_X10_cost_107 ?_
                      refine rw_of (fun rr hrr => q_iload rfl (q_aload_n rfl (q_getR (show SH 261 = (18, 0) from rfl) rfl (pt_261_1 hP) (q_iload_n rfl (q_iald (j := s) (show SH 262 = (1, 13) from rfl) rfl (by omega) (ki (hF9 262 (by show ¬ (262 = 261 ∨ 262 = 269 ∨ 262 = 270 ∨ 262 = 274 ∨ 262 = 275); omega)) hm (by omega)) hrr))))) ?_
                      refine rw_icmp_ge ⟨by omega, by omega⟩ ⟨by omega, by omega⟩ (t := 142) rfl (fun hc27 => ?_) (fun hc27 => ?_)
                      · skip
                        refine rw_blk lk_X10_cost_142 ?_
                        refine rw_of (fun rr hrr => q_iinc rfl rfl (q_goto (t := 93) rfl hrr)) ?_
                        exact rw_cast (ih93 (by omega) m9 (some (.int (iI (((j : Nat) : Int))))) (by exact ⟨hF9, hq9, hv9⟩)) (lcons rfl (lcons rfl (lcons rfl (lcons rfl (lcons rfl (lcons rfl (lcons (lvI (by show sZ i _ + _ = sZ i _ + _; rw [show j = n by omega])) (lcons (lvI (by omega)) (lcons rfl rfl))))))))) rfl
                      · skip
                        refine rw_of (fun rr hrr => q_iload rfl (q_aload_n rfl (q_getR (show SH 261 = (18, 0) from rfl) rfl (pt_261_10 hP) (q_bipush rfl (q_iload rfl (q_imul (q_iload rfl (q_iadd (q_iald (j := 8 * i + j) (show SH 269 = (1, 64) from rfl) (by omega) (by omega) rfl (q_iadd (q_istore (Nat.le_of_ble_eq_true rfl) rfl (q_iinc rfl rfl (q_goto (t := 107) rfl hrr))))))))))))) ?_
                        exact rw_cast (ih107 (by omega)) (lcons rfl (lcons rfl (lcons rfl (lcons rfl (lcons rfl (lcons rfl (lcons (lvI (by show sZ i _ + sI j _ + _ = sZ i _ + (sI j _ + _); rw [Int.add_assoc])) (lcons rfl (lcons (lvI (by omega)) rfl))))))))) rfl
                    exact rw_cast (hL107 0 (by omega)) (lcons rfl (lcons rfl (lcons rfl (lcons rfl (lcons rfl (lcons rfl (lcons (lvI (by show _ = sZ i _ + 0; omega)) (lcons rfl (lcons (lvI (by omega)) rfl))))))))) rfl
                exact rw_cast (hL93 0 (by omega) mm22 none (by exact ⟨Fr_trans (Fr_mono hF20 (fun a ha => Or.inr ha)) (Fr_mono hF24 (fun a ha => Or.inl ha)), QMx_pre hF20 (fun a ha => by omega) (QMx_w hw24 rfl), fun z hz w hw => (congrFun (hF24 269 (by omega)) _).trans (hv20 z hz w hw)⟩)) (lcons rfl (lcons rfl (lcons rfl (lcons rfl (lcons rfl (lcons rfl (lcons (lvI (by rfl)) (lcons (lvI (by omega)) (lcons rfl rfl))))))))) rfl
              · exfalso; omega
          · exfalso; omega
        · exfalso; omega
theorem c_X10_costM {d : Nat} {S : MC} {fz : Bool} {m : M1} {p : M2} (hd : 5 ≤ d) (s k n l l0 : Nat) (q r : F) (hP : PI p) (hk : m 261 0 = nF k) (hk12 : k ≤ 12) (hsk : s < k) (hm : m 262 s = nF n) (hn0 : 1 ≤ n) (hn : n ≤ 8) (hl : l0 < l ∧ l ≤ 20) (hr : ∀ z, z < l0 → rm n ((mc n (fun z w => m 263 (64 * s + 8 * z + w)) (fun z => m 264 (8 * s + z)) (fun z => m 265 (8 * s + z)) q r) z) (fun z => m 264 (8 * s + z)) r ≠ 0) (hr0 : rm n ((mc n (fun z w => m 263 (64 * s + 8 * z + w)) (fun z => m 264 (8 * s + z)) (fun z => m 265 (8 * s + z)) q r) l0) (fun z => m 264 (8 * s + z)) r = 0) : Ct d k_X10_cost S fz [.ref (261), .int (iI (((s : Nat) : Int))), .int (iI (vF (q))), .int (iI (vF (r))), .int (iI (((l : Nat) : Int)))] m p (fun v m' p' => v = some (.int (iI (0))) ∧ p = p' ∧ QMx 3 m m') := by
  obtain ⟨d, rfl⟩ : ∃ e, d = e + 1 := ⟨d - 1, by omega⟩
  refine ct_go (lv := [some (.ref (261)), some (.int (iI (((s : Nat) : Int)))), some (.int (iI (vF (q)))), some (.int (iI (vF (r)))), some (.int (iI (((l : Nat) : Int)))), none, none, none, none]) (Nat.le_of_ble_eq_true rfl) (okar_cons rfl (okar_cons rfl (okar_cons rfl (okar_cons rfl (okar_cons rfl okar_nil))))) rfl (fun Qr hQ => ?_)
  refine rw_blk lk_X10_cost_0 ?_
  refine rw_of (fun rr hrr => q_iload_n rfl (q_iconst (q_sipush rfl hrr))) ?_
  obtain ⟨_, mm1, pp2, hV3, rfl, rfl, rfl⟩ := c_X10_isIn1 (S := S) (fz := fz) (m := m) (p := p) (d := d) (by omega) (vF (q)) (0) (10006) (by have := vF_ge q; have := vF_lt q; have := vF_ge r; have := vF_lt r; omega) (by omega) (by have := vF_ge q; have := vF_lt q; have := vF_ge r; have := vF_lt r; omega)
  refine rw_of (fun rr hrr => q_invS hV3 rfl rfl (okar_cons rfl (okar_cons rfl (okar_cons rfl okar_nil))) (Nat.le_of_ble_eq_true rfl) hrr) ?_
  refine rw_if_eq ⟨by omega, by omega⟩ (t := 37) rfl (fun hc4 => ?_) (fun hc4 => ?_)
  · exfalso; omega
  · skip
    refine rw_of (fun rr hrr => q_iload_n rfl (q_iconst (q_sipush rfl hrr))) ?_
    obtain ⟨_, mm5, pp6, hV7, rfl, rfl, rfl⟩ := c_X10_isIn1 (S := S) (fz := fz) (m := m) (p := p) (d := d) (by omega) (vF (r)) (0) (10006) (by have := vF_ge q; have := vF_lt q; have := vF_ge r; have := vF_lt r; omega) (by omega) (by have := vF_ge q; have := vF_lt q; have := vF_ge r; have := vF_lt r; omega)
    refine rw_of (fun rr hrr => q_invS hV7 rfl rfl (okar_cons rfl (okar_cons rfl (okar_cons rfl okar_nil))) (Nat.le_of_ble_eq_true rfl) hrr) ?_
    refine rw_if_eq ⟨by omega, by omega⟩ (t := 37) rfl (fun hc8 => ?_) (fun hc8 => ?_)
    · exfalso; omega
    · skip
      refine rw_of (fun rr hrr => q_iload rfl (q_iconst (q_bipush rfl hrr))) ?_
      obtain ⟨_, mm9, pp10, hV11, rfl, rfl, rfl⟩ := c_X10_isIn1 (S := S) (fz := fz) (m := m) (p := p) (d := d) (by omega) (((l : Nat) : Int)) (0) (20) (by omega) (by omega) (by omega)
      refine rw_of (fun rr hrr => q_invS hV11 rfl rfl (okar_cons rfl (okar_cons rfl (okar_cons rfl okar_nil))) (Nat.le_of_ble_eq_true rfl) hrr) ?_
      refine rw_if_eq ⟨by omega, by omega⟩ (t := 37) rfl (fun hc12 => ?_) (fun hc12 => ?_)
      · exfalso; omega
      · skip
        refine rw_of (fun rr hrr => q_iconst (q_goto (t := 38) rfl hrr)) ?_
        refine rw_blk lk_X10_cost_38 ?_
        refine rw_of (fun rr hrr => q_istore (Nat.le_of_ble_eq_true rfl) rfl (q_aload_n rfl (q_aload_n rfl (q_iload_n rfl hrr)))) ?_
        obtain ⟨_, mm13, pp14, hV15, rfl, rfl, rfl⟩ := c_X10_isSystem1 (S := S) (fz := fz) (m := m) (p := p) (d := d) (by omega) (((s : Nat) : Int)) (k) hP hk (by omega) (by omega) (by omega)
        refine rw_of (fun rr hrr => q_invV hV15 (show SH 261 = (18, 0) from rfl) rfl rfl (okar_cons rfl okar_nil) (Nat.le_of_ble_eq_true rfl) hrr) ?_
        refine rw_if_ne ⟨by omega, by omega⟩ (t := 53) rfl (fun hc16 => ?_) (fun hc16 => ?_)
        · skip
          refine rw_blk lk_X10_cost_53 ?_
          refine rw_of (fun rr hrr => q_iload rfl hrr) ?_
          refine rw_if_ne ⟨by omega, by omega⟩ (t := 62) rfl (fun hc17 => ?_) (fun hc17 => ?_)
          · skip
            refine rw_blk lk_X10_cost_62 ?_
            refine rw_of (fun rr hrr => q_aload_n rfl (q_iload_n rfl (q_iload_n rfl (q_iload_n rfl (q_iload rfl hrr))))) ?_
            obtain ⟨_, mm18, pp19, hV20, rfl, rfl, hF20⟩ := c_X10_goesBack0 (S := S) (fz := fz) (m := m) (p := p) (d := d) (by omega) (s) (n) (l) (l0) (q) (r) hP hm (by omega) (by omega) (by omega) (by omega) (hr) (hr0)
            refine rw_of (fun rr hrr => q_invV hV20 (show SH 261 = (18, 0) from rfl) rfl rfl (okar_cons rfl (okar_cons rfl (okar_cons rfl (okar_cons rfl okar_nil)))) (Nat.le_of_ble_eq_true rfl) hrr) ?_
            refine rw_if_eq ⟨by omega, by omega⟩ (t := 78) rfl (fun hc21 => ?_) (fun hc21 => ?_)
            · skip
              refine rw_blk lk_X10_cost_78 ?_
              refine rw_of (fun rr hrr => q_iconst hrr) ?_
              refine rw_blk lk_X10_cost_79 ?_
              obtain ⟨_, mm22, pp23, hV24, rfl, rfl, hw24, hF24⟩ := c_X10_fails1 (S := S) (fz := fz) (m := mm18) (p := p) (d := d) (by omega) (3) hP (by omega)
              refine rw_of (fun rr hrr => q_invV hV24 (show SH 261 = (18, 0) from rfl) rfl rfl (okar_cons rfl okar_nil) (Nat.le_of_ble_eq_true rfl) hrr) ?_
              refine rw_if_eq ⟨by omega, by omega⟩ (t := 87) rfl (fun hc25 => ?_) (fun hc25 => ?_)
              · exfalso; omega
              · skip
                refine rw_of (fun rr hrr => q_iconst hrr) ?_
                exact rw_ret hQ (q_ireturn (Or.inl rfl)) (by exact ⟨rfl, rfl, QMx_pre hF20 (fun a ha => by omega) (QMx_w hw24 rfl)⟩)
            · exfalso; omega
          · exfalso; omega
        · exfalso; omega
theorem c_X10_costQ {d : Nat} {S : MC} {fz : Bool} {m : M1} {p : M2} (hd : 5 ≤ d) (s k n : Nat) (q r l : Int) (hP : PI p) (hk : m 261 0 = nF k) (hk12 : k ≤ 12) (hsk : s < k) (hm : m 262 s = nF n) (hn0 : 1 ≤ n) (hn : n ≤ 8) (hrq : (-2147483648 ≤ q ∧ q < 2147483648)) (hrr : (-2147483648 ≤ r ∧ r < 2147483648)) (hrl : (-2147483648 ≤ l ∧ l < 2147483648)) (hq9 : q < 0 ∨ 10006 < q) : Ct d k_X10_cost S fz [.ref (261), .int (iI (((s : Nat) : Int))), .int (iI (q)), .int (iI (r)), .int (iI (l))] m p (fun v m' p' => v = some (.int (iI (0))) ∧ p = p' ∧ QMx 2 m m') := by
  obtain ⟨d, rfl⟩ : ∃ e, d = e + 1 := ⟨d - 1, by omega⟩
  refine ct_go (lv := [some (.ref (261)), some (.int (iI (((s : Nat) : Int)))), some (.int (iI (q))), some (.int (iI (r))), some (.int (iI (l))), none, none, none, none]) (Nat.le_of_ble_eq_true rfl) (okar_cons rfl (okar_cons rfl (okar_cons rfl (okar_cons rfl (okar_cons rfl okar_nil))))) rfl (fun Qr hQ => ?_)
  refine rw_blk lk_X10_cost_0 ?_
  refine rw_of (fun rr hrr => q_iload_n rfl (q_iconst (q_sipush rfl hrr))) ?_
  obtain ⟨_, mm1, pp2, hV3, rfl, rfl, rfl⟩ := c_X10_isIn0 (S := S) (fz := fz) (m := m) (p := p) (d := d) (by omega) (q) (0) (10006) (by omega) (by omega) (by omega)
  refine rw_of (fun rr hrr => q_invS hV3 rfl rfl (okar_cons rfl (okar_cons rfl (okar_cons rfl okar_nil))) (Nat.le_of_ble_eq_true rfl) hrr) ?_
  refine rw_if_eq ⟨by omega, by omega⟩ (t := 37) rfl (fun hc4 => ?_) (fun hc4 => ?_)
  · skip
    refine rw_blk lk_X10_cost_37 ?_
    refine rw_of (fun rr hrr => q_iconst hrr) ?_
    refine rw_blk lk_X10_cost_38 ?_
    refine rw_of (fun rr hrr => q_istore (Nat.le_of_ble_eq_true rfl) rfl (q_aload_n rfl (q_aload_n rfl (q_iload_n rfl hrr)))) ?_
    obtain ⟨_, mm5, pp6, hV7, rfl, rfl, rfl⟩ := c_X10_isSystem1 (S := S) (fz := fz) (m := m) (p := p) (d := d) (by omega) (((s : Nat) : Int)) (k) hP hk (by omega) (by omega) (by omega)
    refine rw_of (fun rr hrr => q_invV hV7 (show SH 261 = (18, 0) from rfl) rfl rfl (okar_cons rfl okar_nil) (Nat.le_of_ble_eq_true rfl) hrr) ?_
    refine rw_if_ne ⟨by omega, by omega⟩ (t := 53) rfl (fun hc8 => ?_) (fun hc8 => ?_)
    · skip
      refine rw_blk lk_X10_cost_53 ?_
      refine rw_of (fun rr hrr => q_iload rfl hrr) ?_
      refine rw_if_ne ⟨by omega, by omega⟩ (t := 62) rfl (fun hc9 => ?_) (fun hc9 => ?_)
      · exfalso; omega
      · skip
        refine rw_of (fun rr hrr => q_iconst (q_goto (t := 79) rfl hrr)) ?_
        refine rw_blk lk_X10_cost_79 ?_
        obtain ⟨_, mm10, pp11, hV12, rfl, rfl, hw12, hF12⟩ := c_X10_fails1 (S := S) (fz := fz) (m := m) (p := p) (d := d) (by omega) (2) hP (by omega)
        refine rw_of (fun rr hrr => q_invV hV12 (show SH 261 = (18, 0) from rfl) rfl rfl (okar_cons rfl okar_nil) (Nat.le_of_ble_eq_true rfl) hrr) ?_
        refine rw_if_eq ⟨by omega, by omega⟩ (t := 87) rfl (fun hc13 => ?_) (fun hc13 => ?_)
        · exfalso; omega
        · skip
          refine rw_of (fun rr hrr => q_iconst hrr) ?_
          refine rw_ret hQ (q_ireturn (Or.inl rfl)) ?_
          first
            | exact ⟨rfl, rfl, QMx_w hw12 rfl⟩
            | (exfalso; omega)
          
    · exfalso; omega
  · exfalso; omega
theorem c_X10_costSQ {d : Nat} {S : MC} {fz : Bool} {m : M1} {p : M2} (hd : 5 ≤ d) (s : Int) (k : Nat) (q r l : Int) (hP : PI p) (hk : m 261 0 = nF k) (hk12 : k ≤ 12) (hr : (-2147483648 ≤ s ∧ s < 2147483648)) (h : ¬ (0 ≤ s ∧ s < k)) (hrq : (-2147483648 ≤ q ∧ q < 2147483648)) (hrr : (-2147483648 ≤ r ∧ r < 2147483648)) (hrl : (-2147483648 ≤ l ∧ l < 2147483648)) (hq9 : q < 0 ∨ 10006 < q) : Ct d k_X10_cost S fz [.ref (261), .int (iI (s)), .int (iI (q)), .int (iI (r)), .int (iI (l))] m p (fun v m' p' => v = some (.int (iI (0))) ∧ p = p' ∧ QMx 1 m m') := by
  obtain ⟨d, rfl⟩ : ∃ e, d = e + 1 := ⟨d - 1, by omega⟩
  refine ct_go (lv := [some (.ref (261)), some (.int (iI (s))), some (.int (iI (q))), some (.int (iI (r))), some (.int (iI (l))), none, none, none, none]) (Nat.le_of_ble_eq_true rfl) (okar_cons rfl (okar_cons rfl (okar_cons rfl (okar_cons rfl (okar_cons rfl okar_nil))))) rfl (fun Qr hQ => ?_)
  refine rw_blk lk_X10_cost_0 ?_
  refine rw_of (fun rr hrr => q_iload_n rfl (q_iconst (q_sipush rfl hrr))) ?_
  obtain ⟨_, mm1, pp2, hV3, rfl, rfl, rfl⟩ := c_X10_isIn0 (S := S) (fz := fz) (m := m) (p := p) (d := d) (by omega) (q) (0) (10006) (by omega) (by omega) (by omega)
  refine rw_of (fun rr hrr => q_invS hV3 rfl rfl (okar_cons rfl (okar_cons rfl (okar_cons rfl okar_nil))) (Nat.le_of_ble_eq_true rfl) hrr) ?_
  refine rw_if_eq ⟨by omega, by omega⟩ (t := 37) rfl (fun hc4 => ?_) (fun hc4 => ?_)
  · skip
    refine rw_blk lk_X10_cost_37 ?_
    refine rw_of (fun rr hrr => q_iconst hrr) ?_
    refine rw_blk lk_X10_cost_38 ?_
    refine rw_of (fun rr hrr => q_istore (Nat.le_of_ble_eq_true rfl) rfl (q_aload_n rfl (q_aload_n rfl (q_iload_n rfl hrr)))) ?_
    obtain ⟨_, mm5, pp6, hV7, rfl, rfl, rfl⟩ := c_X10_isSystem0 (S := S) (fz := fz) (m := m) (p := p) (d := d) (by omega) (s) (k) hP hk (by omega) (by omega) (by omega)
    refine rw_of (fun rr hrr => q_invV hV7 (show SH 261 = (18, 0) from rfl) rfl rfl (okar_cons rfl okar_nil) (Nat.le_of_ble_eq_true rfl) hrr) ?_
    refine rw_if_ne ⟨by omega, by omega⟩ (t := 53) rfl (fun hc8 => ?_) (fun hc8 => ?_)
    · exfalso; omega
    · skip
      refine rw_of (fun rr hrr => q_iconst (q_goto (t := 79) rfl hrr)) ?_
      refine rw_blk lk_X10_cost_79 ?_
      obtain ⟨_, mm9, pp10, hV11, rfl, rfl, hw11, hF11⟩ := c_X10_fails1 (S := S) (fz := fz) (m := m) (p := p) (d := d) (by omega) (1) hP (by omega)
      refine rw_of (fun rr hrr => q_invV hV11 (show SH 261 = (18, 0) from rfl) rfl rfl (okar_cons rfl okar_nil) (Nat.le_of_ble_eq_true rfl) hrr) ?_
      refine rw_if_eq ⟨by omega, by omega⟩ (t := 87) rfl (fun hc12 => ?_) (fun hc12 => ?_)
      · exfalso; omega
      · skip
        refine rw_of (fun rr hrr => q_iconst hrr) ?_
        refine rw_ret hQ (q_ireturn (Or.inl rfl)) ?_
        first
          | exact ⟨rfl, rfl, QMx_w hw11 rfl⟩
          | (exfalso; omega)
        
  · exfalso; omega
theorem c_X10_costR {d : Nat} {S : MC} {fz : Bool} {m : M1} {p : M2} (hd : 5 ≤ d) (s k n : Nat) (q r l : Int) (hP : PI p) (hk : m 261 0 = nF k) (hk12 : k ≤ 12) (hsk : s < k) (hm : m 262 s = nF n) (hn0 : 1 ≤ n) (hn : n ≤ 8) (hrq : (-2147483648 ≤ q ∧ q < 2147483648)) (hrr : (-2147483648 ≤ r ∧ r < 2147483648)) (hrl : (-2147483648 ≤ l ∧ l < 2147483648)) (hq9 : 0 ≤ q ∧ q ≤ 10006) (hr9 : r < 0 ∨ 10006 < r) : Ct d k_X10_cost S fz [.ref (261), .int (iI (((s : Nat) : Int))), .int (iI (q)), .int (iI (r)), .int (iI (l))] m p (fun v m' p' => v = some (.int (iI (0))) ∧ p = p' ∧ QMx 2 m m') := by
  obtain ⟨d, rfl⟩ : ∃ e, d = e + 1 := ⟨d - 1, by omega⟩
  refine ct_go (lv := [some (.ref (261)), some (.int (iI (((s : Nat) : Int)))), some (.int (iI (q))), some (.int (iI (r))), some (.int (iI (l))), none, none, none, none]) (Nat.le_of_ble_eq_true rfl) (okar_cons rfl (okar_cons rfl (okar_cons rfl (okar_cons rfl (okar_cons rfl okar_nil))))) rfl (fun Qr hQ => ?_)
  refine rw_blk lk_X10_cost_0 ?_
  refine rw_of (fun rr hrr => q_iload_n rfl (q_iconst (q_sipush rfl hrr))) ?_
  obtain ⟨_, mm1, pp2, hV3, rfl, rfl, rfl⟩ := c_X10_isIn1 (S := S) (fz := fz) (m := m) (p := p) (d := d) (by omega) (q) (0) (10006) (by omega) (by omega) (by omega)
  refine rw_of (fun rr hrr => q_invS hV3 rfl rfl (okar_cons rfl (okar_cons rfl (okar_cons rfl okar_nil))) (Nat.le_of_ble_eq_true rfl) hrr) ?_
  refine rw_if_eq ⟨by omega, by omega⟩ (t := 37) rfl (fun hc4 => ?_) (fun hc4 => ?_)
  · exfalso; omega
  · skip
    refine rw_of (fun rr hrr => q_iload_n rfl (q_iconst (q_sipush rfl hrr))) ?_
    obtain ⟨_, mm5, pp6, hV7, rfl, rfl, rfl⟩ := c_X10_isIn0 (S := S) (fz := fz) (m := m) (p := p) (d := d) (by omega) (r) (0) (10006) (by omega) (by omega) (by omega)
    refine rw_of (fun rr hrr => q_invS hV7 rfl rfl (okar_cons rfl (okar_cons rfl (okar_cons rfl okar_nil))) (Nat.le_of_ble_eq_true rfl) hrr) ?_
    refine rw_if_eq ⟨by omega, by omega⟩ (t := 37) rfl (fun hc8 => ?_) (fun hc8 => ?_)
    · skip
      refine rw_blk lk_X10_cost_37 ?_
      refine rw_of (fun rr hrr => q_iconst hrr) ?_
      refine rw_blk lk_X10_cost_38 ?_
      refine rw_of (fun rr hrr => q_istore (Nat.le_of_ble_eq_true rfl) rfl (q_aload_n rfl (q_aload_n rfl (q_iload_n rfl hrr)))) ?_
      obtain ⟨_, mm9, pp10, hV11, rfl, rfl, rfl⟩ := c_X10_isSystem1 (S := S) (fz := fz) (m := m) (p := p) (d := d) (by omega) (((s : Nat) : Int)) (k) hP hk (by omega) (by omega) (by omega)
      refine rw_of (fun rr hrr => q_invV hV11 (show SH 261 = (18, 0) from rfl) rfl rfl (okar_cons rfl okar_nil) (Nat.le_of_ble_eq_true rfl) hrr) ?_
      refine rw_if_ne ⟨by omega, by omega⟩ (t := 53) rfl (fun hc12 => ?_) (fun hc12 => ?_)
      · skip
        refine rw_blk lk_X10_cost_53 ?_
        refine rw_of (fun rr hrr => q_iload rfl hrr) ?_
        refine rw_if_ne ⟨by omega, by omega⟩ (t := 62) rfl (fun hc13 => ?_) (fun hc13 => ?_)
        · exfalso; omega
        · skip
          refine rw_of (fun rr hrr => q_iconst (q_goto (t := 79) rfl hrr)) ?_
          refine rw_blk lk_X10_cost_79 ?_
          obtain ⟨_, mm14, pp15, hV16, rfl, rfl, hw16, hF16⟩ := c_X10_fails1 (S := S) (fz := fz) (m := m) (p := p) (d := d) (by omega) (2) hP (by omega)
          refine rw_of (fun rr hrr => q_invV hV16 (show SH 261 = (18, 0) from rfl) rfl rfl (okar_cons rfl okar_nil) (Nat.le_of_ble_eq_true rfl) hrr) ?_
          refine rw_if_eq ⟨by omega, by omega⟩ (t := 87) rfl (fun hc17 => ?_) (fun hc17 => ?_)
          · exfalso; omega
          · skip
            refine rw_of (fun rr hrr => q_iconst hrr) ?_
            refine rw_ret hQ (q_ireturn (Or.inl rfl)) ?_
            first
              | exact ⟨rfl, rfl, QMx_w hw16 rfl⟩
              | (exfalso; omega)
            
      · exfalso; omega
    · exfalso; omega
theorem c_X10_costSR {d : Nat} {S : MC} {fz : Bool} {m : M1} {p : M2} (hd : 5 ≤ d) (s : Int) (k : Nat) (q r l : Int) (hP : PI p) (hk : m 261 0 = nF k) (hk12 : k ≤ 12) (hr : (-2147483648 ≤ s ∧ s < 2147483648)) (h : ¬ (0 ≤ s ∧ s < k)) (hrq : (-2147483648 ≤ q ∧ q < 2147483648)) (hrr : (-2147483648 ≤ r ∧ r < 2147483648)) (hrl : (-2147483648 ≤ l ∧ l < 2147483648)) (hq9 : 0 ≤ q ∧ q ≤ 10006) (hr9 : r < 0 ∨ 10006 < r) : Ct d k_X10_cost S fz [.ref (261), .int (iI (s)), .int (iI (q)), .int (iI (r)), .int (iI (l))] m p (fun v m' p' => v = some (.int (iI (0))) ∧ p = p' ∧ QMx 1 m m') := by
  obtain ⟨d, rfl⟩ : ∃ e, d = e + 1 := ⟨d - 1, by omega⟩
  refine ct_go (lv := [some (.ref (261)), some (.int (iI (s))), some (.int (iI (q))), some (.int (iI (r))), some (.int (iI (l))), none, none, none, none]) (Nat.le_of_ble_eq_true rfl) (okar_cons rfl (okar_cons rfl (okar_cons rfl (okar_cons rfl (okar_cons rfl okar_nil))))) rfl (fun Qr hQ => ?_)
  refine rw_blk lk_X10_cost_0 ?_
  refine rw_of (fun rr hrr => q_iload_n rfl (q_iconst (q_sipush rfl hrr))) ?_
  obtain ⟨_, mm1, pp2, hV3, rfl, rfl, rfl⟩ := c_X10_isIn1 (S := S) (fz := fz) (m := m) (p := p) (d := d) (by omega) (q) (0) (10006) (by omega) (by omega) (by omega)
  refine rw_of (fun rr hrr => q_invS hV3 rfl rfl (okar_cons rfl (okar_cons rfl (okar_cons rfl okar_nil))) (Nat.le_of_ble_eq_true rfl) hrr) ?_
  refine rw_if_eq ⟨by omega, by omega⟩ (t := 37) rfl (fun hc4 => ?_) (fun hc4 => ?_)
  · exfalso; omega
  · skip
    refine rw_of (fun rr hrr => q_iload_n rfl (q_iconst (q_sipush rfl hrr))) ?_
    obtain ⟨_, mm5, pp6, hV7, rfl, rfl, rfl⟩ := c_X10_isIn0 (S := S) (fz := fz) (m := m) (p := p) (d := d) (by omega) (r) (0) (10006) (by omega) (by omega) (by omega)
    refine rw_of (fun rr hrr => q_invS hV7 rfl rfl (okar_cons rfl (okar_cons rfl (okar_cons rfl okar_nil))) (Nat.le_of_ble_eq_true rfl) hrr) ?_
    refine rw_if_eq ⟨by omega, by omega⟩ (t := 37) rfl (fun hc8 => ?_) (fun hc8 => ?_)
    · skip
      refine rw_blk lk_X10_cost_37 ?_
      refine rw_of (fun rr hrr => q_iconst hrr) ?_
      refine rw_blk lk_X10_cost_38 ?_
      refine rw_of (fun rr hrr => q_istore (Nat.le_of_ble_eq_true rfl) rfl (q_aload_n rfl (q_aload_n rfl (q_iload_n rfl hrr)))) ?_
      obtain ⟨_, mm9, pp10, hV11, rfl, rfl, rfl⟩ := c_X10_isSystem0 (S := S) (fz := fz) (m := m) (p := p) (d := d) (by omega) (s) (k) hP hk (by omega) (by omega) (by omega)
      refine rw_of (fun rr hrr => q_invV hV11 (show SH 261 = (18, 0) from rfl) rfl rfl (okar_cons rfl okar_nil) (Nat.le_of_ble_eq_true rfl) hrr) ?_
      refine rw_if_ne ⟨by omega, by omega⟩ (t := 53) rfl (fun hc12 => ?_) (fun hc12 => ?_)
      · exfalso; omega
      · skip
        refine rw_of (fun rr hrr => q_iconst (q_goto (t := 79) rfl hrr)) ?_
        refine rw_blk lk_X10_cost_79 ?_
        obtain ⟨_, mm13, pp14, hV15, rfl, rfl, hw15, hF15⟩ := c_X10_fails1 (S := S) (fz := fz) (m := m) (p := p) (d := d) (by omega) (1) hP (by omega)
        refine rw_of (fun rr hrr => q_invV hV15 (show SH 261 = (18, 0) from rfl) rfl rfl (okar_cons rfl okar_nil) (Nat.le_of_ble_eq_true rfl) hrr) ?_
        refine rw_if_eq ⟨by omega, by omega⟩ (t := 87) rfl (fun hc16 => ?_) (fun hc16 => ?_)
        · exfalso; omega
        · skip
          refine rw_of (fun rr hrr => q_iconst hrr) ?_
          refine rw_ret hQ (q_ireturn (Or.inl rfl)) ?_
          first
            | exact ⟨rfl, rfl, QMx_w hw15 rfl⟩
            | (exfalso; omega)
          
    · exfalso; omega
theorem c_X10_costL {d : Nat} {S : MC} {fz : Bool} {m : M1} {p : M2} (hd : 5 ≤ d) (s k n : Nat) (q r l : Int) (hP : PI p) (hk : m 261 0 = nF k) (hk12 : k ≤ 12) (hsk : s < k) (hm : m 262 s = nF n) (hn0 : 1 ≤ n) (hn : n ≤ 8) (hrq : (-2147483648 ≤ q ∧ q < 2147483648)) (hrr : (-2147483648 ≤ r ∧ r < 2147483648)) (hrl : (-2147483648 ≤ l ∧ l < 2147483648)) (hq9 : 0 ≤ q ∧ q ≤ 10006) (hr9 : 0 ≤ r ∧ r ≤ 10006) (hl9 : l < 0 ∨ 20 < l) : Ct d k_X10_cost S fz [.ref (261), .int (iI (((s : Nat) : Int))), .int (iI (q)), .int (iI (r)), .int (iI (l))] m p (fun v m' p' => v = some (.int (iI (0))) ∧ p = p' ∧ QMx 2 m m') := by
  obtain ⟨d, rfl⟩ : ∃ e, d = e + 1 := ⟨d - 1, by omega⟩
  refine ct_go (lv := [some (.ref (261)), some (.int (iI (((s : Nat) : Int)))), some (.int (iI (q))), some (.int (iI (r))), some (.int (iI (l))), none, none, none, none]) (Nat.le_of_ble_eq_true rfl) (okar_cons rfl (okar_cons rfl (okar_cons rfl (okar_cons rfl (okar_cons rfl okar_nil))))) rfl (fun Qr hQ => ?_)
  refine rw_blk lk_X10_cost_0 ?_
  refine rw_of (fun rr hrr => q_iload_n rfl (q_iconst (q_sipush rfl hrr))) ?_
  obtain ⟨_, mm1, pp2, hV3, rfl, rfl, rfl⟩ := c_X10_isIn1 (S := S) (fz := fz) (m := m) (p := p) (d := d) (by omega) (q) (0) (10006) (by omega) (by omega) (by omega)
  refine rw_of (fun rr hrr => q_invS hV3 rfl rfl (okar_cons rfl (okar_cons rfl (okar_cons rfl okar_nil))) (Nat.le_of_ble_eq_true rfl) hrr) ?_
  refine rw_if_eq ⟨by omega, by omega⟩ (t := 37) rfl (fun hc4 => ?_) (fun hc4 => ?_)
  · exfalso; omega
  · skip
    refine rw_of (fun rr hrr => q_iload_n rfl (q_iconst (q_sipush rfl hrr))) ?_
    obtain ⟨_, mm5, pp6, hV7, rfl, rfl, rfl⟩ := c_X10_isIn1 (S := S) (fz := fz) (m := m) (p := p) (d := d) (by omega) (r) (0) (10006) (by omega) (by omega) (by omega)
    refine rw_of (fun rr hrr => q_invS hV7 rfl rfl (okar_cons rfl (okar_cons rfl (okar_cons rfl okar_nil))) (Nat.le_of_ble_eq_true rfl) hrr) ?_
    refine rw_if_eq ⟨by omega, by omega⟩ (t := 37) rfl (fun hc8 => ?_) (fun hc8 => ?_)
    · exfalso; omega
    · skip
      refine rw_of (fun rr hrr => q_iload rfl (q_iconst (q_bipush rfl hrr))) ?_
      obtain ⟨_, mm9, pp10, hV11, rfl, rfl, rfl⟩ := c_X10_isIn0 (S := S) (fz := fz) (m := m) (p := p) (d := d) (by omega) (l) (0) (20) (by omega) (by omega) (by omega)
      refine rw_of (fun rr hrr => q_invS hV11 rfl rfl (okar_cons rfl (okar_cons rfl (okar_cons rfl okar_nil))) (Nat.le_of_ble_eq_true rfl) hrr) ?_
      refine rw_if_eq ⟨by omega, by omega⟩ (t := 37) rfl (fun hc12 => ?_) (fun hc12 => ?_)
      · skip
        refine rw_blk lk_X10_cost_37 ?_
        refine rw_of (fun rr hrr => q_iconst hrr) ?_
        refine rw_blk lk_X10_cost_38 ?_
        refine rw_of (fun rr hrr => q_istore (Nat.le_of_ble_eq_true rfl) rfl (q_aload_n rfl (q_aload_n rfl (q_iload_n rfl hrr)))) ?_
        obtain ⟨_, mm13, pp14, hV15, rfl, rfl, rfl⟩ := c_X10_isSystem1 (S := S) (fz := fz) (m := m) (p := p) (d := d) (by omega) (((s : Nat) : Int)) (k) hP hk (by omega) (by omega) (by omega)
        refine rw_of (fun rr hrr => q_invV hV15 (show SH 261 = (18, 0) from rfl) rfl rfl (okar_cons rfl okar_nil) (Nat.le_of_ble_eq_true rfl) hrr) ?_
        refine rw_if_ne ⟨by omega, by omega⟩ (t := 53) rfl (fun hc16 => ?_) (fun hc16 => ?_)
        · skip
          refine rw_blk lk_X10_cost_53 ?_
          refine rw_of (fun rr hrr => q_iload rfl hrr) ?_
          refine rw_if_ne ⟨by omega, by omega⟩ (t := 62) rfl (fun hc17 => ?_) (fun hc17 => ?_)
          · exfalso; omega
          · skip
            refine rw_of (fun rr hrr => q_iconst (q_goto (t := 79) rfl hrr)) ?_
            refine rw_blk lk_X10_cost_79 ?_
            obtain ⟨_, mm18, pp19, hV20, rfl, rfl, hw20, hF20⟩ := c_X10_fails1 (S := S) (fz := fz) (m := m) (p := p) (d := d) (by omega) (2) hP (by omega)
            refine rw_of (fun rr hrr => q_invV hV20 (show SH 261 = (18, 0) from rfl) rfl rfl (okar_cons rfl okar_nil) (Nat.le_of_ble_eq_true rfl) hrr) ?_
            refine rw_if_eq ⟨by omega, by omega⟩ (t := 87) rfl (fun hc21 => ?_) (fun hc21 => ?_)
            · exfalso; omega
            · skip
              refine rw_of (fun rr hrr => q_iconst hrr) ?_
              refine rw_ret hQ (q_ireturn (Or.inl rfl)) ?_
              first
                | exact ⟨rfl, rfl, QMx_w hw20 rfl⟩
                | (exfalso; omega)
              
        · exfalso; omega
      · exfalso; omega
theorem c_X10_costSL {d : Nat} {S : MC} {fz : Bool} {m : M1} {p : M2} (hd : 5 ≤ d) (s : Int) (k : Nat) (q r l : Int) (hP : PI p) (hk : m 261 0 = nF k) (hk12 : k ≤ 12) (hr : (-2147483648 ≤ s ∧ s < 2147483648)) (h : ¬ (0 ≤ s ∧ s < k)) (hrq : (-2147483648 ≤ q ∧ q < 2147483648)) (hrr : (-2147483648 ≤ r ∧ r < 2147483648)) (hrl : (-2147483648 ≤ l ∧ l < 2147483648)) (hq9 : 0 ≤ q ∧ q ≤ 10006) (hr9 : 0 ≤ r ∧ r ≤ 10006) (hl9 : l < 0 ∨ 20 < l) : Ct d k_X10_cost S fz [.ref (261), .int (iI (s)), .int (iI (q)), .int (iI (r)), .int (iI (l))] m p (fun v m' p' => v = some (.int (iI (0))) ∧ p = p' ∧ QMx 1 m m') := by
  obtain ⟨d, rfl⟩ : ∃ e, d = e + 1 := ⟨d - 1, by omega⟩
  refine ct_go (lv := [some (.ref (261)), some (.int (iI (s))), some (.int (iI (q))), some (.int (iI (r))), some (.int (iI (l))), none, none, none, none]) (Nat.le_of_ble_eq_true rfl) (okar_cons rfl (okar_cons rfl (okar_cons rfl (okar_cons rfl (okar_cons rfl okar_nil))))) rfl (fun Qr hQ => ?_)
  refine rw_blk lk_X10_cost_0 ?_
  refine rw_of (fun rr hrr => q_iload_n rfl (q_iconst (q_sipush rfl hrr))) ?_
  obtain ⟨_, mm1, pp2, hV3, rfl, rfl, rfl⟩ := c_X10_isIn1 (S := S) (fz := fz) (m := m) (p := p) (d := d) (by omega) (q) (0) (10006) (by omega) (by omega) (by omega)
  refine rw_of (fun rr hrr => q_invS hV3 rfl rfl (okar_cons rfl (okar_cons rfl (okar_cons rfl okar_nil))) (Nat.le_of_ble_eq_true rfl) hrr) ?_
  refine rw_if_eq ⟨by omega, by omega⟩ (t := 37) rfl (fun hc4 => ?_) (fun hc4 => ?_)
  · exfalso; omega
  · skip
    refine rw_of (fun rr hrr => q_iload_n rfl (q_iconst (q_sipush rfl hrr))) ?_
    obtain ⟨_, mm5, pp6, hV7, rfl, rfl, rfl⟩ := c_X10_isIn1 (S := S) (fz := fz) (m := m) (p := p) (d := d) (by omega) (r) (0) (10006) (by omega) (by omega) (by omega)
    refine rw_of (fun rr hrr => q_invS hV7 rfl rfl (okar_cons rfl (okar_cons rfl (okar_cons rfl okar_nil))) (Nat.le_of_ble_eq_true rfl) hrr) ?_
    refine rw_if_eq ⟨by omega, by omega⟩ (t := 37) rfl (fun hc8 => ?_) (fun hc8 => ?_)
    · exfalso; omega
    · skip
      refine rw_of (fun rr hrr => q_iload rfl (q_iconst (q_bipush rfl hrr))) ?_
      obtain ⟨_, mm9, pp10, hV11, rfl, rfl, rfl⟩ := c_X10_isIn0 (S := S) (fz := fz) (m := m) (p := p) (d := d) (by omega) (l) (0) (20) (by omega) (by omega) (by omega)
      refine rw_of (fun rr hrr => q_invS hV11 rfl rfl (okar_cons rfl (okar_cons rfl (okar_cons rfl okar_nil))) (Nat.le_of_ble_eq_true rfl) hrr) ?_
      refine rw_if_eq ⟨by omega, by omega⟩ (t := 37) rfl (fun hc12 => ?_) (fun hc12 => ?_)
      · skip
        refine rw_blk lk_X10_cost_37 ?_
        refine rw_of (fun rr hrr => q_iconst hrr) ?_
        refine rw_blk lk_X10_cost_38 ?_
        refine rw_of (fun rr hrr => q_istore (Nat.le_of_ble_eq_true rfl) rfl (q_aload_n rfl (q_aload_n rfl (q_iload_n rfl hrr)))) ?_
        obtain ⟨_, mm13, pp14, hV15, rfl, rfl, rfl⟩ := c_X10_isSystem0 (S := S) (fz := fz) (m := m) (p := p) (d := d) (by omega) (s) (k) hP hk (by omega) (by omega) (by omega)
        refine rw_of (fun rr hrr => q_invV hV15 (show SH 261 = (18, 0) from rfl) rfl rfl (okar_cons rfl okar_nil) (Nat.le_of_ble_eq_true rfl) hrr) ?_
        refine rw_if_ne ⟨by omega, by omega⟩ (t := 53) rfl (fun hc16 => ?_) (fun hc16 => ?_)
        · exfalso; omega
        · skip
          refine rw_of (fun rr hrr => q_iconst (q_goto (t := 79) rfl hrr)) ?_
          refine rw_blk lk_X10_cost_79 ?_
          obtain ⟨_, mm17, pp18, hV19, rfl, rfl, hw19, hF19⟩ := c_X10_fails1 (S := S) (fz := fz) (m := m) (p := p) (d := d) (by omega) (1) hP (by omega)
          refine rw_of (fun rr hrr => q_invV hV19 (show SH 261 = (18, 0) from rfl) rfl rfl (okar_cons rfl okar_nil) (Nat.le_of_ble_eq_true rfl) hrr) ?_
          refine rw_if_eq ⟨by omega, by omega⟩ (t := 87) rfl (fun hc20 => ?_) (fun hc20 => ?_)
          · exfalso; omega
          · skip
            refine rw_of (fun rr hrr => q_iconst hrr) ?_
            refine rw_ret hQ (q_ireturn (Or.inl rfl)) ?_
            first
              | exact ⟨rfl, rfl, QMx_w hw19 rfl⟩
              | (exfalso; omega)
            
      · exfalso; omega
theorem c_X10_costSY {d : Nat} {S : MC} {fz : Bool} {m : M1} {p : M2} (hd : 5 ≤ d) (s : Int) (k : Nat) (q r l : Int) (hP : PI p) (hk : m 261 0 = nF k) (hk12 : k ≤ 12) (hr : (-2147483648 ≤ s ∧ s < 2147483648)) (h : ¬ (0 ≤ s ∧ s < k)) (hrq : (-2147483648 ≤ q ∧ q < 2147483648)) (hrr : (-2147483648 ≤ r ∧ r < 2147483648)) (hrl : (-2147483648 ≤ l ∧ l < 2147483648)) (hq9 : 0 ≤ q ∧ q ≤ 10006) (hr9 : 0 ≤ r ∧ r ≤ 10006) (hl9 : 0 ≤ l ∧ l ≤ 20) : Ct d k_X10_cost S fz [.ref (261), .int (iI (s)), .int (iI (q)), .int (iI (r)), .int (iI (l))] m p (fun v m' p' => v = some (.int (iI (0))) ∧ p = p' ∧ QMx 1 m m') := by
  obtain ⟨d, rfl⟩ : ∃ e, d = e + 1 := ⟨d - 1, by omega⟩
  refine ct_go (lv := [some (.ref (261)), some (.int (iI (s))), some (.int (iI (q))), some (.int (iI (r))), some (.int (iI (l))), none, none, none, none]) (Nat.le_of_ble_eq_true rfl) (okar_cons rfl (okar_cons rfl (okar_cons rfl (okar_cons rfl (okar_cons rfl okar_nil))))) rfl (fun Qr hQ => ?_)
  refine rw_blk lk_X10_cost_0 ?_
  refine rw_of (fun rr hrr => q_iload_n rfl (q_iconst (q_sipush rfl hrr))) ?_
  obtain ⟨_, mm1, pp2, hV3, rfl, rfl, rfl⟩ := c_X10_isIn1 (S := S) (fz := fz) (m := m) (p := p) (d := d) (by omega) (q) (0) (10006) (by omega) (by omega) (by omega)
  refine rw_of (fun rr hrr => q_invS hV3 rfl rfl (okar_cons rfl (okar_cons rfl (okar_cons rfl okar_nil))) (Nat.le_of_ble_eq_true rfl) hrr) ?_
  refine rw_if_eq ⟨by omega, by omega⟩ (t := 37) rfl (fun hc4 => ?_) (fun hc4 => ?_)
  · exfalso; omega
  · skip
    refine rw_of (fun rr hrr => q_iload_n rfl (q_iconst (q_sipush rfl hrr))) ?_
    obtain ⟨_, mm5, pp6, hV7, rfl, rfl, rfl⟩ := c_X10_isIn1 (S := S) (fz := fz) (m := m) (p := p) (d := d) (by omega) (r) (0) (10006) (by omega) (by omega) (by omega)
    refine rw_of (fun rr hrr => q_invS hV7 rfl rfl (okar_cons rfl (okar_cons rfl (okar_cons rfl okar_nil))) (Nat.le_of_ble_eq_true rfl) hrr) ?_
    refine rw_if_eq ⟨by omega, by omega⟩ (t := 37) rfl (fun hc8 => ?_) (fun hc8 => ?_)
    · exfalso; omega
    · skip
      refine rw_of (fun rr hrr => q_iload rfl (q_iconst (q_bipush rfl hrr))) ?_
      obtain ⟨_, mm9, pp10, hV11, rfl, rfl, rfl⟩ := c_X10_isIn1 (S := S) (fz := fz) (m := m) (p := p) (d := d) (by omega) (l) (0) (20) (by omega) (by omega) (by omega)
      refine rw_of (fun rr hrr => q_invS hV11 rfl rfl (okar_cons rfl (okar_cons rfl (okar_cons rfl okar_nil))) (Nat.le_of_ble_eq_true rfl) hrr) ?_
      refine rw_if_eq ⟨by omega, by omega⟩ (t := 37) rfl (fun hc12 => ?_) (fun hc12 => ?_)
      · exfalso; omega
      · skip
        refine rw_of (fun rr hrr => q_iconst (q_goto (t := 38) rfl hrr)) ?_
        refine rw_blk lk_X10_cost_38 ?_
        refine rw_of (fun rr hrr => q_istore (Nat.le_of_ble_eq_true rfl) rfl (q_aload_n rfl (q_aload_n rfl (q_iload_n rfl hrr)))) ?_
        obtain ⟨_, mm13, pp14, hV15, rfl, rfl, rfl⟩ := c_X10_isSystem0 (S := S) (fz := fz) (m := m) (p := p) (d := d) (by omega) (s) (k) hP hk (by omega) (by omega) (by omega)
        refine rw_of (fun rr hrr => q_invV hV15 (show SH 261 = (18, 0) from rfl) rfl rfl (okar_cons rfl okar_nil) (Nat.le_of_ble_eq_true rfl) hrr) ?_
        refine rw_if_ne ⟨by omega, by omega⟩ (t := 53) rfl (fun hc16 => ?_) (fun hc16 => ?_)
        · exfalso; omega
        · skip
          refine rw_of (fun rr hrr => q_iconst (q_goto (t := 79) rfl hrr)) ?_
          refine rw_blk lk_X10_cost_79 ?_
          obtain ⟨_, mm17, pp18, hV19, rfl, rfl, hw19, hF19⟩ := c_X10_fails1 (S := S) (fz := fz) (m := m) (p := p) (d := d) (by omega) (1) hP (by omega)
          refine rw_of (fun rr hrr => q_invV hV19 (show SH 261 = (18, 0) from rfl) rfl rfl (okar_cons rfl okar_nil) (Nat.le_of_ble_eq_true rfl) hrr) ?_
          refine rw_if_eq ⟨by omega, by omega⟩ (t := 87) rfl (fun hc20 => ?_) (fun hc20 => ?_)
          · exfalso; omega
          · skip
            refine rw_of (fun rr hrr => q_iconst hrr) ?_
            refine rw_ret hQ (q_ireturn (Or.inl rfl)) ?_
            first
              | exact ⟨rfl, rfl, QMx_w hw19 rfl⟩
              | (exfalso; omega)
            
theorem c_X10_costAnew1 {d : Nat} {S : MC} {fz : Bool} {m : M1} {p : M2} (hd : 6 ≤ d) (s k n l : Nat) (q r : F) (hP : PI p) (hk : m 261 0 = nF k) (hk12 : k ≤ 12) (hsk : s < k) (hm : m 262 s = nF n) (hn0 : 1 ≤ n) (hn : n ≤ 8) (hl : l ≤ 20) (hr : ∀ z, z < l → rm n ((mc n (fun z w => m 263 (64 * s + 8 * z + w)) (fun z => m 264 (8 * s + z)) (fun z => m 265 (8 * s + z)) q r) z) (fun z => m 264 (8 * s + z)) r ≠ 0) : Ct d k_X10_costAnew S fz [.ref (261), .int (iI (((s : Nat) : Int))), .int (iI (vF (q))), .int (iI (vF (r))), .int (iI (((l : Nat) : Int)))] m p (fun v m' p' => v = some (.int (iI (vF (sm n (fun z => sm n (fun w => (mc n (fun z w => m 263 (64 * s + 8 * z + w)) (fun z => m 264 (8 * s + z)) (fun z => m 265 (8 * s + z)) q r) l z w)))))) ∧ p = p' ∧ QMx 0 m m') := by
  obtain ⟨d, rfl⟩ : ∃ e, d = e + 1 := ⟨d - 1, by omega⟩
  refine ct_go (lv := [some (.ref (261)), some (.int (iI (((s : Nat) : Int)))), some (.int (iI (vF (q)))), some (.int (iI (vF (r)))), some (.int (iI (((l : Nat) : Int))))]) (Nat.le_of_ble_eq_true rfl) (okar_cons rfl (okar_cons rfl (okar_cons rfl (okar_cons rfl (okar_cons rfl okar_nil))))) rfl (fun Qr hQ => ?_)
  refine rw_blk lk_X10_costAnew_0 ?_
  refine rw_of (fun rr hrr => q_aload_n rfl (q_iload_n rfl (q_iload_n rfl (q_iload_n rfl (q_iload rfl hrr))))) ?_
  obtain ⟨_, mm1, pp2, hV3, rfl, rfl, hq3⟩ := c_X10_cost1 (S := S) (fz := fz) (m := m) (p := p) (d := d) (by omega) (s) (k) (n) (l) (q) (r) hP hk (by omega) (by omega) hm (by omega) (by omega) (by omega) (hr)
  refine rw_of (fun rr hrr => q_invV hV3 (show SH 261 = (18, 0) from rfl) rfl rfl (okar_cons rfl (okar_cons rfl (okar_cons rfl (okar_cons rfl okar_nil)))) (Nat.le_of_ble_eq_true rfl) hrr) ?_
  exact rw_ret hQ (q_ireturn (Or.inl rfl)) (by exact ⟨rfl, rfl, hq3⟩)
theorem c_X10_costAnewM {d : Nat} {S : MC} {fz : Bool} {m : M1} {p : M2} (hd : 6 ≤ d) (s k n l l0 : Nat) (q r : F) (hP : PI p) (hk : m 261 0 = nF k) (hk12 : k ≤ 12) (hsk : s < k) (hm : m 262 s = nF n) (hn0 : 1 ≤ n) (hn : n ≤ 8) (hl : l0 < l ∧ l ≤ 20) (hr : ∀ z, z < l0 → rm n ((mc n (fun z w => m 263 (64 * s + 8 * z + w)) (fun z => m 264 (8 * s + z)) (fun z => m 265 (8 * s + z)) q r) z) (fun z => m 264 (8 * s + z)) r ≠ 0) (hr0 : rm n ((mc n (fun z w => m 263 (64 * s + 8 * z + w)) (fun z => m 264 (8 * s + z)) (fun z => m 265 (8 * s + z)) q r) l0) (fun z => m 264 (8 * s + z)) r = 0) : Ct d k_X10_costAnew S fz [.ref (261), .int (iI (((s : Nat) : Int))), .int (iI (vF (q))), .int (iI (vF (r))), .int (iI (((l : Nat) : Int)))] m p (fun v m' p' => v = some (.int (iI (0))) ∧ p = p' ∧ QMx 3 m m') := by
  obtain ⟨d, rfl⟩ : ∃ e, d = e + 1 := ⟨d - 1, by omega⟩
  refine ct_go (lv := [some (.ref (261)), some (.int (iI (((s : Nat) : Int)))), some (.int (iI (vF (q)))), some (.int (iI (vF (r)))), some (.int (iI (((l : Nat) : Int))))]) (Nat.le_of_ble_eq_true rfl) (okar_cons rfl (okar_cons rfl (okar_cons rfl (okar_cons rfl (okar_cons rfl okar_nil))))) rfl (fun Qr hQ => ?_)
  refine rw_blk lk_X10_costAnew_0 ?_
  refine rw_of (fun rr hrr => q_aload_n rfl (q_iload_n rfl (q_iload_n rfl (q_iload_n rfl (q_iload rfl hrr))))) ?_
  obtain ⟨_, mm1, pp2, hV3, rfl, rfl, hq3⟩ := c_X10_costM (S := S) (fz := fz) (m := m) (p := p) (d := d) (by omega) (s) (k) (n) (l) (l0) (q) (r) hP hk (by omega) (by omega) hm (by omega) (by omega) (by omega) (hr) (hr0)
  refine rw_of (fun rr hrr => q_invV hV3 (show SH 261 = (18, 0) from rfl) rfl rfl (okar_cons rfl (okar_cons rfl (okar_cons rfl (okar_cons rfl okar_nil)))) (Nat.le_of_ble_eq_true rfl) hrr) ?_
  exact rw_ret hQ (q_ireturn (Or.inl rfl)) (by exact ⟨rfl, rfl, hq3⟩)
theorem c_X10_costAnewQ {d : Nat} {S : MC} {fz : Bool} {m : M1} {p : M2} (hd : 6 ≤ d) (s k n : Nat) (q r l : Int) (hP : PI p) (hk : m 261 0 = nF k) (hk12 : k ≤ 12) (hsk : s < k) (hm : m 262 s = nF n) (hn0 : 1 ≤ n) (hn : n ≤ 8) (hrq : (-2147483648 ≤ q ∧ q < 2147483648)) (hrr : (-2147483648 ≤ r ∧ r < 2147483648)) (hrl : (-2147483648 ≤ l ∧ l < 2147483648)) (hq9 : q < 0 ∨ 10006 < q) : Ct d k_X10_costAnew S fz [.ref (261), .int (iI (((s : Nat) : Int))), .int (iI (q)), .int (iI (r)), .int (iI (l))] m p (fun v m' p' => v = some (.int (iI (0))) ∧ p = p' ∧ QMx 2 m m') := by
  obtain ⟨d, rfl⟩ : ∃ e, d = e + 1 := ⟨d - 1, by omega⟩
  refine ct_go (lv := [some (.ref (261)), some (.int (iI (((s : Nat) : Int)))), some (.int (iI (q))), some (.int (iI (r))), some (.int (iI (l)))]) (Nat.le_of_ble_eq_true rfl) (okar_cons rfl (okar_cons rfl (okar_cons rfl (okar_cons rfl (okar_cons rfl okar_nil))))) rfl (fun Qr hQ => ?_)
  refine rw_blk lk_X10_costAnew_0 ?_
  refine rw_of (fun rr hrr => q_aload_n rfl (q_iload_n rfl (q_iload_n rfl (q_iload_n rfl (q_iload rfl hrr))))) ?_
  obtain ⟨_, mm1, pp2, hV3, rfl, rfl, hq3⟩ := c_X10_costQ (S := S) (fz := fz) (m := m) (p := p) (d := d) (by omega) (s) (k) (n) (q) (r) (l) hP hk (by omega) (by omega) hm (by omega) (by omega) (by omega) (by omega) (by omega) (by omega)
  refine rw_of (fun rr hrr => q_invV hV3 (show SH 261 = (18, 0) from rfl) rfl rfl (okar_cons rfl (okar_cons rfl (okar_cons rfl (okar_cons rfl okar_nil)))) (Nat.le_of_ble_eq_true rfl) hrr) ?_
  exact rw_ret hQ (q_ireturn (Or.inl rfl)) (by exact ⟨rfl, rfl, hq3⟩)
theorem c_X10_costAnewSQ {d : Nat} {S : MC} {fz : Bool} {m : M1} {p : M2} (hd : 6 ≤ d) (s : Int) (k : Nat) (q r l : Int) (hP : PI p) (hk : m 261 0 = nF k) (hk12 : k ≤ 12) (hr : (-2147483648 ≤ s ∧ s < 2147483648)) (h : ¬ (0 ≤ s ∧ s < k)) (hrq : (-2147483648 ≤ q ∧ q < 2147483648)) (hrr : (-2147483648 ≤ r ∧ r < 2147483648)) (hrl : (-2147483648 ≤ l ∧ l < 2147483648)) (hq9 : q < 0 ∨ 10006 < q) : Ct d k_X10_costAnew S fz [.ref (261), .int (iI (s)), .int (iI (q)), .int (iI (r)), .int (iI (l))] m p (fun v m' p' => v = some (.int (iI (0))) ∧ p = p' ∧ QMx 1 m m') := by
  obtain ⟨d, rfl⟩ : ∃ e, d = e + 1 := ⟨d - 1, by omega⟩
  refine ct_go (lv := [some (.ref (261)), some (.int (iI (s))), some (.int (iI (q))), some (.int (iI (r))), some (.int (iI (l)))]) (Nat.le_of_ble_eq_true rfl) (okar_cons rfl (okar_cons rfl (okar_cons rfl (okar_cons rfl (okar_cons rfl okar_nil))))) rfl (fun Qr hQ => ?_)
  refine rw_blk lk_X10_costAnew_0 ?_
  refine rw_of (fun rr hrr => q_aload_n rfl (q_iload_n rfl (q_iload_n rfl (q_iload_n rfl (q_iload rfl hrr))))) ?_
  obtain ⟨_, mm1, pp2, hV3, rfl, rfl, hq3⟩ := c_X10_costSQ (S := S) (fz := fz) (m := m) (p := p) (d := d) (by omega) (s) (k) (q) (r) (l) hP hk (by omega) (by omega) (h) (by omega) (by omega) (by omega) (by omega)
  refine rw_of (fun rr hrr => q_invV hV3 (show SH 261 = (18, 0) from rfl) rfl rfl (okar_cons rfl (okar_cons rfl (okar_cons rfl (okar_cons rfl okar_nil)))) (Nat.le_of_ble_eq_true rfl) hrr) ?_
  exact rw_ret hQ (q_ireturn (Or.inl rfl)) (by exact ⟨rfl, rfl, hq3⟩)
theorem c_X10_costAnewR {d : Nat} {S : MC} {fz : Bool} {m : M1} {p : M2} (hd : 6 ≤ d) (s k n : Nat) (q r l : Int) (hP : PI p) (hk : m 261 0 = nF k) (hk12 : k ≤ 12) (hsk : s < k) (hm : m 262 s = nF n) (hn0 : 1 ≤ n) (hn : n ≤ 8) (hrq : (-2147483648 ≤ q ∧ q < 2147483648)) (hrr : (-2147483648 ≤ r ∧ r < 2147483648)) (hrl : (-2147483648 ≤ l ∧ l < 2147483648)) (hq9 : 0 ≤ q ∧ q ≤ 10006) (hr9 : r < 0 ∨ 10006 < r) : Ct d k_X10_costAnew S fz [.ref (261), .int (iI (((s : Nat) : Int))), .int (iI (q)), .int (iI (r)), .int (iI (l))] m p (fun v m' p' => v = some (.int (iI (0))) ∧ p = p' ∧ QMx 2 m m') := by
  obtain ⟨d, rfl⟩ : ∃ e, d = e + 1 := ⟨d - 1, by omega⟩
  refine ct_go (lv := [some (.ref (261)), some (.int (iI (((s : Nat) : Int)))), some (.int (iI (q))), some (.int (iI (r))), some (.int (iI (l)))]) (Nat.le_of_ble_eq_true rfl) (okar_cons rfl (okar_cons rfl (okar_cons rfl (okar_cons rfl (okar_cons rfl okar_nil))))) rfl (fun Qr hQ => ?_)
  refine rw_blk lk_X10_costAnew_0 ?_
  refine rw_of (fun rr hrr => q_aload_n rfl (q_iload_n rfl (q_iload_n rfl (q_iload_n rfl (q_iload rfl hrr))))) ?_
  obtain ⟨_, mm1, pp2, hV3, rfl, rfl, hq3⟩ := c_X10_costR (S := S) (fz := fz) (m := m) (p := p) (d := d) (by omega) (s) (k) (n) (q) (r) (l) hP hk (by omega) (by omega) hm (by omega) (by omega) (by omega) (by omega) (by omega) (by omega) (by omega)
  refine rw_of (fun rr hrr => q_invV hV3 (show SH 261 = (18, 0) from rfl) rfl rfl (okar_cons rfl (okar_cons rfl (okar_cons rfl (okar_cons rfl okar_nil)))) (Nat.le_of_ble_eq_true rfl) hrr) ?_
  exact rw_ret hQ (q_ireturn (Or.inl rfl)) (by exact ⟨rfl, rfl, hq3⟩)
theorem c_X10_costAnewSR {d : Nat} {S : MC} {fz : Bool} {m : M1} {p : M2} (hd : 6 ≤ d) (s : Int) (k : Nat) (q r l : Int) (hP : PI p) (hk : m 261 0 = nF k) (hk12 : k ≤ 12) (hr : (-2147483648 ≤ s ∧ s < 2147483648)) (h : ¬ (0 ≤ s ∧ s < k)) (hrq : (-2147483648 ≤ q ∧ q < 2147483648)) (hrr : (-2147483648 ≤ r ∧ r < 2147483648)) (hrl : (-2147483648 ≤ l ∧ l < 2147483648)) (hq9 : 0 ≤ q ∧ q ≤ 10006) (hr9 : r < 0 ∨ 10006 < r) : Ct d k_X10_costAnew S fz [.ref (261), .int (iI (s)), .int (iI (q)), .int (iI (r)), .int (iI (l))] m p (fun v m' p' => v = some (.int (iI (0))) ∧ p = p' ∧ QMx 1 m m') := by
  obtain ⟨d, rfl⟩ : ∃ e, d = e + 1 := ⟨d - 1, by omega⟩
  refine ct_go (lv := [some (.ref (261)), some (.int (iI (s))), some (.int (iI (q))), some (.int (iI (r))), some (.int (iI (l)))]) (Nat.le_of_ble_eq_true rfl) (okar_cons rfl (okar_cons rfl (okar_cons rfl (okar_cons rfl (okar_cons rfl okar_nil))))) rfl (fun Qr hQ => ?_)
  refine rw_blk lk_X10_costAnew_0 ?_
  refine rw_of (fun rr hrr => q_aload_n rfl (q_iload_n rfl (q_iload_n rfl (q_iload_n rfl (q_iload rfl hrr))))) ?_
  obtain ⟨_, mm1, pp2, hV3, rfl, rfl, hq3⟩ := c_X10_costSR (S := S) (fz := fz) (m := m) (p := p) (d := d) (by omega) (s) (k) (q) (r) (l) hP hk (by omega) (by omega) (h) (by omega) (by omega) (by omega) (by omega) (by omega)
  refine rw_of (fun rr hrr => q_invV hV3 (show SH 261 = (18, 0) from rfl) rfl rfl (okar_cons rfl (okar_cons rfl (okar_cons rfl (okar_cons rfl okar_nil)))) (Nat.le_of_ble_eq_true rfl) hrr) ?_
  exact rw_ret hQ (q_ireturn (Or.inl rfl)) (by exact ⟨rfl, rfl, hq3⟩)
theorem c_X10_costAnewL {d : Nat} {S : MC} {fz : Bool} {m : M1} {p : M2} (hd : 6 ≤ d) (s k n : Nat) (q r l : Int) (hP : PI p) (hk : m 261 0 = nF k) (hk12 : k ≤ 12) (hsk : s < k) (hm : m 262 s = nF n) (hn0 : 1 ≤ n) (hn : n ≤ 8) (hrq : (-2147483648 ≤ q ∧ q < 2147483648)) (hrr : (-2147483648 ≤ r ∧ r < 2147483648)) (hrl : (-2147483648 ≤ l ∧ l < 2147483648)) (hq9 : 0 ≤ q ∧ q ≤ 10006) (hr9 : 0 ≤ r ∧ r ≤ 10006) (hl9 : l < 0 ∨ 20 < l) : Ct d k_X10_costAnew S fz [.ref (261), .int (iI (((s : Nat) : Int))), .int (iI (q)), .int (iI (r)), .int (iI (l))] m p (fun v m' p' => v = some (.int (iI (0))) ∧ p = p' ∧ QMx 2 m m') := by
  obtain ⟨d, rfl⟩ : ∃ e, d = e + 1 := ⟨d - 1, by omega⟩
  refine ct_go (lv := [some (.ref (261)), some (.int (iI (((s : Nat) : Int)))), some (.int (iI (q))), some (.int (iI (r))), some (.int (iI (l)))]) (Nat.le_of_ble_eq_true rfl) (okar_cons rfl (okar_cons rfl (okar_cons rfl (okar_cons rfl (okar_cons rfl okar_nil))))) rfl (fun Qr hQ => ?_)
  refine rw_blk lk_X10_costAnew_0 ?_
  refine rw_of (fun rr hrr => q_aload_n rfl (q_iload_n rfl (q_iload_n rfl (q_iload_n rfl (q_iload rfl hrr))))) ?_
  obtain ⟨_, mm1, pp2, hV3, rfl, rfl, hq3⟩ := c_X10_costL (S := S) (fz := fz) (m := m) (p := p) (d := d) (by omega) (s) (k) (n) (q) (r) (l) hP hk (by omega) (by omega) hm (by omega) (by omega) (by omega) (by omega) (by omega) (by omega) (by omega) (by omega)
  refine rw_of (fun rr hrr => q_invV hV3 (show SH 261 = (18, 0) from rfl) rfl rfl (okar_cons rfl (okar_cons rfl (okar_cons rfl (okar_cons rfl okar_nil)))) (Nat.le_of_ble_eq_true rfl) hrr) ?_
  exact rw_ret hQ (q_ireturn (Or.inl rfl)) (by exact ⟨rfl, rfl, hq3⟩)
theorem c_X10_costAnewSL {d : Nat} {S : MC} {fz : Bool} {m : M1} {p : M2} (hd : 6 ≤ d) (s : Int) (k : Nat) (q r l : Int) (hP : PI p) (hk : m 261 0 = nF k) (hk12 : k ≤ 12) (hr : (-2147483648 ≤ s ∧ s < 2147483648)) (h : ¬ (0 ≤ s ∧ s < k)) (hrq : (-2147483648 ≤ q ∧ q < 2147483648)) (hrr : (-2147483648 ≤ r ∧ r < 2147483648)) (hrl : (-2147483648 ≤ l ∧ l < 2147483648)) (hq9 : 0 ≤ q ∧ q ≤ 10006) (hr9 : 0 ≤ r ∧ r ≤ 10006) (hl9 : l < 0 ∨ 20 < l) : Ct d k_X10_costAnew S fz [.ref (261), .int (iI (s)), .int (iI (q)), .int (iI (r)), .int (iI (l))] m p (fun v m' p' => v = some (.int (iI (0))) ∧ p = p' ∧ QMx 1 m m') := by
  obtain ⟨d, rfl⟩ : ∃ e, d = e + 1 := ⟨d - 1, by omega⟩
  refine ct_go (lv := [some (.ref (261)), some (.int (iI (s))), some (.int (iI (q))), some (.int (iI (r))), some (.int (iI (l)))]) (Nat.le_of_ble_eq_true rfl) (okar_cons rfl (okar_cons rfl (okar_cons rfl (okar_cons rfl (okar_cons rfl okar_nil))))) rfl (fun Qr hQ => ?_)
  refine rw_blk lk_X10_costAnew_0 ?_
  refine rw_of (fun rr hrr => q_aload_n rfl (q_iload_n rfl (q_iload_n rfl (q_iload_n rfl (q_iload rfl hrr))))) ?_
  obtain ⟨_, mm1, pp2, hV3, rfl, rfl, hq3⟩ := c_X10_costSL (S := S) (fz := fz) (m := m) (p := p) (d := d) (by omega) (s) (k) (q) (r) (l) hP hk (by omega) (by omega) (h) (by omega) (by omega) (by omega) (by omega) (by omega) (by omega)
  refine rw_of (fun rr hrr => q_invV hV3 (show SH 261 = (18, 0) from rfl) rfl rfl (okar_cons rfl (okar_cons rfl (okar_cons rfl (okar_cons rfl okar_nil)))) (Nat.le_of_ble_eq_true rfl) hrr) ?_
  exact rw_ret hQ (q_ireturn (Or.inl rfl)) (by exact ⟨rfl, rfl, hq3⟩)
theorem c_X10_costAnewSY {d : Nat} {S : MC} {fz : Bool} {m : M1} {p : M2} (hd : 6 ≤ d) (s : Int) (k : Nat) (q r l : Int) (hP : PI p) (hk : m 261 0 = nF k) (hk12 : k ≤ 12) (hr : (-2147483648 ≤ s ∧ s < 2147483648)) (h : ¬ (0 ≤ s ∧ s < k)) (hrq : (-2147483648 ≤ q ∧ q < 2147483648)) (hrr : (-2147483648 ≤ r ∧ r < 2147483648)) (hrl : (-2147483648 ≤ l ∧ l < 2147483648)) (hq9 : 0 ≤ q ∧ q ≤ 10006) (hr9 : 0 ≤ r ∧ r ≤ 10006) (hl9 : 0 ≤ l ∧ l ≤ 20) : Ct d k_X10_costAnew S fz [.ref (261), .int (iI (s)), .int (iI (q)), .int (iI (r)), .int (iI (l))] m p (fun v m' p' => v = some (.int (iI (0))) ∧ p = p' ∧ QMx 1 m m') := by
  obtain ⟨d, rfl⟩ : ∃ e, d = e + 1 := ⟨d - 1, by omega⟩
  refine ct_go (lv := [some (.ref (261)), some (.int (iI (s))), some (.int (iI (q))), some (.int (iI (r))), some (.int (iI (l)))]) (Nat.le_of_ble_eq_true rfl) (okar_cons rfl (okar_cons rfl (okar_cons rfl (okar_cons rfl (okar_cons rfl okar_nil))))) rfl (fun Qr hQ => ?_)
  refine rw_blk lk_X10_costAnew_0 ?_
  refine rw_of (fun rr hrr => q_aload_n rfl (q_iload_n rfl (q_iload_n rfl (q_iload_n rfl (q_iload rfl hrr))))) ?_
  obtain ⟨_, mm1, pp2, hV3, rfl, rfl, hq3⟩ := c_X10_costSY (S := S) (fz := fz) (m := m) (p := p) (d := d) (by omega) (s) (k) (q) (r) (l) hP hk (by omega) (by omega) (h) (by omega) (by omega) (by omega) (by omega) (by omega) (by omega)
  refine rw_of (fun rr hrr => q_invV hV3 (show SH 261 = (18, 0) from rfl) rfl rfl (okar_cons rfl (okar_cons rfl (okar_cons rfl (okar_cons rfl okar_nil)))) (Nat.le_of_ble_eq_true rfl) hrr) ?_
  exact rw_ret hQ (q_ireturn (Or.inl rfl)) (by exact ⟨rfl, rfl, hq3⟩)
