/-- the step back in the model's words -/
def ms (n : Nat) (A : Nat → Nat → F) (b c : Nat → F) (q r : F) (P : Nat → Nat → F) (i j : Nat) : F := dot n (fun l => A l i) (fun l => rpa n P A l j) + rq q c i j - rap n P A b i * rap n P A b j * iv (rm n P b r)
def mc (n : Nat) (A : Nat → Nat → F) (b c : Nat → F) (q r : F) : Nat → Nat → Nat → F
  | 0 => rq q c
  | s + 1 => ms n A b c q r (mc n A b c q r s)
theorem rpa_congr {n : Nat} {P P' A : Nat → Nat → F} (h : ∀ i, i < n → ∀ j, j < n → P i j = P' i j) (i j : Nat) (hi : i < n) : rpa n P A i j = rpa n P' A i j := dot_congr (fun c hc => h i hi c hc) (fun _ _ => rfl)
theorem rap_congr {n : Nat} {P P' A : Nat → Nat → F} {b : Nat → F} (h : ∀ i, i < n → ∀ j, j < n → P i j = P' i j) (j : Nat) : rap n P A b j = rap n P' A b j := dot_congr (fun i hi => dot_congr (fun c hc => h i hi c hc) (fun _ _ => rfl)) (fun _ _ => rfl)
theorem rm_congr {n : Nat} {P P' : Nat → Nat → F} {b : Nat → F} {r : F} (h : ∀ i, i < n → ∀ j, j < n → P i j = P' i j) : rm n P b r = rm n P' b r := congrArg (fun z => r + z) (dot_congr (fun _ _ => rfl) (fun i hi => dot_congr (fun c hc => h i hi c hc) (fun _ _ => rfl)))
theorem ms_congr {n : Nat} {P P' A : Nat → Nat → F} {b c : Nat → F} {q r : F} (h : ∀ i, i < n → ∀ j, j < n → P i j = P' i j) (i j : Nat) : ms n A b c q r P i j = ms n A b c q r P' i j := by
  unfold ms
  rw [rap_congr h i, rap_congr h j, rm_congr h, dot_congr (fun _ _ => rfl) (fun l hl => rpa_congr h l j hl)]
theorem c_X10_goesBack1 {d : Nat} {S : MC} {fz : Bool} {m : M1} {p : M2} (hd : 4 ≤ d) (s n l : Nat) (q r : F) (hP : PI p) (hm : m 262 s = nF n) (hn0 : 1 ≤ n) (hn : n ≤ 8) (hs12 : s ≤ 12) (hl : l ≤ 20) (hr : ∀ z, z < l → rm n ((mc n (fun z w => m 263 (64 * s + 8 * z + w)) (fun z => m 264 (8 * s + z)) (fun z => m 265 (8 * s + z)) q r) z) (fun z => m 264 (8 * s + z)) r ≠ 0) : Ct d k_X10_goesBack S fz [.ref (261), .int (iI (((s : Nat) : Int))), .int (iI (vF (q))), .int (iI (vF (r))), .int (iI (((l : Nat) : Int)))] m p (fun v m' p' => v = some (.int (iI 1)) ∧ p = p' ∧ Fr (fun a_ => a_ = 269 ∨ a_ = 270 ∨ a_ = 274 ∨ a_ = 275) m m' ∧ ∀ i, i < n → ∀ j, j < n → m' 269 (8 * i + j) = (mc n (fun z w => m 263 (64 * s + 8 * z + w)) (fun z => m 264 (8 * s + z)) (fun z => m 265 (8 * s + z)) q r) l i j) := by
  obtain ⟨d, rfl⟩ : ∃ e, d = e + 1 := ⟨d - 1, by omega⟩
  refine ct_go (lv := [some (.ref (261)), some (.int (iI (((s : Nat) : Int)))), some (.int (iI (vF (q)))), some (.int (iI (vF (r)))), some (.int (iI (((l : Nat) : Int)))), none, none]) (Nat.le_of_ble_eq_true rfl) (okar_cons rfl (okar_cons rfl (okar_cons rfl (okar_cons rfl (okar_cons rfl okar_nil))))) rfl (fun Qr hQ => ?_)
  refine rw_blk lk_X10_goesBack_0 ?_
  refine rw_of (fun rr hrr => q_iconst (q_istore (Nat.le_of_ble_eq_true rfl) rfl hrr)) ?_
  have hL3 : ∀ i, i ≤ n → ∀ (m1 : M1) (x3_6 : Option Value), (Fr (fun a_ => a_ = 269) m m1 ∧ ∀ z, z < i → ∀ w, w < n → m1 269 (8 * z + w) = rq q (fun z => m 265 (8 * s + z)) z w) → Rw (Ev d) k_X10_goesBack (3, [], [some (.ref (261)), some (.int (iI (((s : Nat) : Int)))), some (.int (iI (vF (q)))), some (.int (iI (vF (r)))), some (.int (iI (((l : Nat) : Int)))), some (.int (iI (((i : Nat) : Int)))), x3_6], [], hpM S fz (m1, p), 0, 0) Qr := by
    refine loop_any (fun i hi3 ih3 => ?_)
    intro m1 x3_6
    intro hI3
    obtain ⟨hF1, h1⟩ := hI3
    refine rw_blk lk_X10_goesBack_3 ?_
    refine rw_of (fun rr hrr => q_iload rfl (q_aload_n rfl (q_getR (show SH 261 = (18, 0) from rfl) rfl (pt_261_1 hP) (q_iload_n rfl (q_iald (j := s) (show SH 262 = (1, 13) from rfl) rfl (by omega) (ki (hF1 262 (by show ¬ (262 = 269); omega)) hm (by omega)) hrr))))) ?_
    refine rw_icmp_ge ⟨by omega, by omega⟩ ⟨by omega, by omega⟩ (t := 63) rfl (fun hc1 => ?_) (fun hc1 => ?_)
    · skip
      refine rw_blk lk_X10_goesBack_63 ?_
      refine rw_of (fun rr hrr => q_iconst (q_istore (Nat.le_of_ble_eq_true rfl) rfl (q_iconst (q_istore (Nat.le_of_ble_eq_true rfl) rfl hrr)))) ?_
      have hL69 : ∀ k, k ≤ l → ∀ (m3 : M1), (Fr (fun a_ => a_ = 269 ∨ a_ = 270 ∨ a_ = 274 ∨ a_ = 275) m m3 ∧ ∀ z, z < n → ∀ w, w < n → m3 269 (8 * z + w) = (mc n (fun z w => m 263 (64 * s + 8 * z + w)) (fun z => m 264 (8 * s + z)) (fun z => m 265 (8 * s + z)) q r) k z w) → Rw (Ev d) k_X10_goesBack (69, [], [some (.ref (261)), some (.int (iI (((s : Nat) : Int)))), some (.int (iI (vF (q)))), some (.int (iI (vF (r)))), some (.int (iI (((l : Nat) : Int)))), some (.int (iI (1))), some (.int (iI (((k : Nat) : Int))))], [], hpM S fz (m3, p), 0, 0) Qr := by
        refine loop_any (fun k hi69 ih69 => ?_)
        intro m3
        intro hI69
        obtain ⟨hF, h3⟩ := hI69
        have e264 : m3 264 = m 264 := hF 264 (by omega)
        have e263 : m3 263 = m 263 := hF 263 (by omega)
        have e265 : m3 265 = m 265 := hF 265 (by omega)
        have hrm : rm n (fun z w => m3 269 (8 * z + w)) (fun z => m3 264 (8 * s + z)) r = rm n ((mc n (fun z w => m 263 (64 * s + 8 * z + w)) (fun z => m 264 (8 * s + z)) (fun z => m 265 (8 * s + z)) q r) k) (fun z => m 264 (8 * s + z)) r := by
          rw [e264]
          exact rm_congr h3
        refine rw_blk lk_X10_goesBack_69 ?_
        refine rw_of (fun rr hrr => q_iload rfl (q_iload rfl hrr)) ?_
        refine rw_icmp_ge ⟨by omega, by omega⟩ ⟨by omega, by omega⟩ (t := 96) rfl (fun hc2 => ?_) (fun hc2 => ?_)
        · skip
          refine rw_blk lk_X10_goesBack_96 ?_
          refine rw_of (fun rr hrr => q_iload rfl hrr) ?_
          refine rw_ret hQ (q_ireturn (by omega)) ?_
          have e9 : l = k := (by omega)
          subst e9
          exact ⟨rfl, rfl, hF, h3⟩
          
        · skip
          refine rw_of (fun rr hrr => q_iload rfl hrr) ?_
          refine rw_if_eq ⟨by omega, by omega⟩ (t := 96) rfl (fun hc3 => ?_) (fun hc3 => ?_)
          · exfalso; omega
          · skip
            refine rw_of (fun rr hrr => q_aload_n rfl (q_iload_n rfl (q_iload_n rfl (q_iload_n rfl hrr)))) ?_
            obtain ⟨_, mm4, pp5, hV6, rfl, rfl, hF6, hv6⟩ := c_X10_steps1 (S := S) (fz := fz) (m := m3) (p := p) (d := d) (by omega) (s) (n) (q) (r) hP ((congrFun (hF 262 (by show ¬ (262 = 269 ∨ 262 = 270 ∨ 262 = 274 ∨ 262 = 275); omega)) s).trans hm) (by omega) (by omega) (by omega) (by rw [hrm]; exact hr k (by omega))
            refine rw_of (fun rr hrr => q_invV hV6 (show SH 261 = (18, 0) from rfl) rfl rfl (okar_cons rfl (okar_cons rfl (okar_cons rfl okar_nil))) (Nat.le_of_ble_eq_true rfl) (q_istore (Nat.le_of_ble_eq_true rfl) rfl (q_iinc rfl rfl (q_goto (t := 69) rfl hrr)))) ?_
            have hA7 : Fr (fun a_ => a_ = 269 ∨ a_ = 270 ∨ a_ = 274 ∨ a_ = 275) m mm4 ∧ ∀ z, z < n → ∀ w, w < n → mm4 269 (8 * z + w) = (mc n (fun z w => m 263 (64 * s + 8 * z + w)) (fun z => m 264 (8 * s + z)) (fun z => m 265 (8 * s + z)) q r) (k + 1) z w := by
              refine ⟨Fr_trans hF hF6, fun z hz w hw => ?_⟩
              rw [hv6 z hz w hw, e263, e264, e265]
              have h9 := ms_congr (n := n) (A := (fun z w => m 263 (64 * s + 8 * z + w))) (b := (fun z => m 264 (8 * s + z))) (c := (fun z => m 265 (8 * s + z))) (q := q) (r := r) (P := fun z w => m3 269 (8 * z + w)) (P' := (mc n (fun z w => m 263 (64 * s + 8 * z + w)) (fun z => m 264 (8 * s + z)) (fun z => m 265 (8 * s + z)) q r) k) h3 z w
              unfold ms at h9
              exact h9
            exact rw_cast (ih69 (by omega) mm4 hA7) (lcons rfl (lcons rfl (lcons rfl (lcons rfl (lcons rfl (lcons rfl (lcons (lvI (by omega)) rfl))))))) rfl
      exact rw_cast (hL69 0 (by omega) m1 (by exact ⟨Fr_mono hF1 (fun a ha => by omega), fun z hz w hw => h1 z (by omega) w hw⟩)) (lcons rfl (lcons rfl (lcons rfl (lcons rfl (lcons rfl (lcons rfl (lcons (lvI (by omega)) rfl))))))) rfl
    · skip
      refine rw_of (fun rr hrr => q_iconst (q_istore (Nat.le_of_ble_eq_true rfl) rfl hrr)) ?_
      have hL17 : ∀ j, j ≤ n → ∀ (m2 : M1), (Fr (fun a_ => a_ = 269) m1 m2 ∧ (∀ w, w < j → m2 269 (8 * i + w) = rq q (fun z => m 265 (8 * s + z)) i w) ∧ ∀ z, z < 8 → z ≠ i → ∀ w, w < 8 → m2 269 (8 * z + w) = m1 269 (8 * z + w)) → Rw (Ev d) k_X10_goesBack (17, [], [some (.ref (261)), some (.int (iI (((s : Nat) : Int)))), some (.int (iI (vF (q)))), some (.int (iI (vF (r)))), some (.int (iI (((l : Nat) : Int)))), some (.int (iI (((i : Nat) : Int)))), some (.int (iI (((j : Nat) : Int))))], [], hpM S fz (m2, p), 0, 0) Qr := by
        refine loop_any (fun j hi17 ih17 => ?_)
        intro m2
        intro hI17
        obtain ⟨hF2, h2, h2'⟩ := hI17
        refine rw_blk lk_X10_goesBack_17 ?_
        refine rw_of (fun rr hrr => q_iload rfl (q_aload_n rfl (q_getR (show SH 261 = (18, 0) from rfl) rfl (pt_261_1 hP) (q_iload_n rfl (q_iald (j := s) (show SH 262 = (1, 13) from rfl) rfl (by omega) (ki ((hF2 262 (by show ¬ (262 = 269); omega)).trans (hF1 262 (by show ¬ (262 = 269); omega))) hm (by omega)) hrr))))) ?_
        refine rw_icmp_ge ⟨by omega, by omega⟩ ⟨by omega, by omega⟩ (t := 57) rfl (fun hc8 => ?_) (fun hc8 => ?_)
        · skip
          refine rw_blk lk_X10_goesBack_57 ?_
          refine rw_of (fun rr hrr => q_iinc rfl rfl (q_goto (t := 3) rfl hrr)) ?_
          have hA9 : Fr (fun a_ => a_ = 269) m m2 ∧ ∀ z, z < (i + 1) → ∀ w, w < n → m2 269 (8 * z + w) = rq q (fun z => m 265 (8 * s + z)) z w := by
            refine ⟨Fr_trans hF1 hF2, fun z hz w hw => ?_⟩
            by_cases e : z = i
            · rw [e]
              exact h2 w (by omega)
            · rw [h2' z (by omega) e w (by omega)]
              exact h1 z (by omega) w hw
          exact rw_cast (ih3 (by omega) m2 (some (.int (iI (((j : Nat) : Int))))) hA9) (lcons rfl (lcons rfl (lcons rfl (lcons rfl (lcons rfl (lcons (lvI (by omega)) (lcons rfl rfl))))))) rfl
        · skip
          refine rw_of (fun rr hrr => q_aload_n rfl (q_getR (show SH 261 = (18, 0) from rfl) rfl (pt_261_10 hP) (q_bipush rfl (q_iload rfl (q_imul (q_iload rfl (q_iadd (q_aload_n rfl (q_iload_n rfl (q_iload_n rfl (q_iload rfl (q_iload rfl hrr)))))))))))) ?_
          obtain ⟨_, mm10, pp11, hV12, rfl, rfl, rfl⟩ := c_X10_weight (S := S) (fz := fz) (m := m2) (p := p) (d := d) (by omega) (s) (i) (j) (q) hP (by omega) (by omega) (by omega)
          refine rw_of (fun rr hrr => q_invV hV12 (show SH 261 = (18, 0) from rfl) rfl rfl (okar_cons rfl (okar_cons rfl (okar_cons rfl (okar_cons rfl okar_nil)))) (Nat.le_of_ble_eq_true rfl) (q_iast (j := 8 * i + j) (xx := rq q (fun z => m2 265 (8 * s + z)) i j) (show SH 269 = (1, 64) from rfl) (by omega) (by omega) rfl hrr)) ?_
          generalize hm14 : w1 m2 269 (8 * i + j) (rq q (fun z => m2 265 (8 * s + z)) i j) = mm13
          refine rw_of (fun rr hrr => q_iinc rfl rfl (q_goto (t := 17) rfl hrr)) ?_
          have hA15 : Fr (fun a_ => a_ = 269) m1 mm13 ∧ (∀ w, w < (j + 1) → mm13 269 (8 * i + w) = rq q (fun z => m 265 (8 * s + z)) i w) ∧ ∀ z, z < 8 → z ≠ i → ∀ w, w < 8 → mm13 269 (8 * z + w) = m1 269 (8 * z + w) := by
            refine ⟨fr_w hm14 hF2 rfl, fun w hw => ?_, fun z hz hzi w hw => ?_⟩
            · rw [← hm14]
              by_cases e : w = j
              · rw [e, w1_at, hF2 265 (by omega), hF1 265 (by omega)]
              · rw [w1_ne (by omega)]
                exact h2 w (by omega)
            · rw [← hm14, w1_ne (by omega)]
              exact h2' z hz hzi w hw
          exact rw_cast (ih17 (by omega) mm13 hA15) (lcons rfl (lcons rfl (lcons rfl (lcons rfl (lcons rfl (lcons rfl (lcons (lvI (by omega)) rfl))))))) rfl
      exact rw_cast (hL17 0 (by omega) m1 (by exact ⟨Fr_rfl, fun w hw => absurd hw (Nat.not_lt_zero w), fun _ _ _ _ _ => rfl⟩)) (lcons rfl (lcons rfl (lcons rfl (lcons rfl (lcons rfl (lcons rfl (lcons (lvI (by omega)) rfl))))))) rfl
  exact rw_cast (hL3 0 (by omega) m none (by exact ⟨Fr_rfl, fun z hz => absurd hz (Nat.not_lt_zero z)⟩)) (lcons rfl (lcons rfl (lcons rfl (lcons rfl (lcons rfl (lcons (lvI (by omega)) (lcons rfl rfl))))))) rfl
