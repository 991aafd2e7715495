theorem mdv_hi {h l : Nat} {g f : Nat → F} (hl : l ≤ h) (t : Nat) : ∀ k, h < k → mdv h l g f t k = f k := by
  induction t with
  | zero => exact fun k _ => rfl
  | succ t ih =>
    intro k hk
    rw [mdv_s, if_neg (fun z => by omega)]
    exact ih k hk
theorem dg_skip {r : Nat → F} {a : Nat} (t : Nat) : (∀ k, a ≤ k → k < a + t → r k = 0) → dg r (a + t) = dg r a := by
  induction t with
  | zero => exact fun _ => rfl
  | succ t ih =>
    intro h
    rw [show a + (t + 1) = (a + t) + 1 from rfl, dg_z (h (a + t) (by omega) (by omega))]
    exact ih (fun k h1 h2 => h k h1 (by omega))
/-- Euclid on the way: the divisor in 279, the numerator in 277 -/
def LI (E t : Nat) (m1 : M1) : Prop := dg (m1 277) 9 ≤ 8 - t ∧ dg (m1 277) 9 < dg (m1 279) 9 ∧ ecd (8 - t) (m1 279) (m1 277) (dg (m1 279) 9 - 1) (dg (m1 277) 9) = E
theorem LI_end {E t : Nat} {m1 : M1} (h : LI E t m1) (h0 : dg (m1 277) 9 = 0) : E = dg (m1 279) 9 - 1 := by
  obtain ⟨_, _, h3⟩ := h
  rw [h0] at h3
  rw [← h3]
  cases 8 - t with
  | zero => rfl
  | succ t => exact if_pos rfl
theorem LI_0 {n : Nat} {P N : Nat → F} {m1 : M1} (hn : n ≤ 8) (hP : P n ≠ 0) (h9 : ∀ k, k < 9 → m1 279 k = ctr (n + 1) P k) (h7 : ∀ k, k < 9 → m1 277 k = ctr n N k) : LI (ecd 8 P N n (dg N n)) 0 m1 := by
  have hle := dg_le (f := N) n
  have e7 : dg (m1 277) 9 = dg N n := by
    rw [show 9 = n + (9 - n) by omega, dg_skip (9 - n) (fun k h1 h2 => by rw [h7 k (by omega)]; exact if_neg (by omega))]
    exact dg_congr (fun i hi => (h7 i (by omega)).trans (if_pos hi))
  have e9 : dg (m1 279) 9 = n + 1 := by
    rw [show 9 = (n + 1) + (8 - n) by omega, dg_skip (8 - n) (fun k h1 h2 => by rw [h9 k (by omega)]; exact if_neg (by omega))]
    refine dg_n (fun z => hP ?_)
    rw [h9 n (by omega)] at z
    exact ((if_pos (by omega)).symm : P n = ctr (n + 1) P n).trans z
  refine ⟨by omega, by omega, ?_⟩
  rw [e7, e9]
  exact ecd_congr 8 _ _ _ _ _ _ hle (fun k hk => (h9 k (by omega)).trans (if_pos (by omega))) (fun k hk => (h7 k (by omega)).trans (if_pos (by omega)))
theorem LI_step {E t l : Nat} {m1 m2 m3 : M1} (h : LI E t m1) (ht : t < 8) (hl : dg (m1 277) 9 = l + 1) (hv : ∀ k, m2 279 k = mdv (dg (m1 279) 9 - 1) l (m1 277) (m1 279) (dg (m1 279) 9 - l) k) (hF : m2 277 = m1 277) (h9 : ∀ k, k < 9 → m3 279 k = m2 277 k) (h7 : ∀ k, k < 9 → m3 277 k = m2 279 k) : LI E (t + 1) m3 := by
  obtain ⟨h1, h2, h3⟩ := h
  have hg : m1 277 l ≠ 0 := by
    have := dg_p (f := m1 277) 9 (by omega)
    rw [hl] at this
    exact this
  have hb := dg_le (f := m1 279) 9
  generalize hh : dg (m1 279) 9 - 1 = hd at *
  have hdl : dg (m1 279) 9 - l = hd - l + 1 := by omega
  rw [hdl] at hv
  obtain ⟨_, _, _, hz⟩ := mdv_div (h := hd) (f := m1 279) (by omega) hg (hd - l + 1) (Nat.le_refl _)
  have hhi := mdv_hi (h := hd) (l := l) (g := m1 277) (f := m1 279) (by omega) (hd - l + 1)
  have h0 : ∀ k, l ≤ k → k < 9 → mdv hd l (m1 277) (m1 279) (hd - l + 1) k = 0 := fun k k1 k2 => by
    by_cases c : k ≤ hd
    · exact hz k (by omega) c
    · rw [hhi k (by omega)]
      exact dg_a (f := m1 279) 9 k (by omega) k2
  have e7 : dg (m3 277) 9 = dg (mdv hd l (m1 277) (m1 279) (hd - l + 1)) l := by
    rw [dg_congr (fun i hi => (h7 i hi).trans (hv i)), show 9 = l + (9 - l) by omega, dg_skip (9 - l) (fun k k1 k2 => h0 k k1 (by omega))]
  have e9 : dg (m3 279) 9 = l + 1 := by rw [dg_congr h9, hF, hl]
  have hle := dg_le (f := mdv hd l (m1 277) (m1 279) (hd - l + 1)) l
  refine ⟨by omega, by omega, ?_⟩
  rw [← h3, e7, e9, hl, show 8 - t = 8 - (t + 1) + 1 by omega]
  show _ = if l + 1 = 0 then hd else ecd (8 - (t + 1)) (m1 277) (mdv hd (l + 1 - 1) (m1 277) (m1 279) (hd - (l + 1 - 1) + 1)) (l + 1 - 1) (dg (mdv hd (l + 1 - 1) (m1 277) (m1 279) (hd - (l + 1 - 1) + 1)) (l + 1 - 1))
  rw [if_neg (by omega), show l + 1 - 1 = l from rfl]
  exact ecd_congr _ _ _ _ _ _ _ hle (fun k hk => (h9 k (by omega)).trans (congrFun hF k)) (fun k hk => (h7 k (by omega)).trans (hv k))
theorem c_X10_least1 {d : Nat} {S : MC} {fz : Bool} {m : M1} {p : M2} (hd : 4 ≤ d) (s k n : Nat) (hP : PI p) (hk : m 261 0 = nF k) (hk12 : k ≤ 12) (hsk : s < k) (hm : m 262 s = nF n) (hn0 : 1 ≤ n) (hn : n ≤ 8) : Ct d k_X10_least S fz [.ref (261), .int (iI (((s : Nat) : Int)))] m p (fun v m' p' => v = some (.int (iI (((n : Nat) : Int) - (((ecd 8 (pbl n (fun z w => m 263 (64 * s + 8 * z + w))) (pab n (fun z w => m 263 (64 * s + 8 * z + w)) (fun z => m 264 (8 * s + z)) (fun z => m 265 (8 * s + z))) n (dg (pab n (fun z w => m 263 (64 * s + 8 * z + w)) (fun z => m 264 (8 * s + z)) (fun z => m 265 (8 * s + z))) n)) : Nat) : Int)))) ∧ p = p' ∧ QMx 0 m m') := by
  obtain ⟨d, rfl⟩ : ∃ e, d = e + 1 := ⟨d - 1, by omega⟩
  refine ct_go (lv := [some (.ref (261)), some (.int (iI (((s : Nat) : Int)))), none, none, none]) (Nat.le_of_ble_eq_true rfl) (okar_cons rfl (okar_cons rfl okar_nil)) rfl (fun Qr hQ => ?_)
  refine rw_blk lk_X10_least_0 ?_
  refine rw_of (fun rr hrr => q_aload_n rfl (q_aload_n rfl (q_iload_n rfl hrr))) ?_
  obtain ⟨_, mm1, pp2, hV3, rfl, rfl, rfl⟩ := c_X10_isSystem1 (S := S) (fz := fz) (m := m) (p := p) (d := d) (by omega) (((s : Nat) : Int)) (k) hP hk (by omega) (by omega) (by omega)
  refine rw_of (fun rr hrr => q_invV hV3 (show SH 261 = (18, 0) from rfl) rfl rfl (okar_cons rfl okar_nil) (Nat.le_of_ble_eq_true rfl) hrr) ?_
  refine rw_if_eq ⟨by omega, by omega⟩ (t := 13) rfl (fun hc4 => ?_) (fun hc4 => ?_)
  · exfalso; omega
  · skip
    refine rw_of (fun rr hrr => q_iconst (q_goto (t := 14) rfl hrr)) ?_
    refine rw_blk lk_X10_least_14 ?_
    obtain ⟨_, mm5, pp6, hV7, rfl, rfl, hw7, hF7⟩ := c_X10_fails0 (S := S) (fz := fz) (m := m) (p := p) (d := d) (by omega) hP
    refine rw_of (fun rr hrr => q_invV hV7 (show SH 261 = (18, 0) from rfl) rfl rfl (okar_cons rfl okar_nil) (Nat.le_of_ble_eq_true rfl) hrr) ?_
    refine rw_if_eq ⟨by omega, by omega⟩ (t := 22) rfl (fun hc8 => ?_) (fun hc8 => ?_)
    · skip
      refine rw_blk lk_X10_least_22 ?_
      refine rw_of (fun rr hrr => q_aload_n rfl (q_iload_n rfl hrr)) ?_
      obtain ⟨_, mm9, pp10, hV11, rfl, rfl, hF11, hB11, hA11⟩ := c_X10_finds (S := S) (fz := fz) (m := mm5) (p := p) (d := d) (by omega) (s) (n) hP ((congrFun (kw hw7 (by omega)) s).trans hm) (by omega) (by omega) (by omega)
      refine rw_of (fun rr hrr => q_invV hV11 (show SH 261 = (18, 0) from rfl) rfl rfl (okar_cons rfl okar_nil) (Nat.le_of_ble_eq_true rfl) (q_aload_n rfl (q_getR (show SH 261 = (18, 0) from rfl) rfl (pt_261_1 hP) (q_iload_n rfl (q_iald (j := s) (show SH 262 = (1, 13) from rfl) rfl (by omega) (ki ((hF11 262 (by show ¬ (262 = 269 ∨ 262 = 270 ∨ 262 = 276 ∨ 262 = 277); omega)).trans (kw hw7 (by omega))) hm (by omega)) (q_istore_n (Nat.le_of_ble_eq_true rfl) rfl (q_aload_n rfl (q_getR (show SH 261 = (18, 0) from rfl) rfl (pt_261_18 hP) hrr)))))))) ?_
      have hd0 := dg_le (f := mm9 277) 9
      have hP1 : (pbl n (fun z w => m 263 (64 * s + 8 * z + w))) n ≠ 0 := by rw [pbl_1]; decide
      have hB0 : ∀ k, k < 9 → mm9 276 k = ctr (n + 1) (pbl n (fun z w => m 263 (64 * s + 8 * z + w))) k := fun k hk => by
        rw [hB11 k hk, hF7 263 (by omega)]
      have hA0 : ∀ k, k < 9 → mm9 277 k = ctr n (pab n (fun z w => m 263 (64 * s + 8 * z + w)) (fun z => m 264 (8 * s + z)) (fun z => m 265 (8 * s + z))) k := fun k hk => by
        rw [hA11 k hk, hF7 263 (by omega), hF7 264 (by omega), hF7 265 (by omega)]
      obtain ⟨_, mm12, pp13, hV14, rfl, rfl, rfl⟩ := c_X10_power (S := S) (fz := fz) (m := mm9) (p := p) (d := d) (by omega) (277) ((show SH 277 = (1, 9) from rfl))
      refine rw_of (fun rr hrr => q_invS hV14 rfl rfl (okar_cons rfl okar_nil) (Nat.le_of_ble_eq_true rfl) hrr) ?_
      refine rw_if_ge ⟨by omega, by omega⟩ (t := 46) rfl (fun hc15 => ?_) (fun hc15 => ?_)
      · skip
        refine rw_blk lk_X10_least_46 ?_
        refine rw_of (fun rr hrr => q_iconst (q_istore_n (Nat.le_of_ble_eq_true rfl) rfl hrr)) ?_
        have hL48 : ∀ i, i ≤ 9 → ∀ (m6 : M1), (Fr (fun a_ => a_ = 279) mm9 m6 ∧ ∀ z, m6 279 z = if z < i then mm9 276 z else mm9 279 z) → Rw (Ev d) k_X10_least (48, [], [some (.ref (261)), some (.int (iI (((s : Nat) : Int)))), some (.int (iI (((n : Nat) : Int)))), some (.int (iI (((i : Nat) : Int)))), none], [], hpM S fz (m6, p), 0, 0) Qr := by
          refine loop_any (fun i hi48 ih48 => ?_)
          intro m6
          intro hI48
          obtain ⟨hF6, h6⟩ := hI48
          refine rw_blk lk_X10_least_48 ?_
          refine rw_of (fun rr hrr => q_iload_n rfl (q_bipush rfl hrr)) ?_
          refine rw_icmp_gt ⟨by omega, by omega⟩ ⟨by omega, by omega⟩ (t := 72) rfl (fun hc16 => ?_) (fun hc16 => ?_)
          · skip
            have hL72 : ∀ t, t ≤ 8 → ∀ (m1 : M1) (x72_3 : Option Value) (x72_4 : Option Value), (Fr (fun a_ => a_ = 277 ∨ a_ = 279) mm9 m1 ∧ LI (ecd 8 (pbl n (fun z w => m 263 (64 * s + 8 * z + w))) (pab n (fun z w => m 263 (64 * s + 8 * z + w)) (fun z => m 264 (8 * s + z)) (fun z => m 265 (8 * s + z))) n (dg (pab n (fun z w => m 263 (64 * s + 8 * z + w)) (fun z => m 264 (8 * s + z)) (fun z => m 265 (8 * s + z))) n)) t m1) → Rw (Ev d) k_X10_least (72, [], [some (.ref (261)), some (.int (iI (((s : Nat) : Int)))), some (.int (iI (((n : Nat) : Int)))), x72_3, x72_4], [], hpM S fz (m1, p), 0, 0) Qr := by
              refine loop_any (fun t hi72 ih72 => ?_)
              intro m1 x72_3 x72_4
              intro hI72
              obtain ⟨hF1, hL⟩ := hI72
              have hd7 := dg_le (f := m1 277) 9
              have hd9 := dg_le (f := m1 279) 9
              have hL1 := hL.1
              have hL2 := hL.2.1
              refine rw_blk lk_X10_least_72 ?_
              refine rw_of (fun rr hrr => q_aload_n rfl (q_getR (show SH 261 = (18, 0) from rfl) rfl (pt_261_18 hP) hrr)) ?_
              obtain ⟨_, mm17, pp18, hV19, rfl, rfl, rfl⟩ := c_X10_power (S := S) (fz := fz) (m := m1) (p := p) (d := d) (by omega) (277) ((show SH 277 = (1, 9) from rfl))
              refine rw_of (fun rr hrr => q_invS hV19 rfl rfl (okar_cons rfl okar_nil) (Nat.le_of_ble_eq_true rfl) hrr) ?_
              refine rw_if_lt ⟨by omega, by omega⟩ (t := 138) rfl (fun hc20 => ?_) (fun hc20 => ?_)
              · skip
                refine rw_blk lk_X10_least_138 ?_
                refine rw_of (fun rr hrr => q_iload_n rfl (q_aload_n rfl (q_getR (show SH 261 = (18, 0) from rfl) rfl (pt_261_20 hP) hrr))) ?_
                obtain ⟨_, mm21, pp22, hV23, rfl, rfl, rfl⟩ := c_X10_power (S := S) (fz := fz) (m := m1) (p := p) (d := d) (by omega) (279) ((show SH 279 = (1, 9) from rfl))
                refine rw_of (fun rr hrr => q_invS hV23 rfl rfl (okar_cons rfl okar_nil) (Nat.le_of_ble_eq_true rfl) (q_isub hrr)) ?_
                refine rw_ret hQ (q_ireturn (Or.inl rfl)) ?_
                
                have hE := LI_end hL (by omega)
                exact ⟨lvI (by omega), rfl, QMx_fr (QMx_w hw7 rfl) (Fr_trans (Fr_mono hF11 (fun a ha => by omega)) (Fr_mono hF1 (fun a ha => by omega))) (fun a (ha : 269 ≤ a ∧ a < 280) => ha)⟩
                
              · skip
                refine rw_of (fun rr hrr => q_aload_n rfl (q_getR (show SH 261 = (18, 0) from rfl) rfl (pt_261_20 hP) (q_aload_n rfl (q_getR (show SH 261 = (18, 0) from rfl) rfl (pt_261_18 hP) hrr)))) ?_
                obtain ⟨_, mm24, pp25, hV26, rfl, rfl, hF26, hv26⟩ := c_X10_divides (S := S) (fz := fz) (m := m1) (p := p) (d := d) (by omega) (279) (277) (dg (m1 277) 9 - 1) ((show SH 279 = (1, 9) from rfl)) ((show SH 277 = (1, 9) from rfl)) (by omega) (by omega)
                refine rw_of (fun rr hrr => q_invS hV26 rfl rfl (okar_cons rfl (okar_cons rfl okar_nil)) (Nat.le_of_ble_eq_true rfl) (q_iconst (q_istore_n (Nat.le_of_ble_eq_true rfl) rfl hrr))) ?_
                have hL95 : ∀ i, i ≤ 9 → ∀ (m2 : M1) (x95_4 : Option Value), (Fr (fun a_ => a_ = 277 ∨ a_ = 279) mm24 m2 ∧ (∀ z, m2 279 z = if z < i then mm24 277 z else mm24 279 z) ∧ ∀ z, m2 277 z = if z < i then mm24 279 z else mm24 277 z) → Rw (Ev d) k_X10_least (95, [], [some (.ref (261)), some (.int (iI (((s : Nat) : Int)))), some (.int (iI (((n : Nat) : Int)))), some (.int (iI (((i : Nat) : Int)))), x95_4], [], hpM S fz (m2, p), 0, 0) Qr := by
                  refine loop_any (fun i hi95 ih95 => ?_)
                  intro m2 x95_4
                  intro hI95
                  obtain ⟨hF2, h29, h27⟩ := hI95
                  refine rw_blk lk_X10_least_95 ?_
                  refine rw_of (fun rr hrr => q_iload_n rfl (q_bipush rfl hrr)) ?_
                  refine rw_icmp_gt ⟨by omega, by omega⟩ ⟨by omega, by omega⟩ (t := 135) rfl (fun hc27 => ?_) (fun hc27 => ?_)
                  · skip
                    refine rw_blk lk_X10_least_135 ?_
                    refine rw_of (fun rr hrr => q_goto (t := 72) rfl hrr) ?_
                    exact rw_cast (ih72 (by omega) m2 (some (.int (iI (((i : Nat) : Int))))) x95_4 (by exact ⟨Fr_trans hF1 (Fr_trans (Fr_mono hF26 (fun a ha => by omega)) hF2), LI_step (l := dg (m1 277) 9 - 1) hL (by omega) (by omega) hv26 (hF26 277 (by omega)) (fun k hk => (h29 k).trans (if_pos (by omega))) (fun k hk => (h27 k).trans (if_pos (by omega)))⟩)) rfl rfl
                  · skip
                    refine rw_of (fun rr hrr => q_aload_n rfl (q_getR (show SH 261 = (18, 0) from rfl) rfl (pt_261_20 hP) (q_iload_n rfl (q_iald (j := i) (show SH 279 = (1, 9) from rfl) rfl (by omega) rfl (q_istore (Nat.le_of_ble_eq_true rfl) rfl (q_aload_n rfl (q_getR (show SH 261 = (18, 0) from rfl) rfl (pt_261_20 hP) (q_iload_n rfl (q_aload_n rfl (q_getR (show SH 261 = (18, 0) from rfl) rfl (pt_261_18 hP) (q_iload_n rfl (q_iald (j := i) (show SH 277 = (1, 9) from rfl) rfl (by omega) rfl (q_iast (j := i) (xx := m2 277 i) (show SH 279 = (1, 9) from rfl) rfl (by omega) rfl hrr))))))))))))) ?_
                    generalize hm29 : w1 m2 279 i (m2 277 i) = mm28
                    refine rw_of (fun rr hrr => q_aload_n rfl (q_getR (show SH 261 = (18, 0) from rfl) rfl (pt_261_18 hP) (q_iload_n rfl (q_iload rfl (q_iast (j := i) (xx := m2 279 i) (show SH 277 = (1, 9) from rfl) rfl (by omega) rfl hrr))))) ?_
                    generalize hm31 : w1 mm28 277 i (m2 279 i) = mm30
                    refine rw_of (fun rr hrr => q_iinc rfl rfl (q_goto (t := 95) rfl hrr)) ?_
                    have hA32 : Fr (fun a_ => a_ = 277 ∨ a_ = 279) mm24 mm30 ∧ (∀ z, mm30 279 z = if z < (i + 1) then mm24 277 z else mm24 279 z) ∧ ∀ z, mm30 277 z = if z < (i + 1) then mm24 279 z else mm24 277 z := by
                      refine ⟨fr_w hm31 (fr_w hm29 hF2 (by omega)) (by omega), fun z => ?_, ?_⟩
                      · rw [← hm31, w1_a (by omega)]
                        exact fill_w (f := fun z => mm24 277 z) hm29 h29 (by rw [h27, if_neg (by omega)]) z
                      · exact fill_w (f := fun z => mm24 279 z) hm31 (fun z => by rw [← hm29, w1_a (by omega)]; exact h27 z) (by rw [h29, if_neg (by omega)])
                    exact rw_cast (ih95 (by omega) mm30 (some (.int (iI (vF (m2 279 i))))) hA32) (lcons rfl (lcons rfl (lcons rfl (lcons (lvI (by omega)) (lcons rfl rfl))))) rfl
                exact rw_cast (hL95 0 (by omega) mm24 x72_4 (by exact ⟨Fr_rfl, fun z => (if_neg (Nat.not_lt_zero z)).symm, fun z => (if_neg (Nat.not_lt_zero z)).symm⟩)) (lcons rfl (lcons rfl (lcons rfl (lcons (lvI (by omega)) (lcons rfl rfl))))) rfl
            exact rw_cast (hL72 0 (by omega) m6 (some (.int (iI (((i : Nat) : Int))))) none (by exact ⟨Fr_mono hF6 (fun a ha => by omega), LI_0 hn hP1 (fun k hk => by rw [h6, if_pos (by omega)]; exact hB0 k hk) (fun k hk => by rw [hF6 277 (by omega)]; exact hA0 k hk)⟩)) rfl rfl
          · skip
            refine rw_of (fun rr hrr => q_aload_n rfl (q_getR (show SH 261 = (18, 0) from rfl) rfl (pt_261_20 hP) (q_iload_n rfl (q_aload_n rfl (q_getR (show SH 261 = (18, 0) from rfl) rfl (pt_261_17 hP) (q_iload_n rfl (q_iald (j := i) (show SH 276 = (1, 9) from rfl) rfl (by omega) rfl (q_iast (j := i) (xx := m6 276 i) (show SH 279 = (1, 9) from rfl) rfl (by omega) rfl hrr)))))))) ?_
            generalize hm34 : w1 m6 279 i (m6 276 i) = mm33
            refine rw_of (fun rr hrr => q_iinc rfl rfl (q_goto (t := 48) rfl hrr)) ?_
            exact rw_cast (ih48 (by omega) mm33 (by exact ⟨fr_w hm34 hF6 rfl, fill_w (f := fun z => mm9 276 z) hm34 h6 (by rw [hF6 276 (by omega)])⟩)) (lcons rfl (lcons rfl (lcons rfl (lcons (lvI (by omega)) (lcons rfl rfl))))) rfl
        exact rw_cast (hL48 0 (by omega) mm9 (by exact ⟨Fr_rfl, fun z => (if_neg (Nat.not_lt_zero z)).symm⟩)) (lcons rfl (lcons rfl (lcons rfl (lcons (lvI (by omega)) (lcons rfl rfl))))) rfl
      · skip
        refine rw_of (fun rr hrr => q_iconst hrr) ?_
        refine rw_ret hQ (q_ireturn (Or.inl rfl)) ?_
        
        have e7 : dg (pab n (fun z w => m 263 (64 * s + 8 * z + w)) (fun z => m 264 (8 * s + z)) (fun z => m 265 (8 * s + z))) n = 0 := by
          have h9 := (LI_0 (m1 := fun a => if a = 279 then mm9 276 else mm9 277) hn hP1 (fun k hk => hB0 k hk) (fun k hk => hA0 k hk))
          have h8 : dg (mm9 277) 9 = dg (pab n (fun z w => m 263 (64 * s + 8 * z + w)) (fun z => m 264 (8 * s + z)) (fun z => m 265 (8 * s + z))) n := by
            rw [show 9 = n + (9 - n) by omega, dg_skip (9 - n) (fun k h1 h2 => by rw [hA0 k (by omega)]; exact if_neg (by omega))]
            exact dg_congr (fun i hi => (hA0 i (by omega)).trans (if_pos hi))
          omega
        refine ⟨lvI ?_, rfl, QMx_fr (QMx_w hw7 rfl) hF11 (fun a ha => by omega)⟩
        rw [e7]
        show (0 : Int) = (n : Int) - (n : Int)
        omega
        
    · exfalso; omega
theorem c_X10_leastS {d : Nat} {S : MC} {fz : Bool} {m : M1} {p : M2} (hd : 4 ≤ d) (s : Int) (k : Nat) (hP : PI p) (hk : m 261 0 = nF k) (hk12 : k ≤ 12) (hr : (-2147483648 ≤ s ∧ s < 2147483648)) (h : ¬ (0 ≤ s ∧ s < k)) : Ct d k_X10_least S fz [.ref (261), .int (iI (s))] m p (fun v m' p' => v = some (.int (iI (0))) ∧ p = p' ∧ QMx 1 m m') := by
  obtain ⟨d, rfl⟩ : ∃ e, d = e + 1 := ⟨d - 1, by omega⟩
  refine ct_go (lv := [some (.ref (261)), some (.int (iI (s))), none, none, none]) (Nat.le_of_ble_eq_true rfl) (okar_cons rfl (okar_cons rfl okar_nil)) rfl (fun Qr hQ => ?_)
  refine rw_blk lk_X10_least_0 ?_
  refine rw_of (fun rr hrr => q_aload_n rfl (q_aload_n rfl (q_iload_n rfl hrr))) ?_
  obtain ⟨_, mm1, pp2, hV3, rfl, rfl, rfl⟩ := c_X10_isSystem0 (S := S) (fz := fz) (m := m) (p := p) (d := d) (by omega) (s) (k) hP hk (by omega) (by omega) (by omega)
  refine rw_of (fun rr hrr => q_invV hV3 (show SH 261 = (18, 0) from rfl) rfl rfl (okar_cons rfl okar_nil) (Nat.le_of_ble_eq_true rfl) hrr) ?_
  refine rw_if_eq ⟨by omega, by omega⟩ (t := 13) rfl (fun hc4 => ?_) (fun hc4 => ?_)
  · skip
    refine rw_blk lk_X10_least_13 ?_
    refine rw_of (fun rr hrr => q_iconst hrr) ?_
    refine rw_blk lk_X10_least_14 ?_
    obtain ⟨_, mm5, pp6, hV7, rfl, rfl, hw7, hF7⟩ := c_X10_fails1 (S := S) (fz := fz) (m := m) (p := p) (d := d) (by omega) (1) hP (by omega)
    refine rw_of (fun rr hrr => q_invV hV7 (show SH 261 = (18, 0) from rfl) rfl rfl (okar_cons rfl okar_nil) (Nat.le_of_ble_eq_true rfl) hrr) ?_
    refine rw_if_eq ⟨by omega, by omega⟩ (t := 22) rfl (fun hc8 => ?_) (fun hc8 => ?_)
    · exfalso; omega
    · skip
      refine rw_of (fun rr hrr => q_iconst hrr) ?_
      refine rw_ret hQ (q_ireturn (Or.inl rfl)) ?_
      first
        | exact ⟨rfl, rfl, QMx_w hw7 rfl⟩
        | (exfalso; omega)
      
  · exfalso; omega
theorem c_X10_leastAnew1 {d : Nat} {S : MC} {fz : Bool} {m : M1} {p : M2} (hd : 5 ≤ d) (s k n : Nat) (hP : PI p) (hk : m 261 0 = nF k) (hk12 : k ≤ 12) (hsk : s < k) (hm : m 262 s = nF n) (hn0 : 1 ≤ n) (hn : n ≤ 8) : Ct d k_X10_leastAnew S fz [.ref (261), .int (iI (((s : Nat) : Int)))] m p (fun v m' p' => v = some (.int (iI (((n : Nat) : Int) - (((ecd 8 (pbl n (fun z w => m 263 (64 * s + 8 * z + w))) (pab n (fun z w => m 263 (64 * s + 8 * z + w)) (fun z => m 264 (8 * s + z)) (fun z => m 265 (8 * s + z))) n (dg (pab n (fun z w => m 263 (64 * s + 8 * z + w)) (fun z => m 264 (8 * s + z)) (fun z => m 265 (8 * s + z))) n)) : Nat) : Int)))) ∧ p = p' ∧ QMx 0 m m') := by
  obtain ⟨d, rfl⟩ : ∃ e, d = e + 1 := ⟨d - 1, by omega⟩
  refine ct_go (lv := [some (.ref (261)), some (.int (iI (((s : Nat) : Int))))]) (Nat.le_of_ble_eq_true rfl) (okar_cons rfl (okar_cons rfl okar_nil)) rfl (fun Qr hQ => ?_)
  refine rw_blk lk_X10_leastAnew_0 ?_
  refine rw_of (fun rr hrr => q_aload_n rfl (q_iload_n rfl hrr)) ?_
  obtain ⟨_, mm1, pp2, hV3, rfl, rfl, hq3⟩ := c_X10_least1 (S := S) (fz := fz) (m := m) (p := p) (d := d) (by omega) (s) (k) (n) hP hk (by omega) (by omega) hm (by omega) (by omega)
  refine rw_of (fun rr hrr => q_invV hV3 (show SH 261 = (18, 0) from rfl) rfl rfl (okar_cons rfl okar_nil) (Nat.le_of_ble_eq_true rfl) hrr) ?_
  exact rw_ret hQ (q_ireturn (Or.inl rfl)) (by exact ⟨rfl, rfl, hq3⟩)
theorem c_X10_leastAnewS {d : Nat} {S : MC} {fz : Bool} {m : M1} {p : M2} (hd : 5 ≤ d) (s : Int) (k : Nat) (hP : PI p) (hk : m 261 0 = nF k) (hk12 : k ≤ 12) (hr : (-2147483648 ≤ s ∧ s < 2147483648)) (h : ¬ (0 ≤ s ∧ s < k)) : Ct d k_X10_leastAnew S fz [.ref (261), .int (iI (s))] m p (fun v m' p' => v = some (.int (iI (0))) ∧ p = p' ∧ QMx 1 m m') := by
  obtain ⟨d, rfl⟩ : ∃ e, d = e + 1 := ⟨d - 1, by omega⟩
  refine ct_go (lv := [some (.ref (261)), some (.int (iI (s)))]) (Nat.le_of_ble_eq_true rfl) (okar_cons rfl (okar_cons rfl okar_nil)) rfl (fun Qr hQ => ?_)
  refine rw_blk lk_X10_leastAnew_0 ?_
  refine rw_of (fun rr hrr => q_aload_n rfl (q_iload_n rfl hrr)) ?_
  obtain ⟨_, mm1, pp2, hV3, rfl, rfl, hq3⟩ := c_X10_leastS (S := S) (fz := fz) (m := m) (p := p) (d := d) (by omega) (s) (k) hP hk (by omega) (by omega) (h)
  refine rw_of (fun rr hrr => q_invV hV3 (show SH 261 = (18, 0) from rfl) rfl rfl (okar_cons rfl okar_nil) (Nat.le_of_ble_eq_true rfl) hrr) ?_
  exact rw_ret hQ (q_ireturn (Or.inl rfl)) (by exact ⟨rfl, rfl, hq3⟩)
