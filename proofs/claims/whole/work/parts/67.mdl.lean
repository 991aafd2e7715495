def slw (m : M1) (t i : Nat) : F := if i = t then 0 else m 271 (8 * i + t) * iv (m 271 (9 * t))
theorem slw_t {m : M1} {t : Nat} : slw m t t = 0 := if_pos rfl
theorem slw_n {m : M1} {t i : Nat} (h : i ≠ t) : slw m t i = m 271 (8 * i + t) * iv (m 271 (9 * t)) := if_neg h
theorem ask_z {P : Nat → F} (s : Nat) : ∀ j, s < j → ask P s j = 0 := by
  induction s with
  | zero => intro j hj; exact if_neg (by omega)
  | succ s ih =>
    intro j hj
    show (if j = 0 then 0 else ask P s (j - 1)) - P s * ask P s j = 0
    rw [if_neg (by omega), ih (j - 1) (by omega), ih j (by omega)]
    grind
theorem ask_s {P : Nat → F} {s j : Nat} (h : j ≠ 0) : ask P (s + 1) j = ask P s (j - 1) - P s * ask P s j := by
  show (if j = 0 then 0 else ask P s (j - 1)) - P s * ask P s j = _
  rw [if_neg h]
theorem ask_s0 {P : Nat → F} {s : Nat} : ask P (s + 1) 0 = 0 - P s * ask P s 0 := rfl
theorem c_X10_asks {d : Nat} {S : MC} {fz : Bool} {m : M1} {p : M2} (hd : 2 ≤ d) (f n : Nat) (hP : PI p) (hn : n ≤ 8) (hf : f + n ≤ 16) : Ct d k_X10_asks S fz [.ref (261), .int (iI (((f : Nat) : Int))), .int (iI (((n : Nat) : Int)))] m p (fun v m' p' => v = none ∧ p = p' ∧ Fr (fun a_ => a_ = 278) m m' ∧ ∀ j, j < 9 → m' 278 j = ask (fun z => m 267 (f + z)) n j) := by
  obtain ⟨d, rfl⟩ : ∃ e, d = e + 1 := ⟨d - 1, by omega⟩
  refine ct_go (lv := [some (.ref (261)), some (.int (iI (((f : Nat) : Int)))), some (.int (iI (((n : Nat) : Int)))), none, none]) (Nat.le_of_ble_eq_true rfl) (okar_cons rfl (okar_cons rfl (okar_cons rfl okar_nil))) rfl (fun Qr hQ => ?_)
  refine rw_blk lk_X10_asks_0 ?_
  refine rw_of (fun rr hrr => q_iconst (q_istore_n (Nat.le_of_ble_eq_true rfl) rfl hrr)) ?_
  have hL2 : ∀ k, k ≤ 9 → ∀ (m1 : M1), (Fr (fun a_ => a_ = 278) m m1 ∧ ∀ j, m1 278 j = if j < k then (if j = 0 then 1 else 0) else m 278 j) → Rw (Ev d) k_X10_asks (2, [], [some (.ref (261)), some (.int (iI (((f : Nat) : Int)))), some (.int (iI (((n : Nat) : Int)))), some (.int (iI (((k : Nat) : Int)))), none], [], hpM S fz (m1, p), 0, 0) Qr := by
    refine loop_any (fun k hi2 ih2 => ?_)
    intro m1
    intro hI2
    obtain ⟨hF2, hv2⟩ := hI2
    refine rw_blk lk_X10_asks_2 ?_
    refine rw_of (fun rr hrr => q_iload_n rfl (q_bipush rfl hrr)) ?_
    refine rw_icmp_gt ⟨by omega, by omega⟩ ⟨by omega, by omega⟩ (t := 29) rfl (fun hc1 => ?_) (fun hc1 => ?_)
    · skip
      refine rw_blk lk_X10_asks_29 ?_
      refine rw_of (fun rr hrr => q_iconst (q_istore_n (Nat.le_of_ble_eq_true rfl) rfl hrr)) ?_
      have hL31 : ∀ i, i ≤ n → ∀ (m2 : M1) (x31_4 : Option Value), (Fr (fun a_ => a_ = 278) m m2 ∧ ∀ j, j < 9 → m2 278 j = ask (fun z => m 267 (f + z)) i j) → Rw (Ev d) k_X10_asks (31, [], [some (.ref (261)), some (.int (iI (((f : Nat) : Int)))), some (.int (iI (((n : Nat) : Int)))), some (.int (iI (((i : Nat) : Int)))), x31_4], [], hpM S fz (m2, p), 0, 0) Qr := by
        refine loop_any (fun i hi31 ih31 => ?_)
        intro m2 x31_4
        intro hI31
        obtain ⟨hF, hv⟩ := hI31
        refine rw_blk lk_X10_asks_31 ?_
        refine rw_of (fun rr hrr => q_iload_n rfl (q_iload_n rfl hrr)) ?_
        refine rw_icmp_ge ⟨by omega, by omega⟩ ⟨by omega, by omega⟩ (t := 123) rfl (fun hc2 => ?_) (fun hc2 => ?_)
        · skip
          refine rw_blk lk_X10_asks_123 ?_
          refine rw_ret hQ (q_return) ?_
          have e9 : n = i := (by omega)
          subst e9
          exact ⟨rfl, rfl, hF, hv⟩
          
        · skip
          refine rw_of (fun rr hrr => q_iload_n rfl (q_iconst (q_iadd (q_istore (Nat.le_of_ble_eq_true rfl) rfl hrr)))) ?_
          have hL41 : ∀ t, t ≤ i + 1 → ∀ (m3 : M1), (Fr (fun a_ => a_ = 278) m2 m3 ∧ ∀ j, m3 278 j = if i + 1 - t < j ∧ j ≤ i + 1 then m2 278 (j - 1) - m2 278 j * m2 267 (f + i) else m2 278 j) → Rw (Ev d) k_X10_asks (41, [], [some (.ref (261)), some (.int (iI (((f : Nat) : Int)))), some (.int (iI (((n : Nat) : Int)))), some (.int (iI (((i : Nat) : Int)))), some (.int (iI (((i + 1 - t : Nat) : Int))))], [], hpM S fz (m3, p), 0, 0) Qr := by
            refine loop_any (fun t hi41 ih41 => ?_)
            intro m3
            intro hI41
            obtain ⟨hF41, hv41⟩ := hI41
            refine rw_blk lk_X10_asks_41 ?_
            refine rw_of (fun rr hrr => q_iload rfl hrr) ?_
            refine rw_if_le ⟨by omega, by omega⟩ (t := 90) rfl (fun hc3 => ?_) (fun hc3 => ?_)
            · skip
              refine rw_blk lk_X10_asks_90 ?_
              refine rw_of (fun rr hrr => q_aload_n rfl (q_getR (show SH 261 = (18, 0) from rfl) rfl (pt_261_19 hP) (q_iconst (q_aload_n rfl (q_getR (show SH 261 = (18, 0) from rfl) rfl (pt_261_19 hP) (q_iconst (q_iald (j := 0) (show SH 278 = (1, 9) from rfl) rfl (by omega) rfl (q_aload_n rfl (q_getR (show SH 261 = (18, 0) from rfl) rfl (pt_261_7 hP) (q_iload_n rfl (q_iload_n rfl (q_iadd (q_iald (j := f + i) (show SH 267 = (1, 16) from rfl) (by omega) (by omega) rfl hrr))))))))))))) ?_
              obtain ⟨_, mm4, pp5, hV6, rfl, rfl, rfl⟩ := c_X10_times (S := S) (fz := fz) (m := m3) (p := p) (d := d) (by omega) (m3 278 0) (m3 267 (f + i))
              refine rw_of (fun rr hrr => q_invS hV6 rfl rfl (okar_cons rfl (okar_cons rfl okar_nil)) (Nat.le_of_ble_eq_true rfl) (q_ineg hrr)) ?_
              obtain ⟨_, mm7, pp8, hV9, rfl, rfl, rfl⟩ := c_X10_rest (S := S) (fz := fz) (m := m3) (p := p) (d := d) (by omega) ((-vF ((m3 278 0) * (m3 267 (f + i))))) (by have := vF_ge ((m3 278 0) * (m3 267 (f + i))); have := vF_lt ((m3 278 0) * (m3 267 (f + i))); omega)
              refine rw_of (fun rr hrr => q_invS hV9 rfl rfl (okar_cons rfl okar_nil) (Nat.le_of_ble_eq_true rfl) (q_iast (j := 0) (xx := toF ((-vF ((m3 278 0) * (m3 267 (f + i)))))) (show SH 278 = (1, 9) from rfl) rfl (by omega) rfl hrr)) ?_
              generalize hm11 : w1 m3 278 0 (toF ((-vF ((m3 278 0) * (m3 267 (f + i)))))) = mm10
              refine rw_of (fun rr hrr => q_iinc rfl rfl (q_goto (t := 31) rfl hrr)) ?_
              have hA12 : Fr (fun a_ => a_ = 278) m mm10 ∧ ∀ j, j < 9 → mm10 278 j = ask (fun z => m 267 (f + z)) (i + 1) j := by
                have hP9 : m2 267 (f + i) = m 267 (f + i) := congrFun (hF 267 (by omega)) _
                refine ⟨fr_w hm11 (Fr_trans hF hF41) rfl, fun j hj => ?_⟩
                rw [← hm11]
                by_cases q : j = 0
                · rw [q, w1_at, hv41 0, if_neg (by omega), hF41 267 (by omega), hv 0 (by omega), hP9, ask_s0, toF_neg, toF_vF]
                  grind
                · rw [w1_ne (fun z => q z.2), hv41 j, ask_s q]
                  by_cases q2 : j ≤ i + 1
                  · rw [if_pos (by omega), hv (j - 1) (by omega), hv j hj, hP9]
                    grind
                  · rw [if_neg (by omega), hv j hj, ask_z i j (by omega), ask_z i (j - 1) (by omega)]
                    grind
              exact rw_cast (ih31 (by omega) mm10 (some (.int (iI (((i + 1 - t : Nat) : Int))))) hA12) (lcons rfl (lcons rfl (lcons rfl (lcons (lvI (by omega)) (lcons rfl rfl))))) rfl
            · skip
              refine rw_of (fun rr hrr => q_aload_n rfl (q_getR (show SH 261 = (18, 0) from rfl) rfl (pt_261_19 hP) (q_iload rfl (q_aload_n rfl (q_getR (show SH 261 = (18, 0) from rfl) rfl (pt_261_19 hP) (q_iload rfl (q_iconst (q_isub (q_iald (j := (i + 1 - t) - 1) (show SH 278 = (1, 9) from rfl) (by omega) (by omega) rfl (q_aload_n rfl (q_getR (show SH 261 = (18, 0) from rfl) rfl (pt_261_19 hP) (q_iload rfl (q_iald (j := i + 1 - t) (show SH 278 = (1, 9) from rfl) (by omega) (by omega) rfl (q_aload_n rfl (q_getR (show SH 261 = (18, 0) from rfl) rfl (pt_261_7 hP) (q_iload_n rfl (q_iload_n rfl (q_iadd (q_iald (j := f + i) (show SH 267 = (1, 16) from rfl) (by omega) (by omega) rfl hrr))))))))))))))))))) ?_
              obtain ⟨_, mm13, pp14, hV15, rfl, rfl, rfl⟩ := c_X10_times (S := S) (fz := fz) (m := m3) (p := p) (d := d) (by omega) (m3 278 (i + 1 - t)) (m3 267 (f + i))
              refine rw_of (fun rr hrr => q_invS hV15 rfl rfl (okar_cons rfl (okar_cons rfl okar_nil)) (Nat.le_of_ble_eq_true rfl) (q_isub hrr)) ?_
              obtain ⟨_, mm16, pp17, hV18, rfl, rfl, rfl⟩ := c_X10_rest (S := S) (fz := fz) (m := m3) (p := p) (d := d) (by omega) ((vF (m3 278 ((i + 1 - t) - 1)) - vF ((m3 278 (i + 1 - t)) * (m3 267 (f + i))))) (by have := vF_ge (m3 278 ((i + 1 - t) - 1)); have := vF_lt (m3 278 ((i + 1 - t) - 1)); have := vF_ge ((m3 278 (i + 1 - t)) * (m3 267 (f + i))); have := vF_lt ((m3 278 (i + 1 - t)) * (m3 267 (f + i))); omega)
              refine rw_of (fun rr hrr => q_invS hV18 rfl rfl (okar_cons rfl okar_nil) (Nat.le_of_ble_eq_true rfl) (q_iast (j := i + 1 - t) (xx := toF ((vF (m3 278 ((i + 1 - t) - 1)) - vF ((m3 278 (i + 1 - t)) * (m3 267 (f + i)))))) (show SH 278 = (1, 9) from rfl) (by omega) (by omega) rfl hrr)) ?_
              generalize hm20 : w1 m3 278 (i + 1 - t) (toF ((vF (m3 278 ((i + 1 - t) - 1)) - vF ((m3 278 (i + 1 - t)) * (m3 267 (f + i)))))) = mm19
              refine rw_of (fun rr hrr => q_iinc rfl rfl (q_goto (t := 41) rfl hrr)) ?_
              exact rw_cast (ih41 (by omega) mm19 (by exact ⟨fr_w hm20 hF41 rfl, filld_w (P' := fun j => i + 1 - (t + 1) < j ∧ j ≤ i + 1) (f := fun j => m2 278 (j - 1) - m2 278 j * m2 267 (f + i)) hm20 hv41 (by rw [toF_sub, toF_vF, toF_vF, hv41, if_neg (by omega), hv41, if_neg (by omega), hF41 267 (by omega)]) (fun j => by omega)⟩)) (lcons rfl (lcons rfl (lcons rfl (lcons rfl (lcons (lvI (by omega)) rfl))))) rfl
          exact rw_cast (hL41 0 (by omega) m2 (by exact ⟨Fr_rfl, fun j => (if_neg (by omega)).symm⟩)) (lcons rfl (lcons rfl (lcons rfl (lcons rfl (lcons (lvI (by omega)) rfl))))) rfl
      have hA21 : Fr (fun a_ => a_ = 278) m m1 ∧ ∀ j, j < 9 → m1 278 j = ask (fun z => m 267 (f + z)) 0 j := by
        refine ⟨hF2, fun j hj => ?_⟩
        rw [hv2 j, if_pos (by omega)]
        rfl
      exact rw_cast (hL31 0 (by omega) m1 none hA21) (lcons rfl (lcons rfl (lcons rfl (lcons (lvI (by omega)) (lcons rfl rfl))))) rfl
    · skip
      refine rw_of (fun rr hrr => q_aload_n rfl (q_getR (show SH 261 = (18, 0) from rfl) rfl (pt_261_19 hP) (q_iload_n rfl (q_iload_n rfl hrr)))) ?_
      refine rw_if_ne ⟨by omega, by omega⟩ (t := 21) rfl (fun hc22 => ?_) (fun hc22 => ?_)
      · skip
        refine rw_blk lk_X10_asks_21 ?_
        refine rw_of (fun rr hrr => q_iconst hrr) ?_
        refine rw_blk lk_X10_asks_22 ?_
        refine rw_of (fun rr hrr => q_iast (j := k) (xx := 0) (show SH 278 = (1, 9) from rfl) rfl (by omega) rfl hrr) ?_
        generalize hm24 : w1 m1 278 k 0 = mm23
        refine rw_of (fun rr hrr => q_iinc rfl rfl (q_goto (t := 2) rfl hrr)) ?_
        have hA25 : Fr (fun a_ => a_ = 278) m mm23 ∧ ∀ j, mm23 278 j = if j < (k + 1) then (if j = 0 then 1 else 0) else m 278 j := by
          first
            | exact ⟨fr_w hm24 hF2 rfl, fill_w (f := fun j => if j = 0 then 1 else 0) hm24 hv2 (if_pos (by omega)).symm⟩
            | exact ⟨fr_w hm24 hF2 rfl, fill_w (f := fun j => if j = 0 then 1 else 0) hm24 hv2 (if_neg (by omega)).symm⟩
        exact rw_cast (ih2 (by omega) mm23 hA25) (lcons rfl (lcons rfl (lcons rfl (lcons (lvI (by omega)) (lcons rfl rfl))))) rfl
      · skip
        refine rw_of (fun rr hrr => q_iconst (q_goto (t := 22) rfl hrr)) ?_
        refine rw_blk lk_X10_asks_22 ?_
        refine rw_of (fun rr hrr => q_iast (j := k) (xx := 1) (show SH 278 = (1, 9) from rfl) rfl (by omega) rfl hrr) ?_
        generalize hm27 : w1 m1 278 k 1 = mm26
        refine rw_of (fun rr hrr => q_iinc rfl rfl (q_goto (t := 2) rfl hrr)) ?_
        have hA28 : Fr (fun a_ => a_ = 278) m mm26 ∧ ∀ j, mm26 278 j = if j < (k + 1) then (if j = 0 then 1 else 0) else m 278 j := by
          first
            | exact ⟨fr_w hm27 hF2 rfl, fill_w (f := fun j => if j = 0 then 1 else 0) hm27 hv2 (if_pos (by omega)).symm⟩
            | exact ⟨fr_w hm27 hF2 rfl, fill_w (f := fun j => if j = 0 then 1 else 0) hm27 hv2 (if_neg (by omega)).symm⟩
        exact rw_cast (ih2 (by omega) mm26 hA28) (lcons rfl (lcons rfl (lcons rfl (lcons (lvI (by omega)) (lcons rfl rfl))))) rfl
  exact rw_cast (hL2 0 (by omega) m (by exact ⟨Fr_rfl, fun j => (if_neg (Nat.not_lt_zero j)).symm⟩)) (lcons rfl (lcons rfl (lcons rfl (lcons (lvI (by omega)) (lcons rfl rfl))))) rfl
theorem c_X10_solves {d : Nat} {S : MC} {fz : Bool} {m : M1} {p : M2} (hd : 3 ≤ d) (t n : Nat) (hP : PI p) (hn : n ≤ 8) (ht : t < n) : Ct d k_X10_solves S fz [.ref (261), .int (iI (((t : Nat) : Int))), .int (iI (((n : Nat) : Int)))] m p (fun v m' p' => v = none ∧ p = p' ∧ Fr (fun a_ => a_ = 271 ∨ a_ = 274) m m' ∧ (∀ i, i < n → ∀ c, c < n → m' 271 (8 * i + c) = m 271 (8 * i + c) - slw m t i * m 271 (8 * t + c)) ∧ ∀ i, i < n → m' 274 i = m 274 i - slw m t i * m 274 t) := by
  obtain ⟨d, rfl⟩ : ∃ e, d = e + 1 := ⟨d - 1, by omega⟩
  refine ct_go (lv := [some (.ref (261)), some (.int (iI (((t : Nat) : Int)))), some (.int (iI (((n : Nat) : Int)))), none, none, none, none]) (Nat.le_of_ble_eq_true rfl) (okar_cons rfl (okar_cons rfl (okar_cons rfl okar_nil))) rfl (fun Qr hQ => ?_)
  refine rw_blk lk_X10_solves_0 ?_
  refine rw_of (fun rr hrr => q_aload_n rfl (q_getR (show SH 261 = (18, 0) from rfl) rfl (pt_261_12 hP) (q_bipush rfl (q_iload_n rfl (q_imul (q_iald (j := 9 * t) (show SH 271 = (1, 64) from rfl) (by omega) (by omega) rfl hrr)))))) ?_
  obtain ⟨_, mm1, pp2, hV3, rfl, rfl, rfl⟩ := c_X10_inverse (S := S) (fz := fz) (m := m) (p := p) (d := d) (by omega) (m 271 (9 * t))
  refine rw_of (fun rr hrr => q_invS hV3 rfl rfl (okar_cons rfl okar_nil) (Nat.le_of_ble_eq_true rfl) (q_istore_n (Nat.le_of_ble_eq_true rfl) rfl (q_iconst (q_istore (Nat.le_of_ble_eq_true rfl) rfl hrr)))) ?_
  have hL16 : ∀ i, i ≤ n → ∀ (m1 : M1) (x16_5 : Option Value) (x16_6 : Option Value), (Fr (fun a_ => a_ = 271 ∨ a_ = 274) m m1 ∧ (∀ z, z < 8 → ∀ c, c < n → m1 271 (8 * z + c) = if z < i then m 271 (8 * z + c) - slw m t z * m 271 (8 * t + c) else m 271 (8 * z + c)) ∧ ∀ z, z < 8 → m1 274 z = if z < i then m 274 z - slw m t z * m 274 t else m 274 z) → Rw (Ev d) k_X10_solves (16, [], [some (.ref (261)), some (.int (iI (((t : Nat) : Int)))), some (.int (iI (((n : Nat) : Int)))), some (.int (iI (vF (iv (m 271 (9 * t)))))), some (.int (iI (((i : Nat) : Int)))), x16_5, x16_6], [], hpM S fz (m1, p), 0, 0) Qr := by
    refine loop_any (fun i hi16 ih16 => ?_)
    intro m1 x16_5 x16_6
    intro hI16
    obtain ⟨hF, hv, hf⟩ := hI16
    have ht9 : (∀ c, c < n → m1 271 (8 * t + c) = m 271 (8 * t + c)) ∧ m1 274 t = m 274 t := by
      refine ⟨fun c hc => ?_, ?_⟩
      · rw [hv t (by omega) c hc]
        by_cases q : t < i
        · rw [if_pos q, slw_t]; grind
        · rw [if_neg q]
      · rw [hf t (by omega)]
        by_cases q : t < i
        · rw [if_pos q, slw_t]; grind
        · rw [if_neg q]
    refine rw_blk lk_X10_solves_16 ?_
    refine rw_of (fun rr hrr => q_iload rfl (q_iload_n rfl hrr)) ?_
    refine rw_icmp_ge ⟨by omega, by omega⟩ ⟨by omega, by omega⟩ (t := 152) rfl (fun hc4 => ?_) (fun hc4 => ?_)
    · skip
      refine rw_blk lk_X10_solves_152 ?_
      refine rw_ret hQ (q_return) ?_
      have e9 : n = i := (by omega)
      subst e9
      exact ⟨rfl, rfl, hF, fun i hi c hc => (hv i (by omega) c hc).trans (if_pos hi), fun i hi => (hf i (by omega)).trans (if_pos hi)⟩
      
    · skip
      refine rw_of (fun rr hrr => q_iload rfl (q_iload_n rfl hrr)) ?_
      refine rw_icmp_ne ⟨by omega, by omega⟩ ⟨by omega, by omega⟩ (t := 32) rfl (fun hc5 => ?_) (fun hc5 => ?_)
      · skip
        refine rw_blk lk_X10_solves_32 ?_
        refine rw_of (fun rr hrr => q_aload_n rfl (q_getR (show SH 261 = (18, 0) from rfl) rfl (pt_261_12 hP) (q_bipush rfl (q_iload rfl (q_imul (q_iload_n rfl (q_iadd (q_iald (j := 8 * i + t) (show SH 271 = (1, 64) from rfl) (by omega) (by omega) rfl (q_iload_n rfl hrr))))))))) ?_
        obtain ⟨_, mm6, pp7, hV8, rfl, rfl, rfl⟩ := c_X10_times (S := S) (fz := fz) (m := m1) (p := p) (d := d) (by omega) (m1 271 (8 * i + t)) (iv (m 271 (9 * t)))
        refine rw_of (fun rr hrr => q_invS hV8 rfl rfl (okar_cons rfl (okar_cons rfl okar_nil)) (Nat.le_of_ble_eq_true rfl) hrr) ?_
        refine rw_blk lk_X10_solves_48 ?_
        refine rw_of (fun rr hrr => q_istore (Nat.le_of_ble_eq_true rfl) rfl (q_iconst (q_istore (Nat.le_of_ble_eq_true rfl) rfl hrr))) ?_
        have hL53 : ∀ k, k ≤ n → ∀ (m2 : M1) (by' : F), (Fr (fun a_ => a_ = 271) m1 m2 ∧ by' = slw m t i ∧ ∀ z, z < 8 → ∀ c, c < n → m2 271 (8 * z + c) = if z = i ∧ c < k then m1 271 (8 * z + c) - by' * m1 271 (8 * t + c) else m1 271 (8 * z + c)) → Rw (Ev d) k_X10_solves (53, [], [some (.ref (261)), some (.int (iI (((t : Nat) : Int)))), some (.int (iI (((n : Nat) : Int)))), some (.int (iI (vF (iv (m 271 (9 * t)))))), some (.int (iI (((i : Nat) : Int)))), some (.int (iI (vF (by')))), some (.int (iI (((k : Nat) : Int))))], [], hpM S fz (m2, p), 0, 0) Qr := by
          refine loop_any (fun k hi53 ih53 => ?_)
          intro m2 by'
          intro hI53
          obtain ⟨hF53, hby, hv53⟩ := hI53
          refine rw_blk lk_X10_solves_53 ?_
          refine rw_of (fun rr hrr => q_iload rfl (q_iload_n rfl hrr)) ?_
          refine rw_icmp_ge ⟨by omega, by omega⟩ ⟨by omega, by omega⟩ (t := 117) rfl (fun hc9 => ?_) (fun hc9 => ?_)
          · skip
            refine rw_blk lk_X10_solves_117 ?_
            refine rw_of (fun rr hrr => q_aload_n rfl (q_getR (show SH 261 = (18, 0) from rfl) rfl (pt_261_15 hP) (q_iload rfl (q_aload_n rfl (q_getR (show SH 261 = (18, 0) from rfl) rfl (pt_261_15 hP) (q_iload rfl (q_iald (j := i) (show SH 274 = (1, 8) from rfl) rfl (by omega) rfl (q_iload rfl (q_aload_n rfl (q_getR (show SH 261 = (18, 0) from rfl) rfl (pt_261_15 hP) (q_iload_n rfl (q_iald (j := t) (show SH 274 = (1, 8) from rfl) rfl (by omega) rfl hrr)))))))))))) ?_
            obtain ⟨_, mm10, pp11, hV12, rfl, rfl, rfl⟩ := c_X10_times (S := S) (fz := fz) (m := m2) (p := p) (d := d) (by omega) (by') (m2 274 t)
            refine rw_of (fun rr hrr => q_invS hV12 rfl rfl (okar_cons rfl (okar_cons rfl okar_nil)) (Nat.le_of_ble_eq_true rfl) (q_isub hrr)) ?_
            obtain ⟨_, mm13, pp14, hV15, rfl, rfl, rfl⟩ := c_X10_rest (S := S) (fz := fz) (m := m2) (p := p) (d := d) (by omega) ((vF (m2 274 i) - vF (by' * (m2 274 t)))) (by have := vF_ge (m2 274 i); have := vF_lt (m2 274 i); have := vF_ge (by' * (m2 274 t)); have := vF_lt (by' * (m2 274 t)); omega)
            refine rw_of (fun rr hrr => q_invS hV15 rfl rfl (okar_cons rfl okar_nil) (Nat.le_of_ble_eq_true rfl) (q_iast (j := i) (xx := toF ((vF (m2 274 i) - vF (by' * (m2 274 t))))) (show SH 274 = (1, 8) from rfl) rfl (by omega) rfl hrr)) ?_
            generalize hm17 : w1 m2 274 i (toF ((vF (m2 274 i) - vF (by' * (m2 274 t))))) = mm16
            refine rw_of (fun rr hrr => q_iinc rfl rfl (q_goto (t := 16) rfl hrr)) ?_
            have hA18 : Fr (fun a_ => a_ = 271 ∨ a_ = 274) m mm16 ∧ (∀ z, z < 8 → ∀ c, c < n → mm16 271 (8 * z + c) = if z < (i + 1) then m 271 (8 * z + c) - slw m t z * m 271 (8 * t + c) else m 271 (8 * z + c)) ∧ ∀ z, z < 8 → mm16 274 z = if z < (i + 1) then m 274 z - slw m t z * m 274 t else m 274 z := by
              refine ⟨fr_w hm17 (Fr_trans hF (Fr_mono hF53 (fun a ha => by omega))) (by omega), fun z hz c hc => ?_, fun z hz => ?_⟩
              · rw [← hm17, w1_a (by omega), hv53 z hz c hc]
                by_cases e : z = i
                · subst e
                  rw [if_pos (by omega : z < z + 1), ht9.1 c hc, hv z (by omega) c hc, if_neg (by omega : ¬ z < z), ← hby]
                  by_cases qq : c < k
                  · rw [if_pos (by omega)]
                  · have hz9 : by' = 0 := vF_inj (by have := vF_ge by'; rw [vF_0]; omega)
                    rw [if_neg (by omega), hz9]; grind
                · rw [if_neg (by omega), hv z hz c hc]
                  by_cases q : z < i
                  · rw [if_pos q, if_pos (by omega)]
                  · rw [if_neg q, if_neg (by omega)]
              · rw [← hm17]
                by_cases e : z = i
                · rw [e, w1_at, if_pos (by omega), hF53 274 (by omega), hf i (by omega), if_neg (by omega), ht9.2, toF_sub, toF_vF, toF_vF, hby]
                · rw [w1_ne (by omega), hF53 274 (by omega), hf z hz]
                  by_cases q : z < i
                  · rw [if_pos q, if_pos (by omega)]
                  · rw [if_neg q, if_neg (by omega)]
            exact rw_cast (ih16 (by omega) mm16 (some (.int (iI (vF (by'))))) (some (.int (iI (((k : Nat) : Int))))) hA18) (lcons rfl (lcons rfl (lcons rfl (lcons rfl (lcons (lvI (by omega)) (lcons rfl (lcons rfl rfl))))))) rfl
          · skip
            refine rw_of (fun rr hrr => q_iload rfl hrr) ?_
            refine rw_if_le (rg_vF _) (t := 117) rfl (fun hc19 => ?_) (fun hc19 => ?_)
            · skip
              refine rw_blk lk_X10_solves_117 ?_
              refine rw_of (fun rr hrr => q_aload_n rfl (q_getR (show SH 261 = (18, 0) from rfl) rfl (pt_261_15 hP) (q_iload rfl (q_aload_n rfl (q_getR (show SH 261 = (18, 0) from rfl) rfl (pt_261_15 hP) (q_iload rfl (q_iald (j := i) (show SH 274 = (1, 8) from rfl) rfl (by omega) rfl (q_iload rfl (q_aload_n rfl (q_getR (show SH 261 = (18, 0) from rfl) rfl (pt_261_15 hP) (q_iload_n rfl (q_iald (j := t) (show SH 274 = (1, 8) from rfl) rfl (by omega) rfl hrr)))))))))))) ?_
              obtain ⟨_, mm20, pp21, hV22, rfl, rfl, rfl⟩ := c_X10_times (S := S) (fz := fz) (m := m2) (p := p) (d := d) (by omega) (by') (m2 274 t)
              refine rw_of (fun rr hrr => q_invS hV22 rfl rfl (okar_cons rfl (okar_cons rfl okar_nil)) (Nat.le_of_ble_eq_true rfl) (q_isub hrr)) ?_
              obtain ⟨_, mm23, pp24, hV25, rfl, rfl, rfl⟩ := c_X10_rest (S := S) (fz := fz) (m := m2) (p := p) (d := d) (by omega) ((vF (m2 274 i) - vF (by' * (m2 274 t)))) (by have := vF_ge (m2 274 i); have := vF_lt (m2 274 i); have := vF_ge (by' * (m2 274 t)); have := vF_lt (by' * (m2 274 t)); omega)
              refine rw_of (fun rr hrr => q_invS hV25 rfl rfl (okar_cons rfl okar_nil) (Nat.le_of_ble_eq_true rfl) (q_iast (j := i) (xx := toF ((vF (m2 274 i) - vF (by' * (m2 274 t))))) (show SH 274 = (1, 8) from rfl) rfl (by omega) rfl hrr)) ?_
              generalize hm27 : w1 m2 274 i (toF ((vF (m2 274 i) - vF (by' * (m2 274 t))))) = mm26
              refine rw_of (fun rr hrr => q_iinc rfl rfl (q_goto (t := 16) rfl hrr)) ?_
              have hA28 : Fr (fun a_ => a_ = 271 ∨ a_ = 274) m mm26 ∧ (∀ z, z < 8 → ∀ c, c < n → mm26 271 (8 * z + c) = if z < (i + 1) then m 271 (8 * z + c) - slw m t z * m 271 (8 * t + c) else m 271 (8 * z + c)) ∧ ∀ z, z < 8 → mm26 274 z = if z < (i + 1) then m 274 z - slw m t z * m 274 t else m 274 z := by
                refine ⟨fr_w hm27 (Fr_trans hF (Fr_mono hF53 (fun a ha => by omega))) (by omega), fun z hz c hc => ?_, fun z hz => ?_⟩
                · rw [← hm27, w1_a (by omega), hv53 z hz c hc]
                  by_cases e : z = i
                  · subst e
                    rw [if_pos (by omega : z < z + 1), ht9.1 c hc, hv z (by omega) c hc, if_neg (by omega : ¬ z < z), ← hby]
                    by_cases qq : c < k
                    · rw [if_pos (by omega)]
                    · have hz9 : by' = 0 := vF_inj (by have := vF_ge by'; rw [vF_0]; omega)
                      rw [if_neg (by omega), hz9]; grind
                  · rw [if_neg (by omega), hv z hz c hc]
                    by_cases q : z < i
                    · rw [if_pos q, if_pos (by omega)]
                    · rw [if_neg q, if_neg (by omega)]
                · rw [← hm27]
                  by_cases e : z = i
                  · rw [e, w1_at, if_pos (by omega), hF53 274 (by omega), hf i (by omega), if_neg (by omega), ht9.2, toF_sub, toF_vF, toF_vF, hby]
                  · rw [w1_ne (by omega), hF53 274 (by omega), hf z hz]
                    by_cases q : z < i
                    · rw [if_pos q, if_pos (by omega)]
                    · rw [if_neg q, if_neg (by omega)]
              exact rw_cast (ih16 (by omega) mm26 (some (.int (iI (vF (by'))))) (some (.int (iI (((k : Nat) : Int))))) hA28) (lcons rfl (lcons rfl (lcons rfl (lcons rfl (lcons (lvI (by omega)) (lcons rfl (lcons rfl rfl))))))) rfl
            · skip
              refine rw_of (fun rr hrr => q_aload_n rfl (q_getR (show SH 261 = (18, 0) from rfl) rfl (pt_261_12 hP) (q_bipush rfl (q_iload rfl (q_imul (q_iload rfl (q_iadd (q_aload_n rfl (q_getR (show SH 261 = (18, 0) from rfl) rfl (pt_261_12 hP) (q_bipush rfl (q_iload rfl (q_imul (q_iload rfl (q_iadd (q_iald (j := 8 * i + k) (show SH 271 = (1, 64) from rfl) (by omega) (by omega) rfl (q_iload rfl (q_aload_n rfl (q_getR (show SH 261 = (18, 0) from rfl) rfl (pt_261_12 hP) (q_bipush rfl (q_iload_n rfl (q_imul (q_iload rfl (q_iadd (q_iald (j := 8 * t + k) (show SH 271 = (1, 64) from rfl) (by omega) (by omega) rfl hrr)))))))))))))))))))))))) ?_
              obtain ⟨_, mm29, pp30, hV31, rfl, rfl, rfl⟩ := c_X10_times (S := S) (fz := fz) (m := m2) (p := p) (d := d) (by omega) (by') (m2 271 (8 * t + k))
              refine rw_of (fun rr hrr => q_invS hV31 rfl rfl (okar_cons rfl (okar_cons rfl okar_nil)) (Nat.le_of_ble_eq_true rfl) (q_isub hrr)) ?_
              obtain ⟨_, mm32, pp33, hV34, rfl, rfl, rfl⟩ := c_X10_rest (S := S) (fz := fz) (m := m2) (p := p) (d := d) (by omega) ((vF (m2 271 (8 * i + k)) - vF (by' * (m2 271 (8 * t + k))))) (by have := vF_ge (m2 271 (8 * i + k)); have := vF_lt (m2 271 (8 * i + k)); have := vF_ge (by' * (m2 271 (8 * t + k))); have := vF_lt (by' * (m2 271 (8 * t + k))); omega)
              refine rw_of (fun rr hrr => q_invS hV34 rfl rfl (okar_cons rfl okar_nil) (Nat.le_of_ble_eq_true rfl) (q_iast (j := 8 * i + k) (xx := toF ((vF (m2 271 (8 * i + k)) - vF (by' * (m2 271 (8 * t + k)))))) (show SH 271 = (1, 64) from rfl) (by omega) (by omega) rfl hrr)) ?_
              generalize hm36 : w1 m2 271 (8 * i + k) (toF ((vF (m2 271 (8 * i + k)) - vF (by' * (m2 271 (8 * t + k)))))) = mm35
              refine rw_of (fun rr hrr => q_iinc rfl rfl (q_goto (t := 53) rfl hrr)) ?_
              have hA37 : Fr (fun a_ => a_ = 271) m1 mm35 ∧ by' = slw m t i ∧ ∀ z, z < 8 → ∀ c, c < n → mm35 271 (8 * z + c) = if z = i ∧ c < (k + 1) then m1 271 (8 * z + c) - by' * m1 271 (8 * t + c) else m1 271 (8 * z + c) := by
                refine ⟨fr_w hm36 hF53 rfl, hby, fun z hz c hc => ?_⟩
                have hit : i ≠ t := fun e => by
                  have hz9 : vF by' = 0 := by rw [hby, e, slw_t]; rfl
                  omega
                rw [← hm36]
                by_cases e : z = i ∧ c = k
                · obtain ⟨e1, e2⟩ := e
                  subst e1
                  subst e2
                  rw [w1_at, if_pos (by omega), hv53 z hz c hc, if_neg (by omega), hv53 t (by omega) c hc, if_neg (by omega), toF_sub, toF_vF, toF_vF]
                · rw [w1_ne (by omega), hv53 z hz c hc]
                  by_cases q : z = i ∧ c < k
                  · rw [if_pos q, if_pos (by omega)]
                  · rw [if_neg q, if_neg (by omega)]
              exact rw_cast (ih53 (by omega) mm35 by' hA37) (lcons rfl (lcons rfl (lcons rfl (lcons rfl (lcons rfl (lcons (lvI (by rfl)) (lcons (lvI (by omega)) rfl))))))) rfl
        have hA38 : Fr (fun a_ => a_ = 271) m1 m1 ∧ ((m1 271 (8 * i + t)) * (iv (m 271 (9 * t)))) = slw m t i ∧ ∀ z, z < 8 → ∀ c, c < n → m1 271 (8 * z + c) = if z = i ∧ c < 0 then m1 271 (8 * z + c) - ((m1 271 (8 * i + t)) * (iv (m 271 (9 * t)))) * m1 271 (8 * t + c) else m1 271 (8 * z + c) := by
          first
            | exact ⟨Fr_rfl, (show i = t by omega) ▸ slw_t.symm, fun z hz c hc => (if_neg (by omega)).symm⟩
            | exact ⟨Fr_rfl, by rw [slw_n (by omega), hv i (by omega) t ht, if_neg (by omega)], fun z hz c hc => (if_neg (by omega)).symm⟩
        exact rw_cast (hL53 0 (by omega) m1 ((m1 271 (8 * i + t)) * (iv (m 271 (9 * t)))) hA38) (lcons rfl (lcons rfl (lcons rfl (lcons rfl (lcons rfl (lcons (lvI (by rfl)) (lcons (lvI (by omega)) rfl))))))) rfl
      · skip
        refine rw_of (fun rr hrr => q_iconst (q_goto (t := 48) rfl hrr)) ?_
        refine rw_blk lk_X10_solves_48 ?_
        refine rw_of (fun rr hrr => q_istore (Nat.le_of_ble_eq_true rfl) rfl (q_iconst (q_istore (Nat.le_of_ble_eq_true rfl) rfl hrr))) ?_
        have hL53 : ∀ k, k ≤ n → ∀ (m2 : M1) (by' : F), (Fr (fun a_ => a_ = 271) m1 m2 ∧ by' = slw m t i ∧ ∀ z, z < 8 → ∀ c, c < n → m2 271 (8 * z + c) = if z = i ∧ c < k then m1 271 (8 * z + c) - by' * m1 271 (8 * t + c) else m1 271 (8 * z + c)) → Rw (Ev d) k_X10_solves (53, [], [some (.ref (261)), some (.int (iI (((t : Nat) : Int)))), some (.int (iI (((n : Nat) : Int)))), some (.int (iI (vF (iv (m 271 (9 * t)))))), some (.int (iI (((i : Nat) : Int)))), some (.int (iI (vF (by')))), some (.int (iI (((k : Nat) : Int))))], [], hpM S fz (m2, p), 0, 0) Qr := by
          refine loop_any (fun k hi53 ih53 => ?_)
          intro m2 by'
          intro hI53
          obtain ⟨hF53, hby, hv53⟩ := hI53
          refine rw_blk lk_X10_solves_53 ?_
          refine rw_of (fun rr hrr => q_iload rfl (q_iload_n rfl hrr)) ?_
          refine rw_icmp_ge ⟨by omega, by omega⟩ ⟨by omega, by omega⟩ (t := 117) rfl (fun hc39 => ?_) (fun hc39 => ?_)
          · skip
            refine rw_blk lk_X10_solves_117 ?_
            refine rw_of (fun rr hrr => q_aload_n rfl (q_getR (show SH 261 = (18, 0) from rfl) rfl (pt_261_15 hP) (q_iload rfl (q_aload_n rfl (q_getR (show SH 261 = (18, 0) from rfl) rfl (pt_261_15 hP) (q_iload rfl (q_iald (j := i) (show SH 274 = (1, 8) from rfl) rfl (by omega) rfl (q_iload rfl (q_aload_n rfl (q_getR (show SH 261 = (18, 0) from rfl) rfl (pt_261_15 hP) (q_iload_n rfl (q_iald (j := t) (show SH 274 = (1, 8) from rfl) rfl (by omega) rfl hrr)))))))))))) ?_
            obtain ⟨_, mm40, pp41, hV42, rfl, rfl, rfl⟩ := c_X10_times (S := S) (fz := fz) (m := m2) (p := p) (d := d) (by omega) (by') (m2 274 t)
            refine rw_of (fun rr hrr => q_invS hV42 rfl rfl (okar_cons rfl (okar_cons rfl okar_nil)) (Nat.le_of_ble_eq_true rfl) (q_isub hrr)) ?_
            obtain ⟨_, mm43, pp44, hV45, rfl, rfl, rfl⟩ := c_X10_rest (S := S) (fz := fz) (m := m2) (p := p) (d := d) (by omega) ((vF (m2 274 i) - vF (by' * (m2 274 t)))) (by have := vF_ge (m2 274 i); have := vF_lt (m2 274 i); have := vF_ge (by' * (m2 274 t)); have := vF_lt (by' * (m2 274 t)); omega)
            refine rw_of (fun rr hrr => q_invS hV45 rfl rfl (okar_cons rfl okar_nil) (Nat.le_of_ble_eq_true rfl) (q_iast (j := i) (xx := toF ((vF (m2 274 i) - vF (by' * (m2 274 t))))) (show SH 274 = (1, 8) from rfl) rfl (by omega) rfl hrr)) ?_
            generalize hm47 : w1 m2 274 i (toF ((vF (m2 274 i) - vF (by' * (m2 274 t))))) = mm46
            refine rw_of (fun rr hrr => q_iinc rfl rfl (q_goto (t := 16) rfl hrr)) ?_
            have hA48 : Fr (fun a_ => a_ = 271 ∨ a_ = 274) m mm46 ∧ (∀ z, z < 8 → ∀ c, c < n → mm46 271 (8 * z + c) = if z < (i + 1) then m 271 (8 * z + c) - slw m t z * m 271 (8 * t + c) else m 271 (8 * z + c)) ∧ ∀ z, z < 8 → mm46 274 z = if z < (i + 1) then m 274 z - slw m t z * m 274 t else m 274 z := by
              refine ⟨fr_w hm47 (Fr_trans hF (Fr_mono hF53 (fun a ha => by omega))) (by omega), fun z hz c hc => ?_, fun z hz => ?_⟩
              · rw [← hm47, w1_a (by omega), hv53 z hz c hc]
                by_cases e : z = i
                · subst e
                  rw [if_pos (by omega : z < z + 1), ht9.1 c hc, hv z (by omega) c hc, if_neg (by omega : ¬ z < z), ← hby]
                  by_cases qq : c < k
                  · rw [if_pos (by omega)]
                  · have hz9 : by' = 0 := vF_inj (by have := vF_ge by'; rw [vF_0]; omega)
                    rw [if_neg (by omega), hz9]; grind
                · rw [if_neg (by omega), hv z hz c hc]
                  by_cases q : z < i
                  · rw [if_pos q, if_pos (by omega)]
                  · rw [if_neg q, if_neg (by omega)]
              · rw [← hm47]
                by_cases e : z = i
                · rw [e, w1_at, if_pos (by omega), hF53 274 (by omega), hf i (by omega), if_neg (by omega), ht9.2, toF_sub, toF_vF, toF_vF, hby]
                · rw [w1_ne (by omega), hF53 274 (by omega), hf z hz]
                  by_cases q : z < i
                  · rw [if_pos q, if_pos (by omega)]
                  · rw [if_neg q, if_neg (by omega)]
            exact rw_cast (ih16 (by omega) mm46 (some (.int (iI (vF (by'))))) (some (.int (iI (((k : Nat) : Int))))) hA48) (lcons rfl (lcons rfl (lcons rfl (lcons rfl (lcons (lvI (by omega)) (lcons rfl (lcons rfl rfl))))))) rfl
          · skip
            refine rw_of (fun rr hrr => q_iload rfl hrr) ?_
            refine rw_if_le (rg_vF _) (t := 117) rfl (fun hc49 => ?_) (fun hc49 => ?_)
            · skip
              refine rw_blk lk_X10_solves_117 ?_
              refine rw_of (fun rr hrr => q_aload_n rfl (q_getR (show SH 261 = (18, 0) from rfl) rfl (pt_261_15 hP) (q_iload rfl (q_aload_n rfl (q_getR (show SH 261 = (18, 0) from rfl) rfl (pt_261_15 hP) (q_iload rfl (q_iald (j := i) (show SH 274 = (1, 8) from rfl) rfl (by omega) rfl (q_iload rfl (q_aload_n rfl (q_getR (show SH 261 = (18, 0) from rfl) rfl (pt_261_15 hP) (q_iload_n rfl (q_iald (j := t) (show SH 274 = (1, 8) from rfl) rfl (by omega) rfl hrr)))))))))))) ?_
              obtain ⟨_, mm50, pp51, hV52, rfl, rfl, rfl⟩ := c_X10_times (S := S) (fz := fz) (m := m2) (p := p) (d := d) (by omega) (by') (m2 274 t)
              refine rw_of (fun rr hrr => q_invS hV52 rfl rfl (okar_cons rfl (okar_cons rfl okar_nil)) (Nat.le_of_ble_eq_true rfl) (q_isub hrr)) ?_
              obtain ⟨_, mm53, pp54, hV55, rfl, rfl, rfl⟩ := c_X10_rest (S := S) (fz := fz) (m := m2) (p := p) (d := d) (by omega) ((vF (m2 274 i) - vF (by' * (m2 274 t)))) (by have := vF_ge (m2 274 i); have := vF_lt (m2 274 i); have := vF_ge (by' * (m2 274 t)); have := vF_lt (by' * (m2 274 t)); omega)
              refine rw_of (fun rr hrr => q_invS hV55 rfl rfl (okar_cons rfl okar_nil) (Nat.le_of_ble_eq_true rfl) (q_iast (j := i) (xx := toF ((vF (m2 274 i) - vF (by' * (m2 274 t))))) (show SH 274 = (1, 8) from rfl) rfl (by omega) rfl hrr)) ?_
              generalize hm57 : w1 m2 274 i (toF ((vF (m2 274 i) - vF (by' * (m2 274 t))))) = mm56
              refine rw_of (fun rr hrr => q_iinc rfl rfl (q_goto (t := 16) rfl hrr)) ?_
              have hA58 : Fr (fun a_ => a_ = 271 ∨ a_ = 274) m mm56 ∧ (∀ z, z < 8 → ∀ c, c < n → mm56 271 (8 * z + c) = if z < (i + 1) then m 271 (8 * z + c) - slw m t z * m 271 (8 * t + c) else m 271 (8 * z + c)) ∧ ∀ z, z < 8 → mm56 274 z = if z < (i + 1) then m 274 z - slw m t z * m 274 t else m 274 z := by
                refine ⟨fr_w hm57 (Fr_trans hF (Fr_mono hF53 (fun a ha => by omega))) (by omega), fun z hz c hc => ?_, fun z hz => ?_⟩
                · rw [← hm57, w1_a (by omega), hv53 z hz c hc]
                  by_cases e : z = i
                  · subst e
                    rw [if_pos (by omega : z < z + 1), ht9.1 c hc, hv z (by omega) c hc, if_neg (by omega : ¬ z < z), ← hby]
                    by_cases qq : c < k
                    · rw [if_pos (by omega)]
                    · have hz9 : by' = 0 := vF_inj (by have := vF_ge by'; rw [vF_0]; omega)
                      rw [if_neg (by omega), hz9]; grind
                  · rw [if_neg (by omega), hv z hz c hc]
                    by_cases q : z < i
                    · rw [if_pos q, if_pos (by omega)]
                    · rw [if_neg q, if_neg (by omega)]
                · rw [← hm57]
                  by_cases e : z = i
                  · rw [e, w1_at, if_pos (by omega), hF53 274 (by omega), hf i (by omega), if_neg (by omega), ht9.2, toF_sub, toF_vF, toF_vF, hby]
                  · rw [w1_ne (by omega), hF53 274 (by omega), hf z hz]
                    by_cases q : z < i
                    · rw [if_pos q, if_pos (by omega)]
                    · rw [if_neg q, if_neg (by omega)]
              exact rw_cast (ih16 (by omega) mm56 (some (.int (iI (vF (by'))))) (some (.int (iI (((k : Nat) : Int))))) hA58) (lcons rfl (lcons rfl (lcons rfl (lcons rfl (lcons (lvI (by omega)) (lcons rfl (lcons rfl rfl))))))) rfl
            · skip
              refine rw_of (fun rr hrr => q_aload_n rfl (q_getR (show SH 261 = (18, 0) from rfl) rfl (pt_261_12 hP) (q_bipush rfl (q_iload rfl (q_imul (q_iload rfl (q_iadd (q_aload_n rfl (q_getR (show SH 261 = (18, 0) from rfl) rfl (pt_261_12 hP) (q_bipush rfl (q_iload rfl (q_imul (q_iload rfl (q_iadd (q_iald (j := 8 * i + k) (show SH 271 = (1, 64) from rfl) (by omega) (by omega) rfl (q_iload rfl (q_aload_n rfl (q_getR (show SH 261 = (18, 0) from rfl) rfl (pt_261_12 hP) (q_bipush rfl (q_iload_n rfl (q_imul (q_iload rfl (q_iadd (q_iald (j := 8 * t + k) (show SH 271 = (1, 64) from rfl) (by omega) (by omega) rfl hrr)))))))))))))))))))))))) ?_
              obtain ⟨_, mm59, pp60, hV61, rfl, rfl, rfl⟩ := c_X10_times (S := S) (fz := fz) (m := m2) (p := p) (d := d) (by omega) (by') (m2 271 (8 * t + k))
              refine rw_of (fun rr hrr => q_invS hV61 rfl rfl (okar_cons rfl (okar_cons rfl okar_nil)) (Nat.le_of_ble_eq_true rfl) (q_isub hrr)) ?_
              obtain ⟨_, mm62, pp63, hV64, rfl, rfl, rfl⟩ := c_X10_rest (S := S) (fz := fz) (m := m2) (p := p) (d := d) (by omega) ((vF (m2 271 (8 * i + k)) - vF (by' * (m2 271 (8 * t + k))))) (by have := vF_ge (m2 271 (8 * i + k)); have := vF_lt (m2 271 (8 * i + k)); have := vF_ge (by' * (m2 271 (8 * t + k))); have := vF_lt (by' * (m2 271 (8 * t + k))); omega)
              refine rw_of (fun rr hrr => q_invS hV64 rfl rfl (okar_cons rfl okar_nil) (Nat.le_of_ble_eq_true rfl) (q_iast (j := 8 * i + k) (xx := toF ((vF (m2 271 (8 * i + k)) - vF (by' * (m2 271 (8 * t + k)))))) (show SH 271 = (1, 64) from rfl) (by omega) (by omega) rfl hrr)) ?_
              generalize hm66 : w1 m2 271 (8 * i + k) (toF ((vF (m2 271 (8 * i + k)) - vF (by' * (m2 271 (8 * t + k)))))) = mm65
              refine rw_of (fun rr hrr => q_iinc rfl rfl (q_goto (t := 53) rfl hrr)) ?_
              have hA67 : Fr (fun a_ => a_ = 271) m1 mm65 ∧ by' = slw m t i ∧ ∀ z, z < 8 → ∀ c, c < n → mm65 271 (8 * z + c) = if z = i ∧ c < (k + 1) then m1 271 (8 * z + c) - by' * m1 271 (8 * t + c) else m1 271 (8 * z + c) := by
                refine ⟨fr_w hm66 hF53 rfl, hby, fun z hz c hc => ?_⟩
                have hit : i ≠ t := fun e => by
                  have hz9 : vF by' = 0 := by rw [hby, e, slw_t]; rfl
                  omega
                rw [← hm66]
                by_cases e : z = i ∧ c = k
                · obtain ⟨e1, e2⟩ := e
                  subst e1
                  subst e2
                  rw [w1_at, if_pos (by omega), hv53 z hz c hc, if_neg (by omega), hv53 t (by omega) c hc, if_neg (by omega), toF_sub, toF_vF, toF_vF]
                · rw [w1_ne (by omega), hv53 z hz c hc]
                  by_cases q : z = i ∧ c < k
                  · rw [if_pos q, if_pos (by omega)]
                  · rw [if_neg q, if_neg (by omega)]
              exact rw_cast (ih53 (by omega) mm65 by' hA67) (lcons rfl (lcons rfl (lcons rfl (lcons rfl (lcons rfl (lcons (lvI (by rfl)) (lcons (lvI (by omega)) rfl))))))) rfl
        have hA68 : Fr (fun a_ => a_ = 271) m1 m1 ∧ 0 = slw m t i ∧ ∀ z, z < 8 → ∀ c, c < n → m1 271 (8 * z + c) = if z = i ∧ c < 0 then m1 271 (8 * z + c) - 0 * m1 271 (8 * t + c) else m1 271 (8 * z + c) := by
          first
            | exact ⟨Fr_rfl, (show i = t by omega) ▸ slw_t.symm, fun z hz c hc => (if_neg (by omega)).symm⟩
            | exact ⟨Fr_rfl, by rw [slw_n (by omega), hv i (by omega) t ht, if_neg (by omega)], fun z hz c hc => (if_neg (by omega)).symm⟩
        exact rw_cast (hL53 0 (by omega) m1 0 hA68) (lcons rfl (lcons rfl (lcons rfl (lcons rfl (lcons rfl (lcons (lvI (by rfl)) (lcons (lvI (by omega)) rfl))))))) rfl
  exact rw_cast (hL16 0 (by omega) m none none (by exact ⟨Fr_rfl, fun z hz c hc => (if_neg (Nat.not_lt_zero z)).symm, fun z hz => (if_neg (Nat.not_lt_zero z)).symm⟩)) (lcons rfl (lcons rfl (lcons rfl (lcons rfl (lcons (lvI (by omega)) (lcons rfl (lcons rfl rfl))))))) rfl
