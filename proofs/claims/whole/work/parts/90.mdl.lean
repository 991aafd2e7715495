theorem pab_v {n u : Nat} {A : Nat → Nat → F} {b c : Nat → F} (hu : u < n) : pab n A b c (n - (u + 1)) = dot n c (fun i => dot n (flM n A u i) b) := by
  unfold pab
  rw [if_neg (by omega), show n - 1 - (n - (u + 1)) = u by omega]
theorem pbl_v {n u : Nat} {A : Nat → Nat → F} (hu : u < n) : pbl n A (n - (u + 1)) = flt n A (flM n A u) u := by
  unfold pbl
  rw [if_neg (by omega), show n - 1 - (n - (u + 1)) = u by omega]
theorem flM_s {n u : Nat} {A : Nat → Nat → F} {i j : Nat} : flM n A (u + 1) i j = flG n A (flM n A u) i j + if i = j then flt n A (flM n A u) u else 0 := rfl
theorem c_X10_finds {d : Nat} {S : MC} {fz : Bool} {m : M1} {p : M2} (hd : 3 ≤ d) (s n : Nat) (hP : PI p) (hm : m 262 s = nF n) (hn0 : 1 ≤ n) (hn : n ≤ 8) (hs12 : s ≤ 12) : Ct d k_X10_finds S fz [.ref (261), .int (iI (((s : Nat) : Int)))] m p (fun v m' p' => v = none ∧ p = p' ∧ Fr (fun a_ => a_ = 269 ∨ a_ = 270 ∨ a_ = 276 ∨ a_ = 277) m m' ∧ (∀ k, k < 9 → m' 276 k = ctr (n + 1) (pbl n (fun z w => m 263 (64 * s + 8 * z + w))) k) ∧ ∀ k, k < 9 → m' 277 k = ctr n (pab n (fun z w => m 263 (64 * s + 8 * z + w)) (fun z => m 264 (8 * s + z)) (fun z => m 265 (8 * s + z))) k) := by
  obtain ⟨d, rfl⟩ : ∃ e, d = e + 1 := ⟨d - 1, by omega⟩
  refine ct_go (lv := [some (.ref (261)), some (.int (iI (((s : Nat) : Int)))), none, none, none, none, none, none, none, none]) (Nat.le_of_ble_eq_true rfl) (okar_cons rfl (okar_cons rfl okar_nil)) rfl (fun Qr hQ => ?_)
  refine rw_blk lk_X10_finds_0 ?_
  refine rw_of (fun rr hrr => q_aload_n rfl (q_getR (show SH 261 = (18, 0) from rfl) rfl (pt_261_1 hP) (q_iload_n rfl (q_iald (j := s) (show SH 262 = (1, 13) from rfl) rfl (by omega) (ki rfl hm (by omega)) (q_istore_n (Nat.le_of_ble_eq_true rfl) rfl (q_iconst (q_istore_n (Nat.le_of_ble_eq_true rfl) rfl hrr))))))) ?_
  have hL9 : ∀ t, t ≤ 9 → ∀ (m6 : M1), (Fr (fun a_ => a_ = 276 ∨ a_ = 277) m m6 ∧ (∀ k, m6 276 k = if k < t then 0 else m 276 k) ∧ ∀ k, m6 277 k = if k < t then 0 else m 277 k) → Rw (Ev d) k_X10_finds (9, [], [some (.ref (261)), some (.int (iI (((s : Nat) : Int)))), some (.int (iI (((n : Nat) : Int)))), some (.int (iI (((t : Nat) : Int)))), none, none, none, none, none, none], [], hpM S fz (m6, p), 0, 0) Qr := by
    refine loop_any (fun t hi9 ih9 => ?_)
    intro m6
    intro hI9
    obtain ⟨hF6, hB6, hA6⟩ := hI9
    refine rw_blk lk_X10_finds_9 ?_
    refine rw_of (fun rr hrr => q_iload_n rfl (q_bipush rfl hrr)) ?_
    refine rw_icmp_gt ⟨by omega, by omega⟩ ⟨by omega, by omega⟩ (t := 35) rfl (fun hc1 => ?_) (fun hc1 => ?_)
    · skip
      refine rw_blk lk_X10_finds_35 ?_
      refine rw_of (fun rr hrr => q_aload_n rfl (q_getR (show SH 261 = (18, 0) from rfl) rfl (pt_261_17 hP) (q_iload_n rfl (q_iconst (q_iast (j := n) (xx := 1) (show SH 276 = (1, 9) from rfl) rfl (by omega) rfl hrr))))) ?_
      generalize hm3 : w1 m6 276 n 1 = mm2
      refine rw_of (fun rr hrr => q_iconst (q_istore_n (Nat.le_of_ble_eq_true rfl) rfl hrr)) ?_
      have hL44 : ∀ t, t ≤ 64 → ∀ (m7 : M1), (Fr (fun a_ => a_ = 269 ∨ a_ = 276 ∨ a_ = 277) m m7 ∧ (∀ k, k < 9 → m7 276 k = if k = n then 1 else 0) ∧ (∀ k, k < 9 → m7 277 k = 0) ∧ ∀ x, m7 269 x = if x < t then (if x / 8 = x % 8 then 1 else 0) else m 269 x) → Rw (Ev d) k_X10_finds (44, [], [some (.ref (261)), some (.int (iI (((s : Nat) : Int)))), some (.int (iI (((n : Nat) : Int)))), some (.int (iI (((t : Nat) : Int)))), none, none, none, none, none, none], [], hpM S fz (m7, p), 0, 0) Qr := by
        refine loop_any (fun t hi44 ih44 => ?_)
        intro m7
        intro hI44
        obtain ⟨hF7, hB7, hA7, hv7⟩ := hI44
        refine rw_blk lk_X10_finds_44 ?_
        refine rw_of (fun rr hrr => q_iload_n rfl (q_bipush rfl hrr)) ?_
        refine rw_icmp_ge ⟨by omega, by omega⟩ ⟨by omega, by omega⟩ (t := 78) rfl (fun hc4 => ?_) (fun hc4 => ?_)
        · skip
          refine rw_blk lk_X10_finds_78 ?_
          refine rw_of (fun rr hrr => q_iconst (q_istore_n (Nat.le_of_ble_eq_true rfl) rfl hrr)) ?_
          have hL80 : ∀ u, u ≤ n → ∀ (m1 : M1) (x80_4 : Option Value) (x80_5 : Option Value) (x80_6 : Option Value) (x80_7 : Option Value) (x80_8 : Option Value) (x80_9 : Option Value), (Fr (fun a_ => a_ = 269 ∨ a_ = 270 ∨ a_ = 276 ∨ a_ = 277) m m1 ∧ (∀ z, z < n → ∀ w, w < n → m1 269 (8 * z + w) = flM n (fun z w => m 263 (64 * s + 8 * z + w)) u z w) ∧ (∀ k, k < 9 → m1 276 k = if n - u ≤ k ∧ k ≤ n then pbl n (fun z w => m 263 (64 * s + 8 * z + w)) k else 0) ∧ ∀ k, k < 9 → m1 277 k = if n - u ≤ k ∧ k < n then pab n (fun z w => m 263 (64 * s + 8 * z + w)) (fun z => m 264 (8 * s + z)) (fun z => m 265 (8 * s + z)) k else 0) → Rw (Ev d) k_X10_finds (80, [], [some (.ref (261)), some (.int (iI (((s : Nat) : Int)))), some (.int (iI (((n : Nat) : Int)))), some (.int (iI (((u + 1 : Nat) : Int)))), x80_4, x80_5, x80_6, x80_7, x80_8, x80_9], [], hpM S fz (m1, p), 0, 0) Qr := by
            refine loop_any (fun u hi80 ih80 => ?_)
            intro m1 x80_4 x80_5 x80_6 x80_7 x80_8 x80_9
            intro hI80
            obtain ⟨hF, hM, hB, hA⟩ := hI80
            refine rw_blk lk_X10_finds_80 ?_
            refine rw_of (fun rr hrr => q_iload_n rfl (q_iload_n rfl hrr)) ?_
            refine rw_icmp_gt ⟨by omega, by omega⟩ ⟨by omega, by omega⟩ (t := 406) rfl (fun hc5 => ?_) (fun hc5 => ?_)
            · skip
              refine rw_blk lk_X10_finds_406 ?_
              refine rw_ret hQ (q_return) ?_
              
              have e9 : n = u := (by omega)
              subst e9
              refine ⟨rfl, rfl, hF, fun k hk => ?_, fun k hk => ?_⟩
              · rw [hB k hk]
                unfold ctr
                by_cases q : k < n + 1
                · rw [if_pos q, if_pos (by omega)]
                · rw [if_neg q, if_neg (by omega)]
              · rw [hA k hk]
                unfold ctr
                by_cases q : k < n
                · rw [if_pos q, if_pos (by omega)]
                · rw [if_neg q, if_neg (by omega)]
              
            · skip
              refine rw_of (fun rr hrr => q_iconst (q_istore (Nat.le_of_ble_eq_true rfl) rfl (q_iconst (q_istore (Nat.le_of_ble_eq_true rfl) rfl hrr)))) ?_
              have hL91 : ∀ i, i ≤ n → ∀ (x91_6 : Option Value), Rw (Ev d) k_X10_finds (91, [], [some (.ref (261)), some (.int (iI (((s : Nat) : Int)))), some (.int (iI (((n : Nat) : Int)))), some (.int (iI (((u + 1 : Nat) : Int)))), some (.int (iI (vF (sm i (fun z => sm n (fun w => m1 265 (8 * s + z) * m1 269 (8 * z + w) * m1 264 (8 * s + w))))))), some (.int (iI (((i : Nat) : Int)))), x91_6, x80_7, x80_8, x80_9], [], hpM S fz (m1, p), 0, 0) Qr := by
                refine loop_any (fun i hi91 ih91 => ?_)
                intro x91_6
                refine rw_blk lk_X10_finds_91 ?_
                refine rw_of (fun rr hrr => q_iload rfl (q_iload_n rfl hrr)) ?_
                refine rw_icmp_ge ⟨by omega, by omega⟩ ⟨by omega, by omega⟩ (t := 170) rfl (fun hc6 => ?_) (fun hc6 => ?_)
                · skip
                  refine rw_blk lk_X10_finds_170 ?_
                  refine rw_of (fun rr hrr => q_aload_n rfl (q_getR (show SH 261 = (18, 0) from rfl) rfl (pt_261_18 hP) (q_iload_n rfl (q_iload_n rfl (q_isub (q_iload rfl (q_iast (j := n - (u + 1)) (xx := sm i (fun z => sm n (fun w => m1 265 (8 * s + z) * m1 269 (8 * z + w) * m1 264 (8 * s + w)))) (show SH 277 = (1, 9) from rfl) (by omega) (by omega) rfl hrr))))))) ?_
                  generalize hm8 : w1 m1 277 (n - (u + 1)) (sm i (fun z => sm n (fun w => m1 265 (8 * s + z) * m1 269 (8 * z + w) * m1 264 (8 * s + w)))) = mm7
                  refine rw_of (fun rr hrr => q_iconst (q_istore (Nat.le_of_ble_eq_true rfl) rfl (q_iconst (q_istore (Nat.le_of_ble_eq_true rfl) rfl hrr)))) ?_
                  have hL186 : ∀ i2, i2 ≤ n → ∀ (m2 : M1) (x186_7 : Option Value) (x186_8 : Option Value) (x186_9 : Option Value), (Fr (fun a_ => a_ = 270 ∨ a_ = 277) m1 m2 ∧ (∀ k, m2 277 k = if k = n - (u + 1) then pab n (fun z w => m 263 (64 * s + 8 * z + w)) (fun z => m 264 (8 * s + z)) (fun z => m 265 (8 * s + z)) k else m1 277 k) ∧ ∀ z, z < i2 → ∀ w, w < n → m2 270 (8 * z + w) = flG n (fun z w => m 263 (64 * s + 8 * z + w)) (flM n (fun z w => m 263 (64 * s + 8 * z + w)) u) z w) → Rw (Ev d) k_X10_finds (186, [], [some (.ref (261)), some (.int (iI (((s : Nat) : Int)))), some (.int (iI (((n : Nat) : Int)))), some (.int (iI (((u + 1 : Nat) : Int)))), some (.int (iI (vF (sm i (fun z => sm n (fun w => m1 265 (8 * s + z) * m1 269 (8 * z + w) * m1 264 (8 * s + w))))))), some (.int (iI (sI i2 (fun z => flG n (fun z w => m 263 (64 * s + 8 * z + w)) (flM n (fun z w => m 263 (64 * s + 8 * z + w)) u) z z)))), some (.int (iI (((i2 : Nat) : Int)))), x186_7, x186_8, x186_9], [], hpM S fz (m2, p), 0, 0) Qr := by
                    refine loop_any (fun i2 hi186 ih186 => ?_)
                    intro m2 x186_7 x186_8 x186_9
                    intro hI186
                    obtain ⟨hF2, h277, h270⟩ := hI186
                    refine rw_blk lk_X10_finds_186 ?_
                    refine rw_of (fun rr hrr => q_iload rfl (q_iload_n rfl hrr)) ?_
                    refine rw_icmp_ge ⟨by omega, by omega⟩ ⟨by omega, by omega⟩ (t := 295) rfl (fun hc9 => ?_) (fun hc9 => ?_)
                    · skip
                      refine rw_blk lk_X10_finds_295 ?_
                      refine rw_of (fun rr hrr => q_aload_n rfl (q_getR (show SH 261 = (18, 0) from rfl) rfl (pt_261_17 hP) (q_iload_n rfl (q_iload_n rfl (q_isub (q_iload rfl (q_sipush rfl (q_irem (sI_rg (by omega)) ⟨by omega, by omega⟩ (by omega) (by exact sI_rem _ _) (q_iload_n rfl hrr))))))))) ?_
                      obtain ⟨_, mm10, pp11, hV12, rfl, rfl, rfl⟩ := c_X10_inverse (S := S) (fz := fz) (m := m2) (p := p) (d := d) (by omega) (nF (u + 1))
                      refine rw_of (fun rr hrr => q_invS (rest := [.int (iI (vF (sm i2 (fun z => flG n (fun z w => m 263 (64 * s + 8 * z + w)) (flM n (fun z w => m 263 (64 * s + 8 * z + w)) u) z z)))), .int (iI ((((n : Nat) : Int) - ((u + 1 : Nat) : Int)))), .ref (276)]) hV12 (by rw [show (((u + 1 : Nat) : Int) : Int) = vF (nF (u + 1)) from ((show (((u + 1 : Nat) : Int) : Int) = ((u + 1 : Nat) : Int) by omega).trans (vF_nF (by omega)).symm)]; rfl) rfl (okar_cons rfl okar_nil) (Nat.le_of_ble_eq_true rfl) hrr) ?_
                      obtain ⟨_, mm13, pp14, hV15, rfl, rfl, rfl⟩ := c_X10_times (S := S) (fz := fz) (m := m2) (p := p) (d := d) (by omega) (sm i2 (fun z => flG n (fun z w => m 263 (64 * s + 8 * z + w)) (flM n (fun z w => m 263 (64 * s + 8 * z + w)) u) z z)) (iv (nF (u + 1)))
                      refine rw_of (fun rr hrr => q_invS hV15 rfl rfl (okar_cons rfl (okar_cons rfl okar_nil)) (Nat.le_of_ble_eq_true rfl) (q_ineg hrr)) ?_
                      obtain ⟨_, mm16, pp17, hV18, rfl, rfl, rfl⟩ := c_X10_rest (S := S) (fz := fz) (m := m2) (p := p) (d := d) (by omega) ((-vF ((sm i2 (fun z => flG n (fun z w => m 263 (64 * s + 8 * z + w)) (flM n (fun z w => m 263 (64 * s + 8 * z + w)) u) z z)) * (iv (nF (u + 1)))))) (by have := vF_ge ((sm i2 (fun z => flG n (fun z w => m 263 (64 * s + 8 * z + w)) (flM n (fun z w => m 263 (64 * s + 8 * z + w)) u) z z)) * (iv (nF (u + 1)))); have := vF_lt ((sm i2 (fun z => flG n (fun z w => m 263 (64 * s + 8 * z + w)) (flM n (fun z w => m 263 (64 * s + 8 * z + w)) u) z z)) * (iv (nF (u + 1)))); omega)
                      refine rw_of (fun rr hrr => q_invS hV18 rfl rfl (okar_cons rfl okar_nil) (Nat.le_of_ble_eq_true rfl) (q_iast (j := n - (u + 1)) (xx := toF ((-vF ((sm i2 (fun z => flG n (fun z w => m 263 (64 * s + 8 * z + w)) (flM n (fun z w => m 263 (64 * s + 8 * z + w)) u) z z)) * (iv (nF (u + 1))))))) (show SH 276 = (1, 9) from rfl) (by omega) (by omega) rfl hrr)) ?_
                      generalize hm20 : w1 m2 276 (n - (u + 1)) (toF ((-vF ((sm i2 (fun z => flG n (fun z w => m 263 (64 * s + 8 * z + w)) (flM n (fun z w => m 263 (64 * s + 8 * z + w)) u) z z)) * (iv (nF (u + 1))))))) = mm19
                      refine rw_of (fun rr hrr => q_iconst (q_istore (Nat.le_of_ble_eq_true rfl) rfl hrr)) ?_
                      have hL323 : ∀ i3, i3 ≤ n → ∀ (m4 : M1) (x323_7 : Option Value), (Fr (fun a_ => a_ = 269 ∨ a_ = 276) m2 m4 ∧ (∀ k, m4 276 k = if k = n - (u + 1) then pbl n (fun z w => m 263 (64 * s + 8 * z + w)) k else m1 276 k) ∧ ∀ z, z < i3 → ∀ w, w < n → m4 269 (8 * z + w) = flM n (fun z w => m 263 (64 * s + 8 * z + w)) (u + 1) z w) → Rw (Ev d) k_X10_finds (323, [], [some (.ref (261)), some (.int (iI (((s : Nat) : Int)))), some (.int (iI (((n : Nat) : Int)))), some (.int (iI (((u + 1 : Nat) : Int)))), some (.int (iI (vF (sm i (fun z => sm n (fun w => m1 265 (8 * s + z) * m1 269 (8 * z + w) * m1 264 (8 * s + w))))))), some (.int (iI (sI i2 (fun z => flG n (fun z w => m 263 (64 * s + 8 * z + w)) (flM n (fun z w => m 263 (64 * s + 8 * z + w)) u) z z)))), some (.int (iI (((i3 : Nat) : Int)))), x323_7, x186_8, x186_9], [], hpM S fz (m4, p), 0, 0) Qr := by
                        refine loop_any (fun i3 hi323 ih323 => ?_)
                        intro m4 x323_7
                        intro hI323
                        obtain ⟨hF4, h276, h4⟩ := hI323
                        refine rw_blk lk_X10_finds_323 ?_
                        refine rw_of (fun rr hrr => q_iload rfl (q_iload_n rfl hrr)) ?_
                        refine rw_icmp_ge ⟨by omega, by omega⟩ ⟨by omega, by omega⟩ (t := 400) rfl (fun hc21 => ?_) (fun hc21 => ?_)
                        · skip
                          refine rw_blk lk_X10_finds_400 ?_
                          refine rw_of (fun rr hrr => q_iinc rfl rfl (q_goto (t := 80) rfl hrr)) ?_
                          have hA22 : Fr (fun a_ => a_ = 269 ∨ a_ = 270 ∨ a_ = 276 ∨ a_ = 277) m m4 ∧ (∀ z, z < n → ∀ w, w < n → m4 269 (8 * z + w) = flM n (fun z w => m 263 (64 * s + 8 * z + w)) (u + 1) z w) ∧ (∀ k, k < 9 → m4 276 k = if n - (u + 1) ≤ k ∧ k ≤ n then pbl n (fun z w => m 263 (64 * s + 8 * z + w)) k else 0) ∧ ∀ k, k < 9 → m4 277 k = if n - (u + 1) ≤ k ∧ k < n then pab n (fun z w => m 263 (64 * s + 8 * z + w)) (fun z => m 264 (8 * s + z)) (fun z => m 265 (8 * s + z)) k else 0 := by
                            refine ⟨Fr_trans hF (Fr_trans (Fr_mono hF2 (fun a ha => by omega)) (Fr_mono hF4 (fun a ha => by omega))), fun z hz w hw => h4 z (by omega) w hw, fun k hk => ?_, fun k hk => ?_⟩
                            · rw [h276 k]
                              by_cases q : k = n - (u + 1)
                              · rw [if_pos q, if_pos (by omega)]
                              · rw [if_neg q, hB k hk]
                                by_cases c : n - u ≤ k ∧ k ≤ n
                                · rw [if_pos c, if_pos (by omega)]
                                · rw [if_neg c, if_neg (by omega)]
                            · rw [hF4 277 (by omega), h277 k]
                              by_cases q : k = n - (u + 1)
                              · rw [if_pos q, if_pos (by omega)]
                              · rw [if_neg q, hA k hk]
                                by_cases c : n - u ≤ k ∧ k < n
                                · rw [if_pos c, if_pos (by omega)]
                                · rw [if_neg c, if_neg (by omega)]
                          exact rw_cast (ih80 (by omega) m4 (some (.int (iI (vF (sm i (fun z => sm n (fun w => m1 265 (8 * s + z) * m1 269 (8 * z + w) * m1 264 (8 * s + w)))))))) (some (.int (iI (sI i2 (fun z => flG n (fun z w => m 263 (64 * s + 8 * z + w)) (flM n (fun z w => m 263 (64 * s + 8 * z + w)) u) z z))))) (some (.int (iI (((i3 : Nat) : Int))))) x323_7 x186_8 x186_9 hA22) (lcons rfl (lcons rfl (lcons rfl (lcons (lvI (by omega)) (lcons rfl (lcons rfl (lcons rfl (lcons rfl (lcons rfl (lcons rfl rfl)))))))))) rfl
                        · skip
                          refine rw_of (fun rr hrr => q_iconst (q_istore (Nat.le_of_ble_eq_true rfl) rfl hrr)) ?_
                          have hL332 : ∀ j3, j3 ≤ n → ∀ (m5 : M1), (Fr (fun a_ => a_ = 269) m4 m5 ∧ (∀ w, w < j3 → m5 269 (8 * i3 + w) = flM n (fun z w => m 263 (64 * s + 8 * z + w)) (u + 1) i3 w) ∧ ∀ z, z < 8 → z ≠ i3 → ∀ w, w < 8 → m5 269 (8 * z + w) = m4 269 (8 * z + w)) → Rw (Ev d) k_X10_finds (332, [], [some (.ref (261)), some (.int (iI (((s : Nat) : Int)))), some (.int (iI (((n : Nat) : Int)))), some (.int (iI (((u + 1 : Nat) : Int)))), some (.int (iI (vF (sm i (fun z => sm n (fun w => m1 265 (8 * s + z) * m1 269 (8 * z + w) * m1 264 (8 * s + w))))))), some (.int (iI (sI i2 (fun z => flG n (fun z w => m 263 (64 * s + 8 * z + w)) (flM n (fun z w => m 263 (64 * s + 8 * z + w)) u) z z)))), some (.int (iI (((i3 : Nat) : Int)))), some (.int (iI (((j3 : Nat) : Int)))), x186_8, x186_9], [], hpM S fz (m5, p), 0, 0) Qr := by
                            refine loop_any (fun j3 hi332 ih332 => ?_)
                            intro m5
                            intro hI332
                            obtain ⟨hF5, h5, h5'⟩ := hI332
                            refine rw_blk lk_X10_finds_332 ?_
                            refine rw_of (fun rr hrr => q_iload rfl (q_iload_n rfl hrr)) ?_
                            refine rw_icmp_ge ⟨by omega, by omega⟩ ⟨by omega, by omega⟩ (t := 394) rfl (fun hc23 => ?_) (fun hc23 => ?_)
                            · skip
                              refine rw_blk lk_X10_finds_394 ?_
                              refine rw_of (fun rr hrr => q_iinc rfl rfl (q_goto (t := 323) rfl hrr)) ?_
                              have hA24 : Fr (fun a_ => a_ = 269 ∨ a_ = 276) m2 m5 ∧ (∀ k, m5 276 k = if k = n - (u + 1) then pbl n (fun z w => m 263 (64 * s + 8 * z + w)) k else m1 276 k) ∧ ∀ z, z < (i3 + 1) → ∀ w, w < n → m5 269 (8 * z + w) = flM n (fun z w => m 263 (64 * s + 8 * z + w)) (u + 1) z w := by
                                refine ⟨Fr_trans hF4 (Fr_mono hF5 (fun a ha => by omega)), fun k => ?_, fun z hz w hw => ?_⟩
                                · rw [hF5 276 (by omega)]
                                  exact h276 k
                                · by_cases q : z = i3
                                  · rw [q]
                                    exact h5 w (by omega)
                                  · rw [h5' z (by omega) q w (by omega)]
                                    exact h4 z (by omega) w hw
                              exact rw_cast (ih323 (by omega) m5 (some (.int (iI (((j3 : Nat) : Int))))) hA24) (lcons rfl (lcons rfl (lcons rfl (lcons rfl (lcons rfl (lcons rfl (lcons (lvI (by omega)) (lcons rfl (lcons rfl (lcons rfl rfl)))))))))) rfl
                            · skip
                              refine rw_of (fun rr hrr => q_aload_n rfl (q_getR (show SH 261 = (18, 0) from rfl) rfl (pt_261_10 hP) (q_bipush rfl (q_iload rfl (q_imul (q_iload rfl (q_iadd (q_aload_n rfl (q_getR (show SH 261 = (18, 0) from rfl) rfl (pt_261_11 hP) (q_bipush rfl (q_iload rfl (q_imul (q_iload rfl (q_iadd (q_iald (j := 8 * i3 + j3) (show SH 270 = (1, 64) from rfl) (by omega) (by omega) rfl (q_iload rfl (q_iload rfl hrr))))))))))))))))) ?_
                              refine rw_icmp_ne ⟨by omega, by omega⟩ ⟨by omega, by omega⟩ (t := 381) rfl (fun hc25 => ?_) (fun hc25 => ?_)
                              · skip
                                refine rw_blk lk_X10_finds_381 ?_
                                refine rw_of (fun rr hrr => q_iconst hrr) ?_
                                refine rw_blk lk_X10_finds_382 ?_
                                refine rw_of (fun rr hrr => q_iadd (q_sipush rfl (q_irem (by have := vF_ge (m5 270 (8 * i3 + j3)); have := vF_lt (m5 270 (8 * i3 + j3)); exact ⟨by omega, by omega⟩) ⟨by omega, by omega⟩ (by omega) (remF (by have := vF_ge (m5 270 (8 * i3 + j3)); have := vF_lt (m5 270 (8 * i3 + j3)); omega) (show toF ((vF (m5 270 (8 * i3 + j3)) + 0)) = (m5 270 (8 * i3 + j3)) by simp only [toF_add, toF_mul, toF_sub, toF_neg, toF_vF, toF_0, toF_1, toF_M, F_add0, F_0sub])) (q_iast (j := 8 * i3 + j3) (xx := (m5 270 (8 * i3 + j3))) (show SH 269 = (1, 64) from rfl) (by omega) (by omega) rfl hrr)))) ?_
                                generalize hm27 : w1 m5 269 (8 * i3 + j3) ((m5 270 (8 * i3 + j3))) = mm26
                                refine rw_of (fun rr hrr => q_iinc rfl rfl (q_goto (t := 332) rfl hrr)) ?_
                                have hA28 : Fr (fun a_ => a_ = 269) m4 mm26 ∧ (∀ w, w < (j3 + 1) → mm26 269 (8 * i3 + w) = flM n (fun z w => m 263 (64 * s + 8 * z + w)) (u + 1) i3 w) ∧ ∀ z, z < 8 → z ≠ i3 → ∀ w, w < 8 → mm26 269 (8 * z + w) = m4 269 (8 * z + w) := by
                                  have e1 : m5 270 (8 * i3 + j3) = flG n (fun z w => m 263 (64 * s + 8 * z + w)) (flM n (fun z w => m 263 (64 * s + 8 * z + w)) u) i3 j3 := by
                                    rw [hF5 270 (by omega), hF4 270 (by omega)]
                                    exact h270 i3 (by omega) j3 (by omega)
                                  have e2 : m5 276 (n - (u + 1)) = flt n (fun z w => m 263 (64 * s + 8 * z + w)) (flM n (fun z w => m 263 (64 * s + 8 * z + w)) u) u := by
                                    rw [hF5 276 (by omega), h276, if_pos rfl, pbl_v (by omega)]
                                  refine ⟨fr_w hm27 hF5 rfl, fun w hw => ?_, fun z hz hzi w hw => ?_⟩
                                  · rw [← hm27]
                                    by_cases q : w = j3
                                    · rw [q, w1_at, flM_s]
                                      first
                                        | rw [e1, e2, if_pos (by omega)]
                                        | rw [e1, if_neg (by omega), F_add0]
                                    · rw [w1_ne (by omega)]
                                      exact h5 w (by omega)
                                  · rw [← hm27, w1_ne (by omega)]
                                    exact h5' z hz hzi w hw
                                exact rw_cast (ih332 (by omega) mm26 hA28) (lcons rfl (lcons rfl (lcons rfl (lcons rfl (lcons rfl (lcons rfl (lcons rfl (lcons (lvI (by omega)) (lcons rfl (lcons rfl rfl)))))))))) rfl
                              · skip
                                refine rw_of (fun rr hrr => q_aload_n rfl (q_getR (show SH 261 = (18, 0) from rfl) rfl (pt_261_17 hP) (q_iload_n rfl (q_iload_n rfl (q_isub (q_iald (j := n - (u + 1)) (show SH 276 = (1, 9) from rfl) (by omega) (by omega) rfl (q_goto (t := 382) rfl hrr))))))) ?_
                                refine rw_blk lk_X10_finds_382 ?_
                                refine rw_of (fun rr hrr => q_iadd (q_sipush rfl (q_irem (by have := vF_ge (m5 270 (8 * i3 + j3)); have := vF_lt (m5 270 (8 * i3 + j3)); have := vF_ge (m5 276 (n - (u + 1))); have := vF_lt (m5 276 (n - (u + 1))); exact ⟨by omega, by omega⟩) ⟨by omega, by omega⟩ (by omega) (remF (by have := vF_ge (m5 270 (8 * i3 + j3)); have := vF_lt (m5 270 (8 * i3 + j3)); have := vF_ge (m5 276 (n - (u + 1))); have := vF_lt (m5 276 (n - (u + 1))); omega) (show toF ((vF (m5 270 (8 * i3 + j3)) + vF (m5 276 (n - (u + 1))))) = ((m5 270 (8 * i3 + j3)) + (m5 276 (n - (u + 1)))) by simp only [toF_add, toF_mul, toF_sub, toF_neg, toF_vF, toF_0, toF_1, toF_M, F_add0, F_0sub])) (q_iast (j := 8 * i3 + j3) (xx := ((m5 270 (8 * i3 + j3)) + (m5 276 (n - (u + 1))))) (show SH 269 = (1, 64) from rfl) (by omega) (by omega) rfl hrr)))) ?_
                                generalize hm30 : w1 m5 269 (8 * i3 + j3) (((m5 270 (8 * i3 + j3)) + (m5 276 (n - (u + 1))))) = mm29
                                refine rw_of (fun rr hrr => q_iinc rfl rfl (q_goto (t := 332) rfl hrr)) ?_
                                have hA31 : Fr (fun a_ => a_ = 269) m4 mm29 ∧ (∀ w, w < (j3 + 1) → mm29 269 (8 * i3 + w) = flM n (fun z w => m 263 (64 * s + 8 * z + w)) (u + 1) i3 w) ∧ ∀ z, z < 8 → z ≠ i3 → ∀ w, w < 8 → mm29 269 (8 * z + w) = m4 269 (8 * z + w) := by
                                  have e1 : m5 270 (8 * i3 + j3) = flG n (fun z w => m 263 (64 * s + 8 * z + w)) (flM n (fun z w => m 263 (64 * s + 8 * z + w)) u) i3 j3 := by
                                    rw [hF5 270 (by omega), hF4 270 (by omega)]
                                    exact h270 i3 (by omega) j3 (by omega)
                                  have e2 : m5 276 (n - (u + 1)) = flt n (fun z w => m 263 (64 * s + 8 * z + w)) (flM n (fun z w => m 263 (64 * s + 8 * z + w)) u) u := by
                                    rw [hF5 276 (by omega), h276, if_pos rfl, pbl_v (by omega)]
                                  refine ⟨fr_w hm30 hF5 rfl, fun w hw => ?_, fun z hz hzi w hw => ?_⟩
                                  · rw [← hm30]
                                    by_cases q : w = j3
                                    · rw [q, w1_at, flM_s]
                                      first
                                        | rw [e1, e2, if_pos (by omega)]
                                        | rw [e1, if_neg (by omega), F_add0]
                                    · rw [w1_ne (by omega)]
                                      exact h5 w (by omega)
                                  · rw [← hm30, w1_ne (by omega)]
                                    exact h5' z hz hzi w hw
                                exact rw_cast (ih332 (by omega) mm29 hA31) (lcons rfl (lcons rfl (lcons rfl (lcons rfl (lcons rfl (lcons rfl (lcons rfl (lcons (lvI (by omega)) (lcons rfl (lcons rfl rfl)))))))))) rfl
                          exact rw_cast (hL332 0 (by omega) m4 (by exact ⟨Fr_rfl, fun w hw => absurd hw (Nat.not_lt_zero w), fun _ _ _ _ _ => rfl⟩)) (lcons rfl (lcons rfl (lcons rfl (lcons rfl (lcons rfl (lcons rfl (lcons rfl (lcons (lvI (by omega)) (lcons rfl (lcons rfl rfl)))))))))) rfl
                      have hA32 : Fr (fun a_ => a_ = 269 ∨ a_ = 276) m2 mm19 ∧ (∀ k, mm19 276 k = if k = n - (u + 1) then pbl n (fun z w => m 263 (64 * s + 8 * z + w)) k else m1 276 k) ∧ ∀ z, z < 0 → ∀ w, w < n → mm19 269 (8 * z + w) = flM n (fun z w => m 263 (64 * s + 8 * z + w)) (u + 1) z w := by
                        refine ⟨fr_w hm20 Fr_rfl (by omega), fun k => ?_, fun z hz => absurd hz (Nat.not_lt_zero z)⟩
                        rw [← hm20]
                        by_cases q : k = n - (u + 1)
                        · rw [q, w1_at, if_pos rfl, pbl_v (by omega), toF_neg, toF_vF, show i2 = n by omega]
                          show _ = (0 - sm n (fun z => flG n (fun z w => m 263 (64 * s + 8 * z + w)) (flM n (fun z w => m 263 (64 * s + 8 * z + w)) u) z z)) * iv (nF (u + 1))
                          grind
                        · rw [w1_ne (fun w => q w.2), if_neg q, hF2 276 (by omega)]
                      exact rw_cast (hL323 0 (by omega) mm19 x186_7 hA32) (lcons rfl (lcons rfl (lcons rfl (lcons rfl (lcons rfl (lcons rfl (lcons (lvI (by omega)) (lcons rfl (lcons rfl (lcons rfl rfl)))))))))) rfl
                    · skip
                      refine rw_of (fun rr hrr => q_iconst (q_istore (Nat.le_of_ble_eq_true rfl) rfl hrr)) ?_
                      have hL195 : ∀ j2, j2 ≤ n → ∀ (m3 : M1) (x195_8 : Option Value) (x195_9 : Option Value), (Fr (fun a_ => a_ = 270) m2 m3 ∧ (∀ w, w < j2 → m3 270 (8 * i2 + w) = flG n (fun z w => m 263 (64 * s + 8 * z + w)) (flM n (fun z w => m 263 (64 * s + 8 * z + w)) u) i2 w) ∧ ∀ z, z < 8 → z ≠ i2 → ∀ w, w < 8 → m3 270 (8 * z + w) = m2 270 (8 * z + w)) → Rw (Ev d) k_X10_finds (195, [], [some (.ref (261)), some (.int (iI (((s : Nat) : Int)))), some (.int (iI (((n : Nat) : Int)))), some (.int (iI (((u + 1 : Nat) : Int)))), some (.int (iI (vF (sm i (fun z => sm n (fun w => m1 265 (8 * s + z) * m1 269 (8 * z + w) * m1 264 (8 * s + w))))))), some (.int (iI (sI i2 (fun z => flG n (fun z w => m 263 (64 * s + 8 * z + w)) (flM n (fun z w => m 263 (64 * s + 8 * z + w)) u) z z)))), some (.int (iI (((i2 : Nat) : Int)))), some (.int (iI (((j2 : Nat) : Int)))), x195_8, x195_9], [], hpM S fz (m3, p), 0, 0) Qr := by
                        refine loop_any (fun j2 hi195 ih195 => ?_)
                        intro m3 x195_8 x195_9
                        intro hI195
                        obtain ⟨hF3, h3, h3'⟩ := hI195
                        refine rw_blk lk_X10_finds_195 ?_
                        refine rw_of (fun rr hrr => q_iload rfl (q_iload_n rfl hrr)) ?_
                        refine rw_icmp_ge ⟨by omega, by omega⟩ ⟨by omega, by omega⟩ (t := 274) rfl (fun hc33 => ?_) (fun hc33 => ?_)
                        · skip
                          refine rw_blk lk_X10_finds_274 ?_
                          refine rw_of (fun rr hrr => q_iload rfl (q_aload_n rfl (q_getR (show SH 261 = (18, 0) from rfl) rfl (pt_261_11 hP) (q_bipush rfl (q_iload rfl (q_imul (q_iald (j := 9 * i2) (show SH 270 = (1, 64) from rfl) (by omega) (by omega) rfl (q_iadd (q_istore (Nat.le_of_ble_eq_true rfl) rfl (q_iinc rfl rfl (q_goto (t := 186) rfl hrr))))))))))) ?_
                          have hA34 : Fr (fun a_ => a_ = 270 ∨ a_ = 277) m1 m3 ∧ (∀ k, m3 277 k = if k = n - (u + 1) then pab n (fun z w => m 263 (64 * s + 8 * z + w)) (fun z => m 264 (8 * s + z)) (fun z => m 265 (8 * s + z)) k else m1 277 k) ∧ ∀ z, z < (i2 + 1) → ∀ w, w < n → m3 270 (8 * z + w) = flG n (fun z w => m 263 (64 * s + 8 * z + w)) (flM n (fun z w => m 263 (64 * s + 8 * z + w)) u) z w := by
                            refine ⟨Fr_trans hF2 (Fr_mono hF3 (fun a ha => by omega)), fun k => ?_, fun z hz w hw => ?_⟩
                            · rw [hF3 277 (by omega)]
                              exact h277 k
                            · by_cases q : z = i2
                              · rw [q]
                                exact h3 w (by omega)
                              · rw [h3' z (by omega) q w (by omega)]
                                exact h270 z (by omega) w hw
                          exact rw_cast (ih186 (by omega) m3 (some (.int (iI (((j2 : Nat) : Int))))) x195_8 x195_9 hA34) (lcons rfl (lcons rfl (lcons rfl (lcons rfl (lcons rfl (lcons (lvI (by show sI i2 _ + _ = sI i2 _ + _; rw [show 9 * i2 = 8 * i2 + i2 by omega, h3 i2 (by omega)])) (lcons (lvI (by omega)) (lcons rfl (lcons rfl (lcons rfl rfl)))))))))) rfl
                        · skip
                          refine rw_of (fun rr hrr => q_iconst (q_istore (Nat.le_of_ble_eq_true rfl) rfl (q_iconst (q_istore (Nat.le_of_ble_eq_true rfl) rfl hrr)))) ?_
                          have hL207 : ∀ k2, k2 ≤ n → Rw (Ev d) k_X10_finds (207, [], [some (.ref (261)), some (.int (iI (((s : Nat) : Int)))), some (.int (iI (((n : Nat) : Int)))), some (.int (iI (((u + 1 : Nat) : Int)))), some (.int (iI (vF (sm i (fun z => sm n (fun w => m1 265 (8 * s + z) * m1 269 (8 * z + w) * m1 264 (8 * s + w))))))), some (.int (iI (sI i2 (fun z => flG n (fun z w => m 263 (64 * s + 8 * z + w)) (flM n (fun z w => m 263 (64 * s + 8 * z + w)) u) z z)))), some (.int (iI (((i2 : Nat) : Int)))), some (.int (iI (((j2 : Nat) : Int)))), some (.int (iI (sI k2 (fun z => m3 263 (64 * s + 8 * i2 + z) * m3 269 (8 * z + j2))))), some (.int (iI (((k2 : Nat) : Int))))], [], hpM S fz (m3, p), 0, 0) Qr := by
                            refine loop_any (fun k2 hi207 ih207 => ?_)
                            refine rw_blk lk_X10_finds_207 ?_
                            refine rw_of (fun rr hrr => q_iload rfl (q_iload_n rfl hrr)) ?_
                            refine rw_icmp_ge ⟨by omega, by omega⟩ ⟨by omega, by omega⟩ (t := 249) rfl (fun hc35 => ?_) (fun hc35 => ?_)
                            · skip
                              refine rw_blk lk_X10_finds_249 ?_
                              refine rw_of (fun rr hrr => q_aload_n rfl (q_getR (show SH 261 = (18, 0) from rfl) rfl (pt_261_11 hP) (q_bipush rfl (q_iload rfl (q_imul (q_iload rfl (q_iadd (q_iload rfl (q_sipush rfl (q_irem (sI_rg (by omega)) ⟨by omega, by omega⟩ (by omega) (by exact sI_rem _ _) (q_iast (j := 8 * i2 + j2) (xx := sm k2 (fun z => m3 263 (64 * s + 8 * i2 + z) * m3 269 (8 * z + j2))) (show SH 270 = (1, 64) from rfl) (by omega) (by omega) rfl hrr))))))))))) ?_
                              generalize hm37 : w1 m3 270 (8 * i2 + j2) (sm k2 (fun z => m3 263 (64 * s + 8 * i2 + z) * m3 269 (8 * z + j2))) = mm36
                              refine rw_of (fun rr hrr => q_iinc rfl rfl (q_goto (t := 195) rfl hrr)) ?_
                              have hA38 : Fr (fun a_ => a_ = 270) m2 mm36 ∧ (∀ w, w < (j2 + 1) → mm36 270 (8 * i2 + w) = flG n (fun z w => m 263 (64 * s + 8 * z + w)) (flM n (fun z w => m 263 (64 * s + 8 * z + w)) u) i2 w) ∧ ∀ z, z < 8 → z ≠ i2 → ∀ w, w < 8 → mm36 270 (8 * z + w) = m2 270 (8 * z + w) := by
                                refine ⟨fr_w hm37 hF3 rfl, fun w hw => ?_, fun z hz hzi w hw => ?_⟩
                                · rw [← hm37]
                                  by_cases q : w = j2
                                  · rw [q, w1_at, show k2 = n by omega]
                                    exact dot_congr (fun c hc => show m3 263 _ = m 263 _ by rw [hF3 263 (by omega), hF2 263 (by omega), hF 263 (by omega)]) (fun c hc => by rw [hF3 269 (by omega), hF2 269 (by omega)]; exact hM c hc j2 (by omega))
                                  · rw [w1_ne (by omega)]
                                    exact h3 w (by omega)
                                · rw [← hm37, w1_ne (by omega)]
                                  exact h3' z hz hzi w hw
                              exact rw_cast (ih195 (by omega) mm36 (some (.int (iI (sI k2 (fun z => m3 263 (64 * s + 8 * i2 + z) * m3 269 (8 * z + j2)))))) (some (.int (iI (((k2 : Nat) : Int))))) hA38) (lcons rfl (lcons rfl (lcons rfl (lcons rfl (lcons rfl (lcons rfl (lcons rfl (lcons (lvI (by omega)) (lcons rfl (lcons rfl rfl)))))))))) rfl
                            · skip
                              refine rw_of (fun rr hrr => q_iload rfl (q_aload_n rfl (q_iload_n rfl (q_iload rfl (q_iload rfl hrr))))) ?_
                              obtain ⟨_, mm39, pp40, hV41, rfl, rfl, rfl⟩ := c_X10_square (S := S) (fz := fz) (m := m3) (p := p) (d := d) (by omega) (s) (i2) (k2) hP (by omega) (by omega) (by omega)
                              refine rw_of (fun rr hrr => q_invV hV41 (show SH 261 = (18, 0) from rfl) rfl rfl (okar_cons rfl (okar_cons rfl (okar_cons rfl okar_nil))) (Nat.le_of_ble_eq_true rfl) (q_aload_n rfl (q_getR (show SH 261 = (18, 0) from rfl) rfl (pt_261_10 hP) (q_bipush rfl (q_iload rfl (q_imul (q_iload rfl (q_iadd (q_iald (j := 8 * k2 + j2) (show SH 269 = (1, 64) from rfl) (by omega) (by omega) rfl hrr))))))))) ?_
                              obtain ⟨_, mm42, pp43, hV44, rfl, rfl, rfl⟩ := c_X10_times (S := S) (fz := fz) (m := m3) (p := p) (d := d) (by omega) (m3 263 (64 * s + 8 * i2 + k2)) (m3 269 (8 * k2 + j2))
                              refine rw_of (fun rr hrr => q_invS hV44 rfl rfl (okar_cons rfl (okar_cons rfl okar_nil)) (Nat.le_of_ble_eq_true rfl) (q_iadd (q_istore (Nat.le_of_ble_eq_true rfl) rfl (q_iinc rfl rfl (q_goto (t := 207) rfl hrr))))) ?_
                              exact rw_cast (ih207 (by omega)) (lcons rfl (lcons rfl (lcons rfl (lcons rfl (lcons rfl (lcons rfl (lcons rfl (lcons rfl (lcons (lvI (by rfl)) (lcons (lvI (by omega)) rfl)))))))))) rfl
                          exact rw_cast (hL207 0 (by omega)) (lcons rfl (lcons rfl (lcons rfl (lcons rfl (lcons rfl (lcons rfl (lcons rfl (lcons rfl (lcons (lvI (by rfl)) (lcons (lvI (by omega)) rfl)))))))))) rfl
                      exact rw_cast (hL195 0 (by omega) m2 x186_8 x186_9 (by exact ⟨Fr_rfl, fun w hw => absurd hw (Nat.not_lt_zero w), fun _ _ _ _ _ => rfl⟩)) (lcons rfl (lcons rfl (lcons rfl (lcons rfl (lcons rfl (lcons rfl (lcons rfl (lcons (lvI (by omega)) (lcons rfl (lcons rfl rfl)))))))))) rfl
                  have hA45 : Fr (fun a_ => a_ = 270 ∨ a_ = 277) m1 mm7 ∧ (∀ k, mm7 277 k = if k = n - (u + 1) then pab n (fun z w => m 263 (64 * s + 8 * z + w)) (fun z => m 264 (8 * s + z)) (fun z => m 265 (8 * s + z)) k else m1 277 k) ∧ ∀ z, z < 0 → ∀ w, w < n → mm7 270 (8 * z + w) = flG n (fun z w => m 263 (64 * s + 8 * z + w)) (flM n (fun z w => m 263 (64 * s + 8 * z + w)) u) z w := by
                    refine ⟨fr_w hm8 Fr_rfl (by omega), fun k => ?_, fun z hz => absurd hz (Nat.not_lt_zero z)⟩
                    rw [← hm8]
                    by_cases q : k = n - (u + 1)
                    · rw [q, w1_at, if_pos rfl, pab_v (by omega), show i = n by omega]
                      refine sm_congr (fun z hz => ?_)
                      show _ = m 265 (8 * s + z) * sm n (fun w => flM n (fun z w => m 263 (64 * s + 8 * z + w)) u z w * m 264 (8 * s + w))
                      rw [← sm_mul]
                      exact sm_congr (fun w hw => by rw [hF 265 (by omega), hM z hz w hw, hF 264 (by omega)]; grind)
                    · rw [w1_ne (fun w => q w.2), if_neg q]
                  exact rw_cast (hL186 0 (by omega) mm7 x80_7 x80_8 x80_9 hA45) (lcons rfl (lcons rfl (lcons rfl (lcons rfl (lcons rfl (lcons (lvI (by rfl)) (lcons (lvI (by omega)) (lcons rfl (lcons rfl (lcons rfl rfl)))))))))) rfl
                · skip
                  refine rw_of (fun rr hrr => q_iconst (q_istore (Nat.le_of_ble_eq_true rfl) rfl hrr)) ?_
                  have hL100 : ∀ j, j ≤ n → Rw (Ev d) k_X10_finds (100, [], [some (.ref (261)), some (.int (iI (((s : Nat) : Int)))), some (.int (iI (((n : Nat) : Int)))), some (.int (iI (((u + 1 : Nat) : Int)))), some (.int (iI (vF (sm i (fun z => sm n (fun w => m1 265 (8 * s + z) * m1 269 (8 * z + w) * m1 264 (8 * s + w))) + sm j (fun w => m1 265 (8 * s + i) * m1 269 (8 * i + w) * m1 264 (8 * s + w)))))), some (.int (iI (((i : Nat) : Int)))), some (.int (iI (((j : Nat) : Int)))), x80_7, x80_8, x80_9], [], hpM S fz (m1, p), 0, 0) Qr := by
                    refine loop_any (fun j hi100 ih100 => ?_)
                    refine rw_blk lk_X10_finds_100 ?_
                    refine rw_of (fun rr hrr => q_iload rfl (q_iload_n rfl hrr)) ?_
                    refine rw_icmp_ge ⟨by omega, by omega⟩ ⟨by omega, by omega⟩ (t := 164) rfl (fun hc46 => ?_) (fun hc46 => ?_)
                    · skip
                      refine rw_blk lk_X10_finds_164 ?_
                      refine rw_of (fun rr hrr => q_iinc rfl rfl (q_goto (t := 91) rfl hrr)) ?_
                      exact rw_cast (ih91 (by omega) (some (.int (iI (((j : Nat) : Int)))))) (lcons rfl (lcons rfl (lcons rfl (lcons rfl (lcons (lvI (by exact congrArg vF (by rw [show j = n by omega]; rfl))) (lcons (lvI (by omega)) (lcons rfl (lcons rfl (lcons rfl (lcons rfl rfl)))))))))) rfl
                    · skip
                      refine rw_of (fun rr hrr => q_iload rfl (q_aload_n rfl (q_getR (show SH 261 = (18, 0) from rfl) rfl (pt_261_4 hP) (q_bipush rfl (q_iload_n rfl (q_imul (q_iload rfl (q_iadd (q_iald (j := 8 * s + i) (show SH 265 = (1, 104) from rfl) (by omega) (by omega) rfl (q_aload_n rfl (q_getR (show SH 261 = (18, 0) from rfl) rfl (pt_261_10 hP) (q_bipush rfl (q_iload rfl (q_imul (q_iload rfl (q_iadd (q_iald (j := 8 * i + j) (show SH 269 = (1, 64) from rfl) (by omega) (by omega) rfl hrr))))))))))))))))) ?_
                      obtain ⟨_, mm47, pp48, hV49, rfl, rfl, rfl⟩ := c_X10_times (S := S) (fz := fz) (m := m1) (p := p) (d := d) (by omega) (m1 265 (8 * s + i)) (m1 269 (8 * i + j))
                      refine rw_of (fun rr hrr => q_invS hV49 rfl rfl (okar_cons rfl (okar_cons rfl okar_nil)) (Nat.le_of_ble_eq_true rfl) (q_aload_n rfl (q_getR (show SH 261 = (18, 0) from rfl) rfl (pt_261_3 hP) (q_bipush rfl (q_iload_n rfl (q_imul (q_iload rfl (q_iadd (q_iald (j := 8 * s + j) (show SH 264 = (1, 104) from rfl) (by omega) (by omega) rfl hrr))))))))) ?_
                      obtain ⟨_, mm50, pp51, hV52, rfl, rfl, rfl⟩ := c_X10_times (S := S) (fz := fz) (m := m1) (p := p) (d := d) (by omega) ((m1 265 (8 * s + i)) * (m1 269 (8 * i + j))) (m1 264 (8 * s + j))
                      refine rw_of (fun rr hrr => q_invS hV52 rfl rfl (okar_cons rfl (okar_cons rfl okar_nil)) (Nat.le_of_ble_eq_true rfl) (q_iadd (q_sipush rfl (q_irem (by have := vF_ge (sm i (fun z => sm n (fun w => m1 265 (8 * s + z) * m1 269 (8 * z + w) * m1 264 (8 * s + w))) + sm j (fun w => m1 265 (8 * s + i) * m1 269 (8 * i + w) * m1 264 (8 * s + w))); have := vF_lt (sm i (fun z => sm n (fun w => m1 265 (8 * s + z) * m1 269 (8 * z + w) * m1 264 (8 * s + w))) + sm j (fun w => m1 265 (8 * s + i) * m1 269 (8 * i + w) * m1 264 (8 * s + w))); have := vF_ge (((m1 265 (8 * s + i)) * (m1 269 (8 * i + j))) * (m1 264 (8 * s + j))); have := vF_lt (((m1 265 (8 * s + i)) * (m1 269 (8 * i + j))) * (m1 264 (8 * s + j))); exact ⟨by omega, by omega⟩) ⟨by omega, by omega⟩ (by omega) (remF (by have := vF_ge (sm i (fun z => sm n (fun w => m1 265 (8 * s + z) * m1 269 (8 * z + w) * m1 264 (8 * s + w))) + sm j (fun w => m1 265 (8 * s + i) * m1 269 (8 * i + w) * m1 264 (8 * s + w))); have := vF_lt (sm i (fun z => sm n (fun w => m1 265 (8 * s + z) * m1 269 (8 * z + w) * m1 264 (8 * s + w))) + sm j (fun w => m1 265 (8 * s + i) * m1 269 (8 * i + w) * m1 264 (8 * s + w))); have := vF_ge (((m1 265 (8 * s + i)) * (m1 269 (8 * i + j))) * (m1 264 (8 * s + j))); have := vF_lt (((m1 265 (8 * s + i)) * (m1 269 (8 * i + j))) * (m1 264 (8 * s + j))); omega) (show toF ((vF (sm i (fun z => sm n (fun w => m1 265 (8 * s + z) * m1 269 (8 * z + w) * m1 264 (8 * s + w))) + sm j (fun w => m1 265 (8 * s + i) * m1 269 (8 * i + w) * m1 264 (8 * s + w))) + vF (((m1 265 (8 * s + i)) * (m1 269 (8 * i + j))) * (m1 264 (8 * s + j))))) = ((sm i (fun z => sm n (fun w => m1 265 (8 * s + z) * m1 269 (8 * z + w) * m1 264 (8 * s + w))) + sm j (fun w => m1 265 (8 * s + i) * m1 269 (8 * i + w) * m1 264 (8 * s + w))) + (((m1 265 (8 * s + i)) * (m1 269 (8 * i + j))) * (m1 264 (8 * s + j)))) by simp only [toF_add, toF_mul, toF_sub, toF_neg, toF_vF, toF_0, toF_1, toF_M, F_add0, F_0sub])) (q_istore (Nat.le_of_ble_eq_true rfl) rfl (q_iinc rfl rfl (q_goto (t := 100) rfl hrr))))))) ?_
                      exact rw_cast (ih100 (by omega)) (lcons rfl (lcons rfl (lcons rfl (lcons rfl (lcons (lvI (by exact congrArg vF (by rw [sm_s]; grind))) (lcons rfl (lcons (lvI (by omega)) (lcons rfl (lcons rfl (lcons rfl rfl)))))))))) rfl
                  exact rw_cast (hL100 0 (by omega)) (lcons rfl (lcons rfl (lcons rfl (lcons rfl (lcons (lvI (by exact congrArg vF (F_add0 _).symm)) (lcons rfl (lcons (lvI (by omega)) (lcons rfl (lcons rfl (lcons rfl rfl)))))))))) rfl
              exact rw_cast (hL91 0 (by omega) x80_6) (lcons rfl (lcons rfl (lcons rfl (lcons rfl (lcons (lvI (by rfl)) (lcons (lvI (by omega)) (lcons rfl (lcons rfl (lcons rfl (lcons rfl rfl)))))))))) rfl
          have hA53 : Fr (fun a_ => a_ = 269 ∨ a_ = 270 ∨ a_ = 276 ∨ a_ = 277) m m7 ∧ (∀ z, z < n → ∀ w, w < n → m7 269 (8 * z + w) = flM n (fun z w => m 263 (64 * s + 8 * z + w)) 0 z w) ∧ (∀ k, k < 9 → m7 276 k = if n - 0 ≤ k ∧ k ≤ n then pbl n (fun z w => m 263 (64 * s + 8 * z + w)) k else 0) ∧ ∀ k, k < 9 → m7 277 k = if n - 0 ≤ k ∧ k < n then pab n (fun z w => m 263 (64 * s + 8 * z + w)) (fun z => m 264 (8 * s + z)) (fun z => m 265 (8 * s + z)) k else 0 := by
            refine ⟨Fr_mono hF7 (fun a ha => by omega), fun z hz w hw => ?_, fun k hk => ?_, fun k hk => ?_⟩
            · rw [hv7, if_pos (by omega)]
              show _ = if z = w then 1 else 0
              by_cases q : z = w
              · rw [if_pos q, if_pos (by omega)]
              · rw [if_neg q, if_neg (by omega)]
            · rw [hB7 k hk]
              by_cases q : k = n
              · rw [if_pos q, if_pos (by omega), q]
                exact pbl_1.symm
              · rw [if_neg q, if_neg (by omega)]
            · rw [hA7 k hk, if_neg (by omega)]
          exact rw_cast (hL80 0 (by omega) m7 none none none none none none hA53) (lcons rfl (lcons rfl (lcons rfl (lcons (lvI (by omega)) (lcons rfl (lcons rfl (lcons rfl (lcons rfl (lcons rfl (lcons rfl rfl)))))))))) rfl
        · skip
          refine rw_of (fun rr hrr => q_aload_n rfl (q_getR (show SH 261 = (18, 0) from rfl) rfl (pt_261_10 hP) (q_iload_n rfl (q_iload_n rfl (q_bipush rfl (q_idiv ⟨by omega, by omega⟩ ⟨by omega, by omega⟩ (by omega) (show (((t : Nat) : Int)).tdiv (8) = ((t / 8 : Nat) : Int) by rfl) (q_iload_n rfl (q_bipush rfl (q_irem ⟨by omega, by omega⟩ ⟨by omega, by omega⟩ (by omega) (show (((t : Nat) : Int)).tmod (8) = ((t % 8 : Nat) : Int) by rfl) hrr))))))))) ?_
          refine rw_icmp_ne ⟨by omega, by omega⟩ ⟨by omega, by omega⟩ (t := 70) rfl (fun hc54 => ?_) (fun hc54 => ?_)
          · skip
            refine rw_blk lk_X10_finds_70 ?_
            refine rw_of (fun rr hrr => q_iconst hrr) ?_
            refine rw_blk lk_X10_finds_71 ?_
            refine rw_of (fun rr hrr => q_iast (j := t) (xx := 0) (show SH 269 = (1, 64) from rfl) rfl (by omega) rfl hrr) ?_
            generalize hm56 : w1 m7 269 t 0 = mm55
            refine rw_of (fun rr hrr => q_iinc rfl rfl (q_goto (t := 44) rfl hrr)) ?_
            have hA57 : Fr (fun a_ => a_ = 269 ∨ a_ = 276 ∨ a_ = 277) m mm55 ∧ (∀ k, k < 9 → mm55 276 k = if k = n then 1 else 0) ∧ (∀ k, k < 9 → mm55 277 k = 0) ∧ ∀ x, mm55 269 x = if x < (t + 1) then (if x / 8 = x % 8 then 1 else 0) else m 269 x := by
              refine ⟨fr_w hm56 hF7 (by omega), fun k hk => ?_, fun k hk => ?_, ?_⟩
              · rw [← hm56, w1_a (by omega)]
                exact hB7 k hk
              · rw [← hm56, w1_a (by omega)]
                exact hA7 k hk
              · first
                  | exact fill_w (f := fun x => if x / 8 = x % 8 then 1 else 0) hm56 hv7 (if_pos (by omega)).symm
                  | exact fill_w (f := fun x => if x / 8 = x % 8 then 1 else 0) hm56 hv7 (if_neg (by omega)).symm
            exact rw_cast (ih44 (by omega) mm55 hA57) (lcons rfl (lcons rfl (lcons rfl (lcons (lvI (by omega)) (lcons rfl (lcons rfl (lcons rfl (lcons rfl (lcons rfl (lcons rfl rfl)))))))))) rfl
          · skip
            refine rw_of (fun rr hrr => q_iconst (q_goto (t := 71) rfl hrr)) ?_
            refine rw_blk lk_X10_finds_71 ?_
            refine rw_of (fun rr hrr => q_iast (j := t) (xx := 1) (show SH 269 = (1, 64) from rfl) rfl (by omega) rfl hrr) ?_
            generalize hm59 : w1 m7 269 t 1 = mm58
            refine rw_of (fun rr hrr => q_iinc rfl rfl (q_goto (t := 44) rfl hrr)) ?_
            have hA60 : Fr (fun a_ => a_ = 269 ∨ a_ = 276 ∨ a_ = 277) m mm58 ∧ (∀ k, k < 9 → mm58 276 k = if k = n then 1 else 0) ∧ (∀ k, k < 9 → mm58 277 k = 0) ∧ ∀ x, mm58 269 x = if x < (t + 1) then (if x / 8 = x % 8 then 1 else 0) else m 269 x := by
              refine ⟨fr_w hm59 hF7 (by omega), fun k hk => ?_, fun k hk => ?_, ?_⟩
              · rw [← hm59, w1_a (by omega)]
                exact hB7 k hk
              · rw [← hm59, w1_a (by omega)]
                exact hA7 k hk
              · first
                  | exact fill_w (f := fun x => if x / 8 = x % 8 then 1 else 0) hm59 hv7 (if_pos (by omega)).symm
                  | exact fill_w (f := fun x => if x / 8 = x % 8 then 1 else 0) hm59 hv7 (if_neg (by omega)).symm
            exact rw_cast (ih44 (by omega) mm58 hA60) (lcons rfl (lcons rfl (lcons rfl (lcons (lvI (by omega)) (lcons rfl (lcons rfl (lcons rfl (lcons rfl (lcons rfl (lcons rfl rfl)))))))))) rfl
      have hA61 : Fr (fun a_ => a_ = 269 ∨ a_ = 276 ∨ a_ = 277) m mm2 ∧ (∀ k, k < 9 → mm2 276 k = if k = n then 1 else 0) ∧ (∀ k, k < 9 → mm2 277 k = 0) ∧ ∀ x, mm2 269 x = if x < 0 then (if x / 8 = x % 8 then 1 else 0) else m 269 x := by
        refine ⟨fr_w hm3 (Fr_mono hF6 (fun a ha => by omega)) (by omega), fun k hk => ?_, fun k hk => ?_, fun x => ?_⟩
        · rw [← hm3]
          by_cases q : k = n
          · rw [q, w1_at, if_pos rfl]
          · rw [w1_ne (fun w => q w.2), if_neg q, hB6, if_pos (by omega)]
        · rw [← hm3, w1_a (by omega), hA6, if_pos (by omega)]
        · rw [if_neg (Nat.not_lt_zero x), ← hm3, w1_a (by omega), hF6 269 (by omega)]
      exact rw_cast (hL44 0 (by omega) mm2 hA61) (lcons rfl (lcons rfl (lcons rfl (lcons (lvI (by omega)) (lcons rfl (lcons rfl (lcons rfl (lcons rfl (lcons rfl (lcons rfl rfl)))))))))) rfl
    · skip
      refine rw_of (fun rr hrr => q_aload_n rfl (q_getR (show SH 261 = (18, 0) from rfl) rfl (pt_261_17 hP) (q_iload_n rfl (q_iconst (q_iast (j := t) (xx := 0) (show SH 276 = (1, 9) from rfl) rfl (by omega) rfl hrr))))) ?_
      generalize hm63 : w1 m6 276 t 0 = mm62
      refine rw_of (fun rr hrr => q_aload_n rfl (q_getR (show SH 261 = (18, 0) from rfl) rfl (pt_261_18 hP) (q_iload_n rfl (q_iconst (q_iast (j := t) (xx := 0) (show SH 277 = (1, 9) from rfl) rfl (by omega) rfl hrr))))) ?_
      generalize hm65 : w1 mm62 277 t 0 = mm64
      refine rw_of (fun rr hrr => q_iinc rfl rfl (q_goto (t := 9) rfl hrr)) ?_
      have hA66 : Fr (fun a_ => a_ = 276 ∨ a_ = 277) m mm64 ∧ (∀ k, mm64 276 k = if k < (t + 1) then 0 else m 276 k) ∧ ∀ k, mm64 277 k = if k < (t + 1) then 0 else m 277 k := by
        refine ⟨fr_w hm65 (fr_w hm63 hF6 (by omega)) (by omega), fun k => ?_, ?_⟩
        · rw [← hm65, w1_a (by omega)]
          exact fill_w (f := fun _ => 0) hm63 hB6 rfl k
        · exact fill_w (f := fun _ => 0) hm65 (fun k => by rw [← hm63, w1_a (by omega)]; exact hA6 k) rfl
      exact rw_cast (ih9 (by omega) mm64 hA66) (lcons rfl (lcons rfl (lcons rfl (lcons (lvI (by omega)) (lcons rfl (lcons rfl (lcons rfl (lcons rfl (lcons rfl (lcons rfl rfl)))))))))) rfl
  exact rw_cast (hL9 0 (by omega) m (by exact ⟨Fr_rfl, fun k => (if_neg (Nat.not_lt_zero k)).symm, fun k => (if_neg (Nat.not_lt_zero k)).symm⟩)) (lcons rfl (lcons rfl (lcons rfl (lcons (lvI (by omega)) (lcons rfl (lcons rfl (lcons rfl (lcons rfl (lcons rfl (lcons rfl rfl)))))))))) rfl
