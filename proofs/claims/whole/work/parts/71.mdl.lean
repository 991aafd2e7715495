theorem c_X10_steps1 {d : Nat} {S : MC} {fz : Bool} {m : M1} {p : M2} (hd : 3 ≤ d) (s n : Nat) (q r : F) (hP : PI p) (hm : m 262 s = nF n) (hn0 : 1 ≤ n) (hn : n ≤ 8) (hs12 : s ≤ 12) (hr : rm n (fun z w => m 269 (8 * z + w)) (fun z => m 264 (8 * s + z)) r ≠ 0) : Ct d k_X10_steps S fz [.ref (261), .int (iI (((s : Nat) : Int))), .int (iI (vF (q))), .int (iI (vF (r)))] m p (fun v m' p' => v = some (.int (iI 1)) ∧ p = p' ∧ Fr (fun a_ => a_ = 269 ∨ a_ = 270 ∨ a_ = 274 ∨ a_ = 275) m m' ∧ ∀ i, i < n → ∀ j, j < n → m' 269 (8 * i + j) = dot n (fun l => m 263 (64 * s + 8 * l + i)) (fun l => rpa n (fun z w => m 269 (8 * z + w)) (fun z w => m 263 (64 * s + 8 * z + w)) l j) + rq q (fun z => m 265 (8 * s + z)) i j - rap n (fun z w => m 269 (8 * z + w)) (fun z w => m 263 (64 * s + 8 * z + w)) (fun z => m 264 (8 * s + z)) i * rap n (fun z w => m 269 (8 * z + w)) (fun z w => m 263 (64 * s + 8 * z + w)) (fun z => m 264 (8 * s + z)) j * iv (rm n (fun z w => m 269 (8 * z + w)) (fun z => m 264 (8 * s + z)) r)) := by
  obtain ⟨d, rfl⟩ : ∃ e, d = e + 1 := ⟨d - 1, by omega⟩
  refine ct_go (lv := [some (.ref (261)), some (.int (iI (((s : Nat) : Int)))), some (.int (iI (vF (q)))), some (.int (iI (vF (r)))), none, none, none, none, none, none, none, none]) (Nat.le_of_ble_eq_true rfl) (okar_cons rfl (okar_cons rfl (okar_cons rfl (okar_cons rfl okar_nil)))) rfl (fun Qr hQ => ?_)
  refine rw_blk lk_X10_steps_0 ?_
  refine rw_of (fun rr hrr => q_aload_n rfl (q_getR (show SH 261 = (18, 0) from rfl) rfl (pt_261_1 hP) (q_iload_n rfl (q_iald (j := s) (show SH 262 = (1, 13) from rfl) rfl (by omega) (ki rfl hm (by omega)) (q_istore (Nat.le_of_ble_eq_true rfl) rfl (q_iload_n rfl (q_istore (Nat.le_of_ble_eq_true rfl) rfl (q_iconst (q_istore (Nat.le_of_ble_eq_true rfl) rfl hrr))))))))) ?_
  have hL14 : ∀ i, i ≤ n → ∀ (m1 : M1) (x14_7 : Option Value) (x14_8 : Option Value), (Fr (fun a_ => a_ = 274) m m1 ∧ ∀ z, z < i → m1 274 z = (rb n (fun z w => m 269 (8 * z + w)) (fun z => m 264 (8 * s + z))) z) → Rw (Ev d) k_X10_steps (14, [], [some (.ref (261)), some (.int (iI (((s : Nat) : Int)))), some (.int (iI (vF (q)))), some (.int (iI (vF (r)))), some (.int (iI (((n : Nat) : Int)))), some (.int (iI (vF (r + sm i (fun z => m 264 (8 * s + z) * (rb n (fun z w => m 269 (8 * z + w)) (fun z => m 264 (8 * s + z))) z))))), some (.int (iI (((i : Nat) : Int)))), x14_7, x14_8, none, none, none], [], hpM S fz (m1, p), 0, 0) Qr := by
    refine loop_any (fun i hi14 ih14 => ?_)
    intro m1 x14_7 x14_8
    intro hI14
    obtain ⟨hF, hv⟩ := hI14
    refine rw_blk lk_X10_steps_14 ?_
    refine rw_of (fun rr hrr => q_iload rfl (q_iload rfl hrr)) ?_
    refine rw_icmp_ge ⟨by omega, by omega⟩ ⟨by omega, by omega⟩ (t := 123) rfl (fun hc1 => ?_) (fun hc1 => ?_)
    · skip
      refine rw_blk lk_X10_steps_123 ?_
      refine rw_of (fun rr hrr => q_iload rfl hrr) ?_
      refine rw_if_ne (rg_vF _) (t := 130) rfl (fun hc2 => ?_) (fun hc2 => ?_)
      · skip
        have hne := hc2
        refine rw_blk lk_X10_steps_130 ?_
        refine rw_of (fun rr hrr => q_iload rfl hrr) ?_
        obtain ⟨_, mm3, pp4, hV5, rfl, rfl, rfl⟩ := c_X10_inverse (S := S) (fz := fz) (m := m1) (p := p) (d := d) (by omega) (r + sm i (fun z => m 264 (8 * s + z) * (rb n (fun z w => m 269 (8 * z + w)) (fun z => m 264 (8 * s + z))) z))
        refine rw_of (fun rr hrr => q_invS hV5 rfl rfl (okar_cons rfl okar_nil) (Nat.le_of_ble_eq_true rfl) (q_istore (Nat.le_of_ble_eq_true rfl) rfl (q_iconst (q_istore (Nat.le_of_ble_eq_true rfl) rfl hrr)))) ?_
        have hL140 : ∀ i2, i2 ≤ n → ∀ (m2 : M1) (x140_8 : Option Value) (x140_9 : Option Value) (x140_10 : Option Value) (x140_11 : Option Value), (Fr (fun a_ => a_ = 270 ∨ a_ = 275) m1 m2 ∧ (∀ z, z < i2 → m2 275 z = rap n (fun z w => m 269 (8 * z + w)) (fun z w => m 263 (64 * s + 8 * z + w)) (fun z => m 264 (8 * s + z)) z) ∧ ∀ z, z < i2 → ∀ w, w < n → m2 270 (8 * z + w) = rpa n (fun z w => m 269 (8 * z + w)) (fun z w => m 263 (64 * s + 8 * z + w)) z w) → Rw (Ev d) k_X10_steps (140, [], [some (.ref (261)), some (.int (iI (((s : Nat) : Int)))), some (.int (iI (vF (q)))), some (.int (iI (vF (r)))), some (.int (iI (((n : Nat) : Int)))), some (.int (iI (vF (r + sm i (fun z => m 264 (8 * s + z) * (rb n (fun z w => m 269 (8 * z + w)) (fun z => m 264 (8 * s + z))) z))))), some (.int (iI (vF (iv (r + sm i (fun z => m 264 (8 * s + z) * (rb n (fun z w => m 269 (8 * z + w)) (fun z => m 264 (8 * s + z))) z)))))), some (.int (iI (((i2 : Nat) : Int)))), x140_8, x140_9, x140_10, x140_11], [], hpM S fz (m2, p), 0, 0) Qr := by
          refine loop_any (fun i2 hi140 ih140 => ?_)
          intro m2 x140_8 x140_9 x140_10 x140_11
          intro hI140
          obtain ⟨hF2, h275, h270⟩ := hI140
          refine rw_blk lk_X10_steps_140 ?_
          refine rw_of (fun rr hrr => q_iload rfl (q_iload rfl hrr)) ?_
          refine rw_icmp_ge ⟨by omega, by omega⟩ ⟨by omega, by omega⟩ (t := 277) rfl (fun hc6 => ?_) (fun hc6 => ?_)
          · skip
            refine rw_blk lk_X10_steps_277 ?_
            refine rw_of (fun rr hrr => q_iconst (q_istore (Nat.le_of_ble_eq_true rfl) rfl hrr)) ?_
            have hL280 : ∀ i3, i3 ≤ n → ∀ (m4 : M1) (x280_8 : Option Value) (x280_9 : Option Value) (x280_10 : Option Value), (Fr (fun a_ => a_ = 269) m2 m4 ∧ ∀ z, z < i3 → ∀ w, w < n → m4 269 (8 * z + w) = dot n (fun l => m 263 (64 * s + 8 * l + z)) (fun l => rpa n (fun z w => m 269 (8 * z + w)) (fun z w => m 263 (64 * s + 8 * z + w)) l w) + rq q (fun z => m 265 (8 * s + z)) z w - rap n (fun z w => m 269 (8 * z + w)) (fun z w => m 263 (64 * s + 8 * z + w)) (fun z => m 264 (8 * s + z)) z * rap n (fun z w => m 269 (8 * z + w)) (fun z w => m 263 (64 * s + 8 * z + w)) (fun z => m 264 (8 * s + z)) w * iv (rm n (fun z w => m 269 (8 * z + w)) (fun z => m 264 (8 * s + z)) r)) → Rw (Ev d) k_X10_steps (280, [], [some (.ref (261)), some (.int (iI (((s : Nat) : Int)))), some (.int (iI (vF (q)))), some (.int (iI (vF (r)))), some (.int (iI (((n : Nat) : Int)))), some (.int (iI (vF (r + sm i (fun z => m 264 (8 * s + z) * (rb n (fun z w => m 269 (8 * z + w)) (fun z => m 264 (8 * s + z))) z))))), some (.int (iI (vF (iv (r + sm i (fun z => m 264 (8 * s + z) * (rb n (fun z w => m 269 (8 * z + w)) (fun z => m 264 (8 * s + z))) z)))))), some (.int (iI (((i3 : Nat) : Int)))), x280_8, x280_9, x280_10, x140_11], [], hpM S fz (m4, p), 0, 0) Qr := by
              refine loop_any (fun i3 hi280 ih280 => ?_)
              intro m4 x280_8 x280_9 x280_10
              intro hI280
              obtain ⟨hF4, h4⟩ := hI280
              refine rw_blk lk_X10_steps_280 ?_
              refine rw_of (fun rr hrr => q_iload rfl (q_iload rfl hrr)) ?_
              refine rw_icmp_ge ⟨by omega, by omega⟩ ⟨by omega, by omega⟩ (t := 418) rfl (fun hc7 => ?_) (fun hc7 => ?_)
              · skip
                refine rw_blk lk_X10_steps_418 ?_
                refine rw_of (fun rr hrr => q_iconst hrr) ?_
                refine rw_ret hQ (q_ireturn (by omega)) ?_
                exact ⟨rfl, rfl, Fr_trans (Fr_mono hF (fun a ha => by omega)) (Fr_trans (Fr_mono hF2 (fun a ha => by omega)) (Fr_mono hF4 (fun a ha => by omega))), fun z hz w hw => h4 z (by omega) w hw⟩
                
              · skip
                refine rw_of (fun rr hrr => q_iconst (q_istore (Nat.le_of_ble_eq_true rfl) rfl hrr)) ?_
                have hL290 : ∀ j3, j3 ≤ n → ∀ (m5 : M1) (x290_9 : Option Value) (x290_10 : Option Value), (Fr (fun a_ => a_ = 269) m4 m5 ∧ (∀ w, w < j3 → m5 269 (8 * i3 + w) = dot n (fun l => m 263 (64 * s + 8 * l + i3)) (fun l => rpa n (fun z w => m 269 (8 * z + w)) (fun z w => m 263 (64 * s + 8 * z + w)) l w) + rq q (fun z => m 265 (8 * s + z)) i3 w - rap n (fun z w => m 269 (8 * z + w)) (fun z w => m 263 (64 * s + 8 * z + w)) (fun z => m 264 (8 * s + z)) i3 * rap n (fun z w => m 269 (8 * z + w)) (fun z w => m 263 (64 * s + 8 * z + w)) (fun z => m 264 (8 * s + z)) w * iv (rm n (fun z w => m 269 (8 * z + w)) (fun z => m 264 (8 * s + z)) r)) ∧ ∀ z, z < 8 → z ≠ i3 → ∀ w, w < 8 → m5 269 (8 * z + w) = m4 269 (8 * z + w)) → Rw (Ev d) k_X10_steps (290, [], [some (.ref (261)), some (.int (iI (((s : Nat) : Int)))), some (.int (iI (vF (q)))), some (.int (iI (vF (r)))), some (.int (iI (((n : Nat) : Int)))), some (.int (iI (vF (r + sm i (fun z => m 264 (8 * s + z) * (rb n (fun z w => m 269 (8 * z + w)) (fun z => m 264 (8 * s + z))) z))))), some (.int (iI (vF (iv (r + sm i (fun z => m 264 (8 * s + z) * (rb n (fun z w => m 269 (8 * z + w)) (fun z => m 264 (8 * s + z))) z)))))), some (.int (iI (((i3 : Nat) : Int)))), some (.int (iI (((j3 : Nat) : Int)))), x290_9, x290_10, x140_11], [], hpM S fz (m5, p), 0, 0) Qr := by
                  refine loop_any (fun j3 hi290 ih290 => ?_)
                  intro m5 x290_9 x290_10
                  intro hI290
                  obtain ⟨hF5, h5, h5'⟩ := hI290
                  refine rw_blk lk_X10_steps_290 ?_
                  refine rw_of (fun rr hrr => q_iload rfl (q_iload rfl hrr)) ?_
                  refine rw_icmp_ge ⟨by omega, by omega⟩ ⟨by omega, by omega⟩ (t := 412) rfl (fun hc8 => ?_) (fun hc8 => ?_)
                  · skip
                    refine rw_blk lk_X10_steps_412 ?_
                    refine rw_of (fun rr hrr => q_iinc rfl rfl (q_goto (t := 280) rfl hrr)) ?_
                    have hA9 : Fr (fun a_ => a_ = 269) m2 m5 ∧ ∀ z, z < (i3 + 1) → ∀ w, w < n → m5 269 (8 * z + w) = dot n (fun l => m 263 (64 * s + 8 * l + z)) (fun l => rpa n (fun z w => m 269 (8 * z + w)) (fun z w => m 263 (64 * s + 8 * z + w)) l w) + rq q (fun z => m 265 (8 * s + z)) z w - rap n (fun z w => m 269 (8 * z + w)) (fun z w => m 263 (64 * s + 8 * z + w)) (fun z => m 264 (8 * s + z)) z * rap n (fun z w => m 269 (8 * z + w)) (fun z w => m 263 (64 * s + 8 * z + w)) (fun z => m 264 (8 * s + z)) w * iv (rm n (fun z w => m 269 (8 * z + w)) (fun z => m 264 (8 * s + z)) r) := by
                      refine ⟨Fr_trans hF4 hF5, fun z hz w hw => ?_⟩
                      by_cases q : z = i3
                      · rw [q]
                        exact h5 w (by omega)
                      · rw [h5' z (by omega) q w (by omega)]
                        exact h4 z (by omega) w hw
                    exact rw_cast (ih280 (by omega) m5 (some (.int (iI (((j3 : Nat) : Int))))) x290_9 x290_10 hA9) (lcons rfl (lcons rfl (lcons rfl (lcons rfl (lcons rfl (lcons rfl (lcons rfl (lcons (lvI (by omega)) (lcons rfl (lcons rfl (lcons rfl (lcons rfl rfl)))))))))))) rfl
                  · skip
                    refine rw_of (fun rr hrr => q_iconst (q_istore (Nat.le_of_ble_eq_true rfl) rfl (q_iconst (q_istore (Nat.le_of_ble_eq_true rfl) rfl hrr)))) ?_
                    have hL303 : ∀ k3, k3 ≤ n → Rw (Ev d) k_X10_steps (303, [], [some (.ref (261)), some (.int (iI (((s : Nat) : Int)))), some (.int (iI (vF (q)))), some (.int (iI (vF (r)))), some (.int (iI (((n : Nat) : Int)))), some (.int (iI (vF (r + sm i (fun z => m 264 (8 * s + z) * (rb n (fun z w => m 269 (8 * z + w)) (fun z => m 264 (8 * s + z))) z))))), some (.int (iI (vF (iv (r + sm i (fun z => m 264 (8 * s + z) * (rb n (fun z w => m 269 (8 * z + w)) (fun z => m 264 (8 * s + z))) z)))))), some (.int (iI (((i3 : Nat) : Int)))), some (.int (iI (((j3 : Nat) : Int)))), some (.int (iI (sI k3 (fun z => m5 263 (64 * s + 8 * z + i3) * m5 270 (8 * z + j3))))), some (.int (iI (((k3 : Nat) : Int)))), x140_11], [], hpM S fz (m5, p), 0, 0) Qr := by
                      refine loop_any (fun k3 hi303 ih303 => ?_)
                      refine rw_blk lk_X10_steps_303 ?_
                      refine rw_of (fun rr hrr => q_iload rfl (q_iload rfl hrr)) ?_
                      refine rw_icmp_ge ⟨by omega, by omega⟩ ⟨by omega, by omega⟩ (t := 346) rfl (fun hc10 => ?_) (fun hc10 => ?_)
                      · skip
                        refine rw_blk lk_X10_steps_346 ?_
                        refine rw_of (fun rr hrr => q_aload_n rfl (q_getR (show SH 261 = (18, 0) from rfl) rfl (pt_261_16 hP) (q_iload rfl (q_iald (j := i3) (show SH 275 = (1, 8) from rfl) rfl (by omega) rfl (q_aload_n rfl (q_getR (show SH 261 = (18, 0) from rfl) rfl (pt_261_16 hP) (q_iload rfl (q_iald (j := j3) (show SH 275 = (1, 8) from rfl) rfl (by omega) rfl hrr)))))))) ?_
                        obtain ⟨_, mm11, pp12, hV13, rfl, rfl, rfl⟩ := c_X10_times (S := S) (fz := fz) (m := m5) (p := p) (d := d) (by omega) (m5 275 i3) (m5 275 j3)
                        refine rw_of (fun rr hrr => q_invS hV13 rfl rfl (okar_cons rfl (okar_cons rfl okar_nil)) (Nat.le_of_ble_eq_true rfl) (q_iload rfl hrr)) ?_
                        obtain ⟨_, mm14, pp15, hV16, rfl, rfl, rfl⟩ := c_X10_times (S := S) (fz := fz) (m := m5) (p := p) (d := d) (by omega) ((m5 275 i3) * (m5 275 j3)) (iv (r + sm i (fun z => m 264 (8 * s + z) * (rb n (fun z w => m 269 (8 * z + w)) (fun z => m 264 (8 * s + z))) z)))
                        refine rw_of (fun rr hrr => q_invS hV16 rfl rfl (okar_cons rfl (okar_cons rfl okar_nil)) (Nat.le_of_ble_eq_true rfl) (q_istore (Nat.le_of_ble_eq_true rfl) rfl (q_aload_n rfl (q_getR (show SH 261 = (18, 0) from rfl) rfl (pt_261_10 hP) (q_bipush rfl (q_iload rfl (q_imul (q_iload rfl (q_iadd (q_iload rfl (q_aload_n rfl (q_iload_n rfl (q_iload_n rfl (q_iload rfl (q_iload rfl hrr))))))))))))))) ?_
                        obtain ⟨_, mm17, pp18, hV19, rfl, rfl, rfl⟩ := c_X10_weight (S := S) (fz := fz) (m := m5) (p := p) (d := d) (by omega) (s) (i3) (j3) (q) hP (by omega) (by omega) (by omega)
                        refine rw_of (fun rr hrr => q_invV hV19 (show SH 261 = (18, 0) from rfl) rfl rfl (okar_cons rfl (okar_cons rfl (okar_cons rfl (okar_cons rfl okar_nil)))) (Nat.le_of_ble_eq_true rfl) (q_iadd (q_sipush rfl (q_irem (by have := sI_b k3 (fun z => m5 263 (64 * s + 8 * z + i3) * m5 270 (8 * z + j3)); have := vF_ge (rq q (fun z => m5 265 (8 * s + z)) i3 j3); have := vF_lt (rq q (fun z => m5 265 (8 * s + z)) i3 j3); exact ⟨by omega, by omega⟩) ⟨by omega, by omega⟩ (by omega) (by exact remF (by have := sI_b k3 (fun z => m5 263 (64 * s + 8 * z + i3) * m5 270 (8 * z + j3)); have := vF_ge (rq q (fun z => m5 265 (8 * s + z)) i3 j3); omega) (by rw [toF_add, sI_toF, toF_vF])) (q_iload rfl (q_isub hrr)))))) ?_
                        obtain ⟨_, mm20, pp21, hV22, rfl, rfl, rfl⟩ := c_X10_rest (S := S) (fz := fz) (m := m5) (p := p) (d := d) (by omega) ((vF (sm k3 (fun z => m5 263 (64 * s + 8 * z + i3) * m5 270 (8 * z + j3)) + rq q (fun z => m5 265 (8 * s + z)) i3 j3) - vF (((m5 275 i3) * (m5 275 j3)) * (iv (r + sm i (fun z => m 264 (8 * s + z) * (rb n (fun z w => m 269 (8 * z + w)) (fun z => m 264 (8 * s + z))) z)))))) (by have := vF_ge (sm k3 (fun z => m5 263 (64 * s + 8 * z + i3) * m5 270 (8 * z + j3)) + rq q (fun z => m5 265 (8 * s + z)) i3 j3); have := vF_lt (sm k3 (fun z => m5 263 (64 * s + 8 * z + i3) * m5 270 (8 * z + j3)) + rq q (fun z => m5 265 (8 * s + z)) i3 j3); have := vF_ge (((m5 275 i3) * (m5 275 j3)) * (iv (r + sm i (fun z => m 264 (8 * s + z) * (rb n (fun z w => m 269 (8 * z + w)) (fun z => m 264 (8 * s + z))) z)))); have := vF_lt (((m5 275 i3) * (m5 275 j3)) * (iv (r + sm i (fun z => m 264 (8 * s + z) * (rb n (fun z w => m 269 (8 * z + w)) (fun z => m 264 (8 * s + z))) z)))); omega)
                        refine rw_of (fun rr hrr => q_invS hV22 rfl rfl (okar_cons rfl okar_nil) (Nat.le_of_ble_eq_true rfl) (q_iast (j := 8 * i3 + j3) (xx := toF ((vF (sm k3 (fun z => m5 263 (64 * s + 8 * z + i3) * m5 270 (8 * z + j3)) + rq q (fun z => m5 265 (8 * s + z)) i3 j3) - vF (((m5 275 i3) * (m5 275 j3)) * (iv (r + sm i (fun z => m 264 (8 * s + z) * (rb n (fun z w => m 269 (8 * z + w)) (fun z => m 264 (8 * s + z))) z))))))) (show SH 269 = (1, 64) from rfl) (by omega) (by omega) rfl hrr)) ?_
                        generalize hm24 : w1 m5 269 (8 * i3 + j3) (toF ((vF (sm k3 (fun z => m5 263 (64 * s + 8 * z + i3) * m5 270 (8 * z + j3)) + rq q (fun z => m5 265 (8 * s + z)) i3 j3) - vF (((m5 275 i3) * (m5 275 j3)) * (iv (r + sm i (fun z => m 264 (8 * s + z) * (rb n (fun z w => m 269 (8 * z + w)) (fun z => m 264 (8 * s + z))) z))))))) = mm23
                        refine rw_of (fun rr hrr => q_iinc rfl rfl (q_goto (t := 290) rfl hrr)) ?_
                        have hA25 : Fr (fun a_ => a_ = 269) m4 mm23 ∧ (∀ w, w < (j3 + 1) → mm23 269 (8 * i3 + w) = dot n (fun l => m 263 (64 * s + 8 * l + i3)) (fun l => rpa n (fun z w => m 269 (8 * z + w)) (fun z w => m 263 (64 * s + 8 * z + w)) l w) + rq q (fun z => m 265 (8 * s + z)) i3 w - rap n (fun z w => m 269 (8 * z + w)) (fun z w => m 263 (64 * s + 8 * z + w)) (fun z => m 264 (8 * s + z)) i3 * rap n (fun z w => m 269 (8 * z + w)) (fun z w => m 263 (64 * s + 8 * z + w)) (fun z => m 264 (8 * s + z)) w * iv (rm n (fun z w => m 269 (8 * z + w)) (fun z => m 264 (8 * s + z)) r)) ∧ ∀ z, z < 8 → z ≠ i3 → ∀ w, w < 8 → mm23 269 (8 * z + w) = m4 269 (8 * z + w) := by
                          refine ⟨fr_w hm24 hF5 rfl, fun w hw => ?_, fun z hz hzi w hw => ?_⟩
                          · rw [← hm24]
                            by_cases q : w = j3
                            · have e1 : sm k3 (fun z => m5 263 (64 * s + 8 * z + i3) * m5 270 (8 * z + j3)) = dot n (fun l => m 263 (64 * s + 8 * l + i3)) (fun l => rpa n (fun z w => m 269 (8 * z + w)) (fun z w => m 263 (64 * s + 8 * z + w)) l j3) := by
                                rw [show k3 = n by omega]
                                exact dot_congr (fun c hc => show m5 263 _ = m 263 _ by rw [hF5 263 (by omega), hF4 263 (by omega), hF2 263 (by omega), hF 263 (by omega)]) (fun c hc => by rw [hF5 270 (by omega), hF4 270 (by omega)]; exact h270 c (by omega) j3 (by omega))
                              have e2 : ∀ z, z < n → m5 275 z = rap n (fun z w => m 269 (8 * z + w)) (fun z w => m 263 (64 * s + 8 * z + w)) (fun z => m 264 (8 * s + z)) z := fun z hz => by rw [hF5 275 (by omega), hF4 275 (by omega)]; exact h275 z (by omega)
                              have e3 : m5 265 = m 265 := by rw [hF5 265 (by omega), hF4 265 (by omega), hF2 265 (by omega), hF 265 (by omega)]
                              rw [q, w1_at, toF_sub, toF_vF, toF_vF, e1, e2 i3 (by omega), e2 j3 (by omega), e3, show i = n by omega]
                              rfl
                            · rw [w1_ne (by omega)]
                              exact h5 w (by omega)
                          · rw [← hm24, w1_ne (by omega)]
                            exact h5' z hz hzi w hw
                        exact rw_cast (ih290 (by omega) mm23 (some (.int (iI (sI k3 (fun z => m5 263 (64 * s + 8 * z + i3) * m5 270 (8 * z + j3)))))) (some (.int (iI (vF (((m5 275 i3) * (m5 275 j3)) * (iv (r + sm i (fun z => m 264 (8 * s + z) * (rb n (fun z w => m 269 (8 * z + w)) (fun z => m 264 (8 * s + z))) z)))))))) hA25) (lcons rfl (lcons rfl (lcons rfl (lcons rfl (lcons rfl (lcons rfl (lcons rfl (lcons rfl (lcons (lvI (by omega)) (lcons rfl (lcons rfl (lcons rfl rfl)))))))))))) rfl
                      · skip
                        refine rw_of (fun rr hrr => q_iload rfl (q_aload_n rfl (q_iload_n rfl (q_iload rfl (q_iload rfl hrr))))) ?_
                        obtain ⟨_, mm26, pp27, hV28, rfl, rfl, rfl⟩ := c_X10_square (S := S) (fz := fz) (m := m5) (p := p) (d := d) (by omega) (s) (k3) (i3) hP (by omega) (by omega) (by omega)
                        refine rw_of (fun rr hrr => q_invV hV28 (show SH 261 = (18, 0) from rfl) rfl rfl (okar_cons rfl (okar_cons rfl (okar_cons rfl okar_nil))) (Nat.le_of_ble_eq_true rfl) (q_aload_n rfl (q_getR (show SH 261 = (18, 0) from rfl) rfl (pt_261_11 hP) (q_bipush rfl (q_iload rfl (q_imul (q_iload rfl (q_iadd (q_iald (j := 8 * k3 + j3) (show SH 270 = (1, 64) from rfl) (by omega) (by omega) rfl hrr))))))))) ?_
                        obtain ⟨_, mm29, pp30, hV31, rfl, rfl, rfl⟩ := c_X10_times (S := S) (fz := fz) (m := m5) (p := p) (d := d) (by omega) (m5 263 (64 * s + 8 * k3 + i3)) (m5 270 (8 * k3 + j3))
                        refine rw_of (fun rr hrr => q_invS hV31 rfl rfl (okar_cons rfl (okar_cons rfl okar_nil)) (Nat.le_of_ble_eq_true rfl) (q_iadd (q_istore (Nat.le_of_ble_eq_true rfl) rfl (q_iinc rfl rfl (q_goto (t := 303) rfl hrr))))) ?_
                        exact rw_cast (ih303 (by omega)) (lcons rfl (lcons rfl (lcons rfl (lcons rfl (lcons rfl (lcons rfl (lcons rfl (lcons rfl (lcons rfl (lcons (lvI (by rfl)) (lcons (lvI (by omega)) (lcons rfl rfl)))))))))))) rfl
                    exact rw_cast (hL303 0 (by omega)) (lcons rfl (lcons rfl (lcons rfl (lcons rfl (lcons rfl (lcons rfl (lcons rfl (lcons rfl (lcons rfl (lcons (lvI (by rfl)) (lcons (lvI (by omega)) (lcons rfl rfl)))))))))))) rfl
                exact rw_cast (hL290 0 (by omega) m4 x280_9 x280_10 (by exact ⟨Fr_rfl, fun w hw => absurd hw (Nat.not_lt_zero w), fun _ _ _ _ _ => rfl⟩)) (lcons rfl (lcons rfl (lcons rfl (lcons rfl (lcons rfl (lcons rfl (lcons rfl (lcons rfl (lcons (lvI (by omega)) (lcons rfl (lcons rfl (lcons rfl rfl)))))))))))) rfl
            exact rw_cast (hL280 0 (by omega) m2 x140_8 x140_9 x140_10 (by exact ⟨Fr_rfl, fun z hz => absurd hz (Nat.not_lt_zero z)⟩)) (lcons rfl (lcons rfl (lcons rfl (lcons rfl (lcons rfl (lcons rfl (lcons rfl (lcons (lvI (by omega)) (lcons rfl (lcons rfl (lcons rfl (lcons rfl rfl)))))))))))) rfl
          · skip
            refine rw_of (fun rr hrr => q_iconst (q_istore (Nat.le_of_ble_eq_true rfl) rfl (q_iconst (q_istore (Nat.le_of_ble_eq_true rfl) rfl hrr)))) ?_
            have hL153 : ∀ j2, j2 ≤ n → ∀ (m3 : M1) (x153_10 : Option Value) (x153_11 : Option Value), (Fr (fun a_ => a_ = 270) m2 m3 ∧ (∀ w, w < j2 → m3 270 (8 * i2 + w) = rpa n (fun z w => m 269 (8 * z + w)) (fun z w => m 263 (64 * s + 8 * z + w)) i2 w) ∧ ∀ z, z < 8 → z ≠ i2 → ∀ w, w < 8 → m3 270 (8 * z + w) = m2 270 (8 * z + w)) → Rw (Ev d) k_X10_steps (153, [], [some (.ref (261)), some (.int (iI (((s : Nat) : Int)))), some (.int (iI (vF (q)))), some (.int (iI (vF (r)))), some (.int (iI (((n : Nat) : Int)))), some (.int (iI (vF (r + sm i (fun z => m 264 (8 * s + z) * (rb n (fun z w => m 269 (8 * z + w)) (fun z => m 264 (8 * s + z))) z))))), some (.int (iI (vF (iv (r + sm i (fun z => m 264 (8 * s + z) * (rb n (fun z w => m 269 (8 * z + w)) (fun z => m 264 (8 * s + z))) z)))))), some (.int (iI (((i2 : Nat) : Int)))), some (.int (iI (sI j2 (fun z => m2 274 z * m2 263 (64 * s + 8 * z + i2))))), some (.int (iI (((j2 : Nat) : Int)))), x153_10, x153_11], [], hpM S fz (m3, p), 0, 0) Qr := by
              refine loop_any (fun j2 hi153 ih153 => ?_)
              intro m3 x153_10 x153_11
              intro hI153
              obtain ⟨hF3, h3, h3'⟩ := hI153
              refine rw_blk lk_X10_steps_153 ?_
              refine rw_of (fun rr hrr => q_iload rfl (q_iload rfl hrr)) ?_
              refine rw_icmp_ge ⟨by omega, by omega⟩ ⟨by omega, by omega⟩ (t := 258) rfl (fun hc32 => ?_) (fun hc32 => ?_)
              · skip
                refine rw_blk lk_X10_steps_258 ?_
                refine rw_of (fun rr hrr => q_aload_n rfl (q_getR (show SH 261 = (18, 0) from rfl) rfl (pt_261_16 hP) (q_iload rfl (q_iload rfl (q_sipush rfl (q_irem (sI_rg (by omega)) ⟨by omega, by omega⟩ (by omega) (by exact sI_rem _ _) (q_iast (j := i2) (xx := sm j2 (fun z => m2 274 z * m2 263 (64 * s + 8 * z + i2))) (show SH 275 = (1, 8) from rfl) rfl (by omega) rfl hrr))))))) ?_
                generalize hm34 : w1 m3 275 i2 (sm j2 (fun z => m2 274 z * m2 263 (64 * s + 8 * z + i2))) = mm33
                refine rw_of (fun rr hrr => q_iinc rfl rfl (q_goto (t := 140) rfl hrr)) ?_
                have hA35 : Fr (fun a_ => a_ = 270 ∨ a_ = 275) m1 mm33 ∧ (∀ z, z < (i2 + 1) → mm33 275 z = rap n (fun z w => m 269 (8 * z + w)) (fun z w => m 263 (64 * s + 8 * z + w)) (fun z => m 264 (8 * s + z)) z) ∧ ∀ z, z < (i2 + 1) → ∀ w, w < n → mm33 270 (8 * z + w) = rpa n (fun z w => m 269 (8 * z + w)) (fun z w => m 263 (64 * s + 8 * z + w)) z w := by
                  refine ⟨fr_w hm34 (Fr_trans hF2 (Fr_mono hF3 (fun a ha => by omega))) (by omega), fun z hz => ?_, fun z hz w hw => ?_⟩
                  · rw [← hm34]
                    by_cases q : z = i2
                    · rw [q, w1_at, show j2 = n by omega]
                      exact dot_congr (fun c hc => by rw [hF2 274 (by omega)]; exact hv c (by omega)) (fun c hc => show m2 263 _ = m 263 _ by rw [hF2 263 (by omega), hF 263 (by omega)])
                    · rw [w1_ne (fun w => q w.2), hF3 275 (by omega)]
                      exact h275 z (by omega)
                  · rw [← hm34, w1_a (by omega)]
                    by_cases q : z = i2
                    · rw [q]
                      exact h3 w (by omega)
                    · rw [h3' z (by omega) (by omega) w (by omega)]
                      exact h270 z (by omega) w hw
                exact rw_cast (ih140 (by omega) mm33 (some (.int (iI (sI j2 (fun z => m2 274 z * m2 263 (64 * s + 8 * z + i2)))))) (some (.int (iI (((j2 : Nat) : Int))))) x153_10 x153_11 hA35) (lcons rfl (lcons rfl (lcons rfl (lcons rfl (lcons rfl (lcons rfl (lcons rfl (lcons (lvI (by omega)) (lcons rfl (lcons rfl (lcons rfl (lcons rfl rfl)))))))))))) rfl
              · skip
                refine rw_of (fun rr hrr => q_iload rfl (q_aload_n rfl (q_getR (show SH 261 = (18, 0) from rfl) rfl (pt_261_15 hP) (q_iload rfl (q_iald (j := j2) (show SH 274 = (1, 8) from rfl) rfl (by omega) rfl (q_aload_n rfl (q_iload_n rfl (q_iload rfl (q_iload rfl hrr))))))))) ?_
                obtain ⟨_, mm36, pp37, hV38, rfl, rfl, rfl⟩ := c_X10_square (S := S) (fz := fz) (m := m3) (p := p) (d := d) (by omega) (s) (j2) (i2) hP (by omega) (by omega) (by omega)
                refine rw_of (fun rr hrr => q_invV hV38 (show SH 261 = (18, 0) from rfl) rfl rfl (okar_cons rfl (okar_cons rfl (okar_cons rfl okar_nil))) (Nat.le_of_ble_eq_true rfl) hrr) ?_
                obtain ⟨_, mm39, pp40, hV41, rfl, rfl, rfl⟩ := c_X10_times (S := S) (fz := fz) (m := m3) (p := p) (d := d) (by omega) (m3 274 j2) (m3 263 (64 * s + 8 * j2 + i2))
                refine rw_of (fun rr hrr => q_invS hV41 rfl rfl (okar_cons rfl (okar_cons rfl okar_nil)) (Nat.le_of_ble_eq_true rfl) (q_iadd (q_istore (Nat.le_of_ble_eq_true rfl) rfl (q_iconst (q_istore (Nat.le_of_ble_eq_true rfl) rfl (q_iconst (q_istore (Nat.le_of_ble_eq_true rfl) rfl hrr))))))) ?_
                have hL190 : ∀ k2, k2 ≤ n → Rw (Ev d) k_X10_steps (190, [], [some (.ref (261)), some (.int (iI (((s : Nat) : Int)))), some (.int (iI (vF (q)))), some (.int (iI (vF (r)))), some (.int (iI (((n : Nat) : Int)))), some (.int (iI (vF (r + sm i (fun z => m 264 (8 * s + z) * (rb n (fun z w => m 269 (8 * z + w)) (fun z => m 264 (8 * s + z))) z))))), some (.int (iI (vF (iv (r + sm i (fun z => m 264 (8 * s + z) * (rb n (fun z w => m 269 (8 * z + w)) (fun z => m 264 (8 * s + z))) z)))))), some (.int (iI (((i2 : Nat) : Int)))), some (.int (iI ((sI j2 (fun z => m2 274 z * m2 263 (64 * s + 8 * z + i2)) + vF ((m3 274 j2) * (m3 263 (64 * s + 8 * j2 + i2))))))), some (.int (iI (((j2 : Nat) : Int)))), some (.int (iI (sI k2 (fun z => m3 269 (8 * i2 + z) * m3 263 (64 * s + 8 * z + j2))))), some (.int (iI (((k2 : Nat) : Int))))], [], hpM S fz (m3, p), 0, 0) Qr := by
                  refine loop_any (fun k2 hi190 ih190 => ?_)
                  refine rw_blk lk_X10_steps_190 ?_
                  refine rw_of (fun rr hrr => q_iload rfl (q_iload rfl hrr)) ?_
                  refine rw_icmp_ge ⟨by omega, by omega⟩ ⟨by omega, by omega⟩ (t := 233) rfl (fun hc42 => ?_) (fun hc42 => ?_)
                  · skip
                    refine rw_blk lk_X10_steps_233 ?_
                    refine rw_of (fun rr hrr => q_aload_n rfl (q_getR (show SH 261 = (18, 0) from rfl) rfl (pt_261_11 hP) (q_bipush rfl (q_iload rfl (q_imul (q_iload rfl (q_iadd (q_iload rfl (q_sipush rfl (q_irem (sI_rg (by omega)) ⟨by omega, by omega⟩ (by omega) (by exact sI_rem _ _) (q_iast (j := 8 * i2 + j2) (xx := sm k2 (fun z => m3 269 (8 * i2 + z) * m3 263 (64 * s + 8 * z + j2))) (show SH 270 = (1, 64) from rfl) (by omega) (by omega) rfl hrr))))))))))) ?_
                    generalize hm44 : w1 m3 270 (8 * i2 + j2) (sm k2 (fun z => m3 269 (8 * i2 + z) * m3 263 (64 * s + 8 * z + j2))) = mm43
                    refine rw_of (fun rr hrr => q_iinc rfl rfl (q_goto (t := 153) rfl hrr)) ?_
                    have hA45 : Fr (fun a_ => a_ = 270) m2 mm43 ∧ (∀ w, w < (j2 + 1) → mm43 270 (8 * i2 + w) = rpa n (fun z w => m 269 (8 * z + w)) (fun z w => m 263 (64 * s + 8 * z + w)) i2 w) ∧ ∀ z, z < 8 → z ≠ i2 → ∀ w, w < 8 → mm43 270 (8 * z + w) = m2 270 (8 * z + w) := by
                      refine ⟨fr_w hm44 hF3 rfl, fun w hw => ?_, fun z hz hzi w hw => ?_⟩
                      · rw [← hm44]
                        by_cases q : w = j2
                        · rw [q, w1_at, show k2 = n by omega]
                          exact dot_congr (fun c hc => show m3 269 _ = m 269 _ by rw [hF3 269 (by omega), hF2 269 (by omega), hF 269 (by omega)]) (fun c hc => show m3 263 _ = m 263 _ by rw [hF3 263 (by omega), hF2 263 (by omega), hF 263 (by omega)])
                        · rw [w1_ne (by omega)]
                          exact h3 w (by omega)
                      · rw [← hm44, w1_ne (by omega)]
                        exact h3' z hz hzi w hw
                    exact rw_cast (ih153 (by omega) mm43 (some (.int (iI (sI k2 (fun z => m3 269 (8 * i2 + z) * m3 263 (64 * s + 8 * z + j2)))))) (some (.int (iI (((k2 : Nat) : Int))))) hA45) (lcons rfl (lcons rfl (lcons rfl (lcons rfl (lcons rfl (lcons rfl (lcons rfl (lcons rfl (lcons (lvI (by show sI j2 _ + _ = sI j2 _ + _; rw [hF3 274 (by omega), hF3 263 (by omega)])) (lcons (lvI (by omega)) (lcons rfl (lcons rfl rfl)))))))))))) rfl
                  · skip
                    refine rw_of (fun rr hrr => q_iload rfl (q_aload_n rfl (q_getR (show SH 261 = (18, 0) from rfl) rfl (pt_261_10 hP) (q_bipush rfl (q_iload rfl (q_imul (q_iload rfl (q_iadd (q_iald (j := 8 * i2 + k2) (show SH 269 = (1, 64) from rfl) (by omega) (by omega) rfl (q_aload_n rfl (q_iload_n rfl (q_iload rfl (q_iload rfl hrr))))))))))))) ?_
                    obtain ⟨_, mm46, pp47, hV48, rfl, rfl, rfl⟩ := c_X10_square (S := S) (fz := fz) (m := m3) (p := p) (d := d) (by omega) (s) (k2) (j2) hP (by omega) (by omega) (by omega)
                    refine rw_of (fun rr hrr => q_invV hV48 (show SH 261 = (18, 0) from rfl) rfl rfl (okar_cons rfl (okar_cons rfl (okar_cons rfl okar_nil))) (Nat.le_of_ble_eq_true rfl) hrr) ?_
                    obtain ⟨_, mm49, pp50, hV51, rfl, rfl, rfl⟩ := c_X10_times (S := S) (fz := fz) (m := m3) (p := p) (d := d) (by omega) (m3 269 (8 * i2 + k2)) (m3 263 (64 * s + 8 * k2 + j2))
                    refine rw_of (fun rr hrr => q_invS hV51 rfl rfl (okar_cons rfl (okar_cons rfl okar_nil)) (Nat.le_of_ble_eq_true rfl) (q_iadd (q_istore (Nat.le_of_ble_eq_true rfl) rfl (q_iinc rfl rfl (q_goto (t := 190) rfl hrr))))) ?_
                    exact rw_cast (ih190 (by omega)) (lcons rfl (lcons rfl (lcons rfl (lcons rfl (lcons rfl (lcons rfl (lcons rfl (lcons rfl (lcons rfl (lcons rfl (lcons (lvI (by rfl)) (lcons (lvI (by omega)) rfl)))))))))))) rfl
                exact rw_cast (hL190 0 (by omega)) (lcons rfl (lcons rfl (lcons rfl (lcons rfl (lcons rfl (lcons rfl (lcons rfl (lcons rfl (lcons rfl (lcons rfl (lcons (lvI (by rfl)) (lcons (lvI (by omega)) rfl)))))))))))) rfl
            exact rw_cast (hL153 0 (by omega) m2 x140_10 x140_11 (by exact ⟨Fr_rfl, fun w hw => absurd hw (Nat.not_lt_zero w), fun _ _ _ _ _ => rfl⟩)) (lcons rfl (lcons rfl (lcons rfl (lcons rfl (lcons rfl (lcons rfl (lcons rfl (lcons rfl (lcons (lvI (by rfl)) (lcons (lvI (by omega)) (lcons rfl (lcons rfl rfl)))))))))))) rfl
        exact rw_cast (hL140 0 (by omega) m1 x14_8 none none none (by exact ⟨Fr_rfl, fun z hz => absurd hz (Nat.not_lt_zero z), fun z hz => absurd hz (Nat.not_lt_zero z)⟩)) (lcons rfl (lcons rfl (lcons rfl (lcons rfl (lcons rfl (lcons rfl (lcons rfl (lcons (lvI (by omega)) (lcons rfl (lcons rfl (lcons rfl (lcons rfl rfl)))))))))))) rfl
      · exact absurd (((show _ = rm n (fun z w => m 269 (8 * z + w)) (fun z => m 264 (8 * s + z)) r from by rw [show i = n by omega]; rfl)).symm.trans (vF_eq0.mp hc2)) hr
    · skip
      refine rw_of (fun rr hrr => q_iconst (q_istore (Nat.le_of_ble_eq_true rfl) rfl (q_iconst (q_istore (Nat.le_of_ble_eq_true rfl) rfl hrr)))) ?_
      have hL27 : ∀ j, j ≤ n → Rw (Ev d) k_X10_steps (27, [], [some (.ref (261)), some (.int (iI (((s : Nat) : Int)))), some (.int (iI (vF (q)))), some (.int (iI (vF (r)))), some (.int (iI (((n : Nat) : Int)))), some (.int (iI (vF (r + sm i (fun z => m 264 (8 * s + z) * (rb n (fun z w => m 269 (8 * z + w)) (fun z => m 264 (8 * s + z))) z))))), some (.int (iI (((i : Nat) : Int)))), some (.int (iI (sI j (fun z => m1 269 (8 * i + z) * m1 264 (8 * s + z))))), some (.int (iI (((j : Nat) : Int)))), none, none, none], [], hpM S fz (m1, p), 0, 0) Qr := by
        refine loop_any (fun j hi27 ih27 => ?_)
        refine rw_blk lk_X10_steps_27 ?_
        refine rw_of (fun rr hrr => q_iload rfl (q_iload rfl hrr)) ?_
        refine rw_icmp_ge ⟨by omega, by omega⟩ ⟨by omega, by omega⟩ (t := 73) rfl (fun hc52 => ?_) (fun hc52 => ?_)
        · skip
          refine rw_blk lk_X10_steps_73 ?_
          refine rw_of (fun rr hrr => q_aload_n rfl (q_getR (show SH 261 = (18, 0) from rfl) rfl (pt_261_15 hP) (q_iload rfl (q_iload rfl (q_sipush rfl (q_irem (sI_rg (by omega)) ⟨by omega, by omega⟩ (by omega) (by exact sI_rem _ _) (q_iast (j := i) (xx := sm j (fun z => m1 269 (8 * i + z) * m1 264 (8 * s + z))) (show SH 274 = (1, 8) from rfl) rfl (by omega) rfl hrr))))))) ?_
          generalize hm54 : w1 m1 274 i (sm j (fun z => m1 269 (8 * i + z) * m1 264 (8 * s + z))) = mm53
          refine rw_of (fun rr hrr => q_iload rfl (q_aload_n rfl (q_getR (show SH 261 = (18, 0) from rfl) rfl (pt_261_3 hP) (q_bipush rfl (q_iload_n rfl (q_imul (q_iload rfl (q_iadd (q_iald (j := 8 * s + i) (show SH 264 = (1, 104) from rfl) (by omega) (by omega) rfl (q_aload_n rfl (q_getR (show SH 261 = (18, 0) from rfl) rfl (pt_261_15 hP) (q_iload rfl (q_iald (j := i) (show SH 274 = (1, 8) from rfl) rfl (by omega) rfl hrr))))))))))))) ?_
          obtain ⟨_, mm55, pp56, hV57, rfl, rfl, rfl⟩ := c_X10_times (S := S) (fz := fz) (m := mm53) (p := p) (d := d) (by omega) (mm53 264 (8 * s + i)) (mm53 274 i)
          refine rw_of (fun rr hrr => q_invS hV57 rfl rfl (okar_cons rfl (okar_cons rfl okar_nil)) (Nat.le_of_ble_eq_true rfl) (q_iadd (q_sipush rfl (q_irem (by have := vF_ge (r + sm i (fun z => m 264 (8 * s + z) * (rb n (fun z w => m 269 (8 * z + w)) (fun z => m 264 (8 * s + z))) z)); have := vF_lt (r + sm i (fun z => m 264 (8 * s + z) * (rb n (fun z w => m 269 (8 * z + w)) (fun z => m 264 (8 * s + z))) z)); have := vF_ge ((mm53 264 (8 * s + i)) * (mm53 274 i)); have := vF_lt ((mm53 264 (8 * s + i)) * (mm53 274 i)); exact ⟨by omega, by omega⟩) ⟨by omega, by omega⟩ (by omega) (remF (by have := vF_ge (r + sm i (fun z => m 264 (8 * s + z) * (rb n (fun z w => m 269 (8 * z + w)) (fun z => m 264 (8 * s + z))) z)); have := vF_lt (r + sm i (fun z => m 264 (8 * s + z) * (rb n (fun z w => m 269 (8 * z + w)) (fun z => m 264 (8 * s + z))) z)); have := vF_ge ((mm53 264 (8 * s + i)) * (mm53 274 i)); have := vF_lt ((mm53 264 (8 * s + i)) * (mm53 274 i)); omega) (show toF ((vF (r + sm i (fun z => m 264 (8 * s + z) * (rb n (fun z w => m 269 (8 * z + w)) (fun z => m 264 (8 * s + z))) z)) + vF ((mm53 264 (8 * s + i)) * (mm53 274 i)))) = ((r + sm i (fun z => m 264 (8 * s + z) * (rb n (fun z w => m 269 (8 * z + w)) (fun z => m 264 (8 * s + z))) z)) + ((mm53 264 (8 * s + i)) * (mm53 274 i))) by simp only [toF_add, toF_mul, toF_sub, toF_neg, toF_vF, toF_0, toF_1, toF_M, F_add0, F_0sub])) (q_istore (Nat.le_of_ble_eq_true rfl) rfl (q_iinc rfl rfl (q_goto (t := 14) rfl hrr))))))) ?_
          have hA58 : Fr (fun a_ => a_ = 274) m mm53 ∧ ∀ z, z < (i + 1) → mm53 274 z = (rb n (fun z w => m 269 (8 * z + w)) (fun z => m 264 (8 * s + z))) z := by
            refine ⟨fr_w hm54 hF rfl, fun z hz => ?_⟩
            rw [← hm54]
            by_cases q : z = i
            · rw [q, w1_at, hF 269 (by omega), hF 264 (by omega), show n = j by omega]
              rfl
            · rw [w1_ne (fun w => q w.2)]
              exact hv z (by omega)
          exact rw_cast (ih14 (by omega) mm53 (some (.int (iI (sI j (fun z => m1 269 (8 * i + z) * m1 264 (8 * s + z)))))) (some (.int (iI (((j : Nat) : Int))))) hA58) (lcons rfl (lcons rfl (lcons rfl (lcons rfl (lcons rfl (lcons (lvI (by exact congrArg vF (by rw [← hm54, w1_at, w1_a (by omega), hF 264 (by omega), hF 269 (by omega), show n = j by omega, sm_s]; show _ = r + (_ + _ * rb j _ _ i); unfold rb dot; grind))) (lcons (lvI (by omega)) (lcons rfl (lcons rfl (lcons rfl (lcons rfl (lcons rfl rfl)))))))))))) rfl
        · skip
          refine rw_of (fun rr hrr => q_iload rfl (q_aload_n rfl (q_getR (show SH 261 = (18, 0) from rfl) rfl (pt_261_10 hP) (q_bipush rfl (q_iload rfl (q_imul (q_iload rfl (q_iadd (q_iald (j := 8 * i + j) (show SH 269 = (1, 64) from rfl) (by omega) (by omega) rfl (q_aload_n rfl (q_getR (show SH 261 = (18, 0) from rfl) rfl (pt_261_3 hP) (q_bipush rfl (q_iload_n rfl (q_imul (q_iload rfl (q_iadd (q_iald (j := 8 * s + j) (show SH 264 = (1, 104) from rfl) (by omega) (by omega) rfl hrr))))))))))))))))) ?_
          obtain ⟨_, mm59, pp60, hV61, rfl, rfl, rfl⟩ := c_X10_times (S := S) (fz := fz) (m := m1) (p := p) (d := d) (by omega) (m1 269 (8 * i + j)) (m1 264 (8 * s + j))
          refine rw_of (fun rr hrr => q_invS hV61 rfl rfl (okar_cons rfl (okar_cons rfl okar_nil)) (Nat.le_of_ble_eq_true rfl) (q_iadd (q_istore (Nat.le_of_ble_eq_true rfl) rfl (q_iinc rfl rfl (q_goto (t := 27) rfl hrr))))) ?_
          exact rw_cast (ih27 (by omega)) (lcons rfl (lcons rfl (lcons rfl (lcons rfl (lcons rfl (lcons rfl (lcons rfl (lcons (lvI (by rfl)) (lcons (lvI (by omega)) (lcons rfl (lcons rfl (lcons rfl rfl)))))))))))) rfl
      exact rw_cast (hL27 0 (by omega)) (lcons rfl (lcons rfl (lcons rfl (lcons rfl (lcons rfl (lcons rfl (lcons rfl (lcons (lvI (by rfl)) (lcons (lvI (by omega)) (lcons rfl (lcons rfl (lcons rfl rfl)))))))))))) rfl
  exact rw_cast (hL14 0 (by omega) m none none (by exact ⟨Fr_rfl, fun z hz => absurd hz (Nat.not_lt_zero z)⟩)) (lcons rfl (lcons rfl (lcons rfl (lcons rfl (lcons rfl (lcons (lvI (by exact congrArg vF (by rw [sm_0, F_add0]))) (lcons (lvI (by omega)) (lcons rfl (lcons rfl (lcons rfl (lcons rfl (lcons rfl rfl)))))))))))) rfl
theorem c_X10_steps0 {d : Nat} {S : MC} {fz : Bool} {m : M1} {p : M2} (hd : 3 ≤ d) (s n : Nat) (q r : F) (hP : PI p) (hm : m 262 s = nF n) (hn0 : 1 ≤ n) (hn : n ≤ 8) (hs12 : s ≤ 12) (hr : rm n (fun z w => m 269 (8 * z + w)) (fun z => m 264 (8 * s + z)) r = 0) : Ct d k_X10_steps S fz [.ref (261), .int (iI (((s : Nat) : Int))), .int (iI (vF (q))), .int (iI (vF (r)))] m p (fun v m' p' => v = some (.int (iI 0)) ∧ p = p' ∧ Fr (fun a_ => a_ = 269 ∨ a_ = 270 ∨ a_ = 274 ∨ a_ = 275) m m') := by
  obtain ⟨d, rfl⟩ : ∃ e, d = e + 1 := ⟨d - 1, by omega⟩
  refine ct_go (lv := [some (.ref (261)), some (.int (iI (((s : Nat) : Int)))), some (.int (iI (vF (q)))), some (.int (iI (vF (r)))), none, none, none, none, none, none, none, none]) (Nat.le_of_ble_eq_true rfl) (okar_cons rfl (okar_cons rfl (okar_cons rfl (okar_cons rfl okar_nil)))) rfl (fun Qr hQ => ?_)
  refine rw_blk lk_X10_steps_0 ?_
  refine rw_of (fun rr hrr => q_aload_n rfl (q_getR (show SH 261 = (18, 0) from rfl) rfl (pt_261_1 hP) (q_iload_n rfl (q_iald (j := s) (show SH 262 = (1, 13) from rfl) rfl (by omega) (ki rfl hm (by omega)) (q_istore (Nat.le_of_ble_eq_true rfl) rfl (q_iload_n rfl (q_istore (Nat.le_of_ble_eq_true rfl) rfl (q_iconst (q_istore (Nat.le_of_ble_eq_true rfl) rfl hrr))))))))) ?_
  have hL14 : ∀ i, i ≤ n → ∀ (m1 : M1) (x14_7 : Option Value) (x14_8 : Option Value), (Fr (fun a_ => a_ = 274) m m1 ∧ ∀ z, z < i → m1 274 z = (rb n (fun z w => m 269 (8 * z + w)) (fun z => m 264 (8 * s + z))) z) → Rw (Ev d) k_X10_steps (14, [], [some (.ref (261)), some (.int (iI (((s : Nat) : Int)))), some (.int (iI (vF (q)))), some (.int (iI (vF (r)))), some (.int (iI (((n : Nat) : Int)))), some (.int (iI (vF (r + sm i (fun z => m 264 (8 * s + z) * (rb n (fun z w => m 269 (8 * z + w)) (fun z => m 264 (8 * s + z))) z))))), some (.int (iI (((i : Nat) : Int)))), x14_7, x14_8, none, none, none], [], hpM S fz (m1, p), 0, 0) Qr := by
    refine loop_any (fun i hi14 ih14 => ?_)
    intro m1 x14_7 x14_8
    intro hI14
    obtain ⟨hF, hv⟩ := hI14
    refine rw_blk lk_X10_steps_14 ?_
    refine rw_of (fun rr hrr => q_iload rfl (q_iload rfl hrr)) ?_
    refine rw_icmp_ge ⟨by omega, by omega⟩ ⟨by omega, by omega⟩ (t := 123) rfl (fun hc1 => ?_) (fun hc1 => ?_)
    · skip
      refine rw_blk lk_X10_steps_123 ?_
      refine rw_of (fun rr hrr => q_iload rfl hrr) ?_
      refine rw_if_ne (rg_vF _) (t := 130) rfl (fun hc2 => ?_) (fun hc2 => ?_)
      · exact absurd (vF_eq0.mpr ((show _ = rm n (fun z w => m 269 (8 * z + w)) (fun z => m 264 (8 * s + z)) r from by rw [show i = n by omega]; rfl).trans hr)) hc2
      · skip
        refine rw_of (fun rr hrr => q_iconst hrr) ?_
        refine rw_ret hQ (q_ireturn (by omega)) ?_
        exact ⟨rfl, rfl, Fr_mono hF (fun a ha => by omega)⟩
        
    · skip
      refine rw_of (fun rr hrr => q_iconst (q_istore (Nat.le_of_ble_eq_true rfl) rfl (q_iconst (q_istore (Nat.le_of_ble_eq_true rfl) rfl hrr)))) ?_
      have hL27 : ∀ j, j ≤ n → Rw (Ev d) k_X10_steps (27, [], [some (.ref (261)), some (.int (iI (((s : Nat) : Int)))), some (.int (iI (vF (q)))), some (.int (iI (vF (r)))), some (.int (iI (((n : Nat) : Int)))), some (.int (iI (vF (r + sm i (fun z => m 264 (8 * s + z) * (rb n (fun z w => m 269 (8 * z + w)) (fun z => m 264 (8 * s + z))) z))))), some (.int (iI (((i : Nat) : Int)))), some (.int (iI (sI j (fun z => m1 269 (8 * i + z) * m1 264 (8 * s + z))))), some (.int (iI (((j : Nat) : Int)))), none, none, none], [], hpM S fz (m1, p), 0, 0) Qr := by
        refine loop_any (fun j hi27 ih27 => ?_)
        refine rw_blk lk_X10_steps_27 ?_
        refine rw_of (fun rr hrr => q_iload rfl (q_iload rfl hrr)) ?_
        refine rw_icmp_ge ⟨by omega, by omega⟩ ⟨by omega, by omega⟩ (t := 73) rfl (fun hc3 => ?_) (fun hc3 => ?_)
        · skip
          refine rw_blk lk_X10_steps_73 ?_
          refine rw_of (fun rr hrr => q_aload_n rfl (q_getR (show SH 261 = (18, 0) from rfl) rfl (pt_261_15 hP) (q_iload rfl (q_iload rfl (q_sipush rfl (q_irem (sI_rg (by omega)) ⟨by omega, by omega⟩ (by omega) (by exact sI_rem _ _) (q_iast (j := i) (xx := sm j (fun z => m1 269 (8 * i + z) * m1 264 (8 * s + z))) (show SH 274 = (1, 8) from rfl) rfl (by omega) rfl hrr))))))) ?_
          generalize hm5 : w1 m1 274 i (sm j (fun z => m1 269 (8 * i + z) * m1 264 (8 * s + z))) = mm4
          refine rw_of (fun rr hrr => q_iload rfl (q_aload_n rfl (q_getR (show SH 261 = (18, 0) from rfl) rfl (pt_261_3 hP) (q_bipush rfl (q_iload_n rfl (q_imul (q_iload rfl (q_iadd (q_iald (j := 8 * s + i) (show SH 264 = (1, 104) from rfl) (by omega) (by omega) rfl (q_aload_n rfl (q_getR (show SH 261 = (18, 0) from rfl) rfl (pt_261_15 hP) (q_iload rfl (q_iald (j := i) (show SH 274 = (1, 8) from rfl) rfl (by omega) rfl hrr))))))))))))) ?_
          obtain ⟨_, mm6, pp7, hV8, rfl, rfl, rfl⟩ := c_X10_times (S := S) (fz := fz) (m := mm4) (p := p) (d := d) (by omega) (mm4 264 (8 * s + i)) (mm4 274 i)
          refine rw_of (fun rr hrr => q_invS hV8 rfl rfl (okar_cons rfl (okar_cons rfl okar_nil)) (Nat.le_of_ble_eq_true rfl) (q_iadd (q_sipush rfl (q_irem (by have := vF_ge (r + sm i (fun z => m 264 (8 * s + z) * (rb n (fun z w => m 269 (8 * z + w)) (fun z => m 264 (8 * s + z))) z)); have := vF_lt (r + sm i (fun z => m 264 (8 * s + z) * (rb n (fun z w => m 269 (8 * z + w)) (fun z => m 264 (8 * s + z))) z)); have := vF_ge ((mm4 264 (8 * s + i)) * (mm4 274 i)); have := vF_lt ((mm4 264 (8 * s + i)) * (mm4 274 i)); exact ⟨by omega, by omega⟩) ⟨by omega, by omega⟩ (by omega) (remF (by have := vF_ge (r + sm i (fun z => m 264 (8 * s + z) * (rb n (fun z w => m 269 (8 * z + w)) (fun z => m 264 (8 * s + z))) z)); have := vF_lt (r + sm i (fun z => m 264 (8 * s + z) * (rb n (fun z w => m 269 (8 * z + w)) (fun z => m 264 (8 * s + z))) z)); have := vF_ge ((mm4 264 (8 * s + i)) * (mm4 274 i)); have := vF_lt ((mm4 264 (8 * s + i)) * (mm4 274 i)); omega) (show toF ((vF (r + sm i (fun z => m 264 (8 * s + z) * (rb n (fun z w => m 269 (8 * z + w)) (fun z => m 264 (8 * s + z))) z)) + vF ((mm4 264 (8 * s + i)) * (mm4 274 i)))) = ((r + sm i (fun z => m 264 (8 * s + z) * (rb n (fun z w => m 269 (8 * z + w)) (fun z => m 264 (8 * s + z))) z)) + ((mm4 264 (8 * s + i)) * (mm4 274 i))) by simp only [toF_add, toF_mul, toF_sub, toF_neg, toF_vF, toF_0, toF_1, toF_M, F_add0, F_0sub])) (q_istore (Nat.le_of_ble_eq_true rfl) rfl (q_iinc rfl rfl (q_goto (t := 14) rfl hrr))))))) ?_
          have hA9 : Fr (fun a_ => a_ = 274) m mm4 ∧ ∀ z, z < (i + 1) → mm4 274 z = (rb n (fun z w => m 269 (8 * z + w)) (fun z => m 264 (8 * s + z))) z := by
            refine ⟨fr_w hm5 hF rfl, fun z hz => ?_⟩
            rw [← hm5]
            by_cases q : z = i
            · rw [q, w1_at, hF 269 (by omega), hF 264 (by omega), show n = j by omega]
              rfl
            · rw [w1_ne (fun w => q w.2)]
              exact hv z (by omega)
          exact rw_cast (ih14 (by omega) mm4 (some (.int (iI (sI j (fun z => m1 269 (8 * i + z) * m1 264 (8 * s + z)))))) (some (.int (iI (((j : Nat) : Int))))) hA9) (lcons rfl (lcons rfl (lcons rfl (lcons rfl (lcons rfl (lcons (lvI (by exact congrArg vF (by rw [← hm5, w1_at, w1_a (by omega), hF 264 (by omega), hF 269 (by omega), show n = j by omega, sm_s]; show _ = r + (_ + _ * rb j _ _ i); unfold rb dot; grind))) (lcons (lvI (by omega)) (lcons rfl (lcons rfl (lcons rfl (lcons rfl (lcons rfl rfl)))))))))))) rfl
        · skip
          refine rw_of (fun rr hrr => q_iload rfl (q_aload_n rfl (q_getR (show SH 261 = (18, 0) from rfl) rfl (pt_261_10 hP) (q_bipush rfl (q_iload rfl (q_imul (q_iload rfl (q_iadd (q_iald (j := 8 * i + j) (show SH 269 = (1, 64) from rfl) (by omega) (by omega) rfl (q_aload_n rfl (q_getR (show SH 261 = (18, 0) from rfl) rfl (pt_261_3 hP) (q_bipush rfl (q_iload_n rfl (q_imul (q_iload rfl (q_iadd (q_iald (j := 8 * s + j) (show SH 264 = (1, 104) from rfl) (by omega) (by omega) rfl hrr))))))))))))))))) ?_
          obtain ⟨_, mm10, pp11, hV12, rfl, rfl, rfl⟩ := c_X10_times (S := S) (fz := fz) (m := m1) (p := p) (d := d) (by omega) (m1 269 (8 * i + j)) (m1 264 (8 * s + j))
          refine rw_of (fun rr hrr => q_invS hV12 rfl rfl (okar_cons rfl (okar_cons rfl okar_nil)) (Nat.le_of_ble_eq_true rfl) (q_iadd (q_istore (Nat.le_of_ble_eq_true rfl) rfl (q_iinc rfl rfl (q_goto (t := 27) rfl hrr))))) ?_
          exact rw_cast (ih27 (by omega)) (lcons rfl (lcons rfl (lcons rfl (lcons rfl (lcons rfl (lcons rfl (lcons rfl (lcons (lvI (by rfl)) (lcons (lvI (by omega)) (lcons rfl (lcons rfl (lcons rfl rfl)))))))))))) rfl
      exact rw_cast (hL27 0 (by omega)) (lcons rfl (lcons rfl (lcons rfl (lcons rfl (lcons rfl (lcons rfl (lcons rfl (lcons (lvI (by rfl)) (lcons (lvI (by omega)) (lcons rfl (lcons rfl (lcons rfl rfl)))))))))))) rfl
  exact rw_cast (hL14 0 (by omega) m none none (by exact ⟨Fr_rfl, fun z hz => absurd hz (Nat.not_lt_zero z)⟩)) (lcons rfl (lcons rfl (lcons rfl (lcons rfl (lcons rfl (lcons (lvI (by exact congrArg vF (by rw [sm_0, F_add0]))) (lcons (lvI (by omega)) (lcons rfl (lcons rfl (lcons rfl (lcons rfl (lcons rfl rfl)))))))))))) rfl
