theorem c_X10_loop1 {d : Nat} {S : MC} {fz : Bool} {m : M1} {p : M2} (hd : 3 ≤ d) (s k n : Nat) (x : Int) (hP : PI p) (hk : m 261 0 = nF k) (hk12 : k ≤ 12) (hsk : s < k) (hm : m 262 s = nF n) (hn0 : 1 ≤ n) (hn : n ≤ 8) (hx : -10007 < x ∧ x < 10007) (hs0 : (1 + toF x * m 266 s) ≠ 0) (hk1 : k < 12) : Ct d k_X10_loop S fz [.ref (261), .int (iI (((s : Nat) : Int))), .int (iI (x))] m p (fun v m' p' => v = some (.int (iI ((k : Nat) : Int))) ∧ p = p' ∧ MK k (n) (fun z w => m 263 (64 * s + 8 * z + w) - m 264 (8 * s + z) * toF x * m 265 (8 * s + w) * iv (1 + toF x * m 266 s)) (fun z => m 264 (8 * s + z) * iv (1 + toF x * m 266 s)) (fun z => m 265 (8 * s + z) * iv (1 + toF x * m 266 s)) (m 266 s * iv (1 + toF x * m 266 s)) m m') := by
  obtain ⟨d, rfl⟩ : ∃ e, d = e + 1 := ⟨d - 1, by omega⟩
  refine ct_go (lv := [some (.ref (261)), some (.int (iI (((s : Nat) : Int)))), some (.int (iI (x))), none, none, none, none, none, none, none]) (Nat.le_of_ble_eq_true rfl) (okar_cons rfl (okar_cons rfl (okar_cons rfl okar_nil))) rfl (fun Qr hQ => ?_)
  refine rw_blk lk_X10_loop_0 ?_
  refine rw_of (fun rr hrr => q_iload_n rfl hrr) ?_
  obtain ⟨_, mm1, pp2, hV3, rfl, rfl, rfl⟩ := c_X10_isValue1 (S := S) (fz := fz) (m := m) (p := p) (d := d) (by omega) (x) (by omega) (by omega)
  refine rw_of (fun rr hrr => q_invS hV3 rfl rfl (okar_cons rfl okar_nil) (Nat.le_of_ble_eq_true rfl) hrr) ?_
  refine rw_if_eq ⟨by omega, by omega⟩ (t := 14) rfl (fun hc4 => ?_) (fun hc4 => ?_)
  · exfalso; omega
  · skip
    refine rw_of (fun rr hrr => q_iload_n rfl hrr) ?_
    obtain ⟨_, mm5, pp6, hV7, rfl, rfl, rfl⟩ := c_X10_rest (S := S) (fz := fz) (m := m) (p := p) (d := d) (by omega) (x) (by omega)
    refine rw_of (fun rr hrr => q_invS hV7 rfl rfl (okar_cons rfl okar_nil) (Nat.le_of_ble_eq_true rfl) (q_goto (t := 15) rfl hrr)) ?_
    refine rw_blk lk_X10_loop_15 ?_
    refine rw_of (fun rr hrr => q_istore_n (Nat.le_of_ble_eq_true rfl) rfl (q_aload_n rfl (q_iload_n rfl hrr))) ?_
    obtain ⟨_, mm8, pp9, hV10, rfl, rfl, rfl⟩ := c_X10_isSystem1 (S := S) (fz := fz) (m := m) (p := p) (d := d) (by omega) (((s : Nat) : Int)) (k) hP hk (by omega) (by omega) (by omega)
    refine rw_of (fun rr hrr => q_invV hV10 (show SH 261 = (18, 0) from rfl) rfl rfl (okar_cons rfl okar_nil) (Nat.le_of_ble_eq_true rfl) hrr) ?_
    refine rw_if_eq ⟨by omega, by omega⟩ (t := 43) rfl (fun hc11 => ?_) (fun hc11 => ?_)
    · exfalso; omega
    · skip
      refine rw_of (fun rr hrr => q_iconst (q_iload_n rfl (q_aload_n rfl (q_getR (show SH 261 = (18, 0) from rfl) rfl (pt_261_5 hP) (q_iload_n rfl (q_iald (j := s) (show SH 266 = (1, 13) from rfl) rfl (by omega) rfl hrr)))))) ?_
      obtain ⟨_, mm12, pp13, hV14, rfl, rfl, rfl⟩ := c_X10_times (S := S) (fz := fz) (m := m) (p := p) (d := d) (by omega) (toF x) (m 266 s)
      refine rw_of (fun rr hrr => q_invS hV14 rfl rfl (okar_cons rfl (okar_cons rfl okar_nil)) (Nat.le_of_ble_eq_true rfl) (q_iadd (q_sipush rfl (q_irem (by have := vF_ge ((toF x) * (m 266 s)); have := vF_lt ((toF x) * (m 266 s)); exact ⟨by omega, by omega⟩) ⟨by omega, by omega⟩ (by omega) (remF (by have := vF_ge ((toF x) * (m 266 s)); have := vF_lt ((toF x) * (m 266 s)); omega) (show toF ((1 + vF ((toF x) * (m 266 s)))) = (1 + ((toF x) * (m 266 s))) by simp only [toF_add, toF_mul, toF_sub, toF_neg, toF_vF, toF_0, toF_1, toF_M, F_add0, F_0sub])) (q_goto (t := 44) rfl hrr))))) ?_
      refine rw_blk lk_X10_loop_44 ?_
      refine rw_of (fun rr hrr => q_istore (Nat.le_of_ble_eq_true rfl) rfl (q_aload_n rfl (q_aload_n rfl (q_iload_n rfl hrr)))) ?_
      obtain ⟨_, mm15, pp16, hV17, rfl, rfl, rfl⟩ := c_X10_isSystem1 (S := S) (fz := fz) (m := m) (p := p) (d := d) (by omega) (((s : Nat) : Int)) (k) hP hk (by omega) (by omega) (by omega)
      refine rw_of (fun rr hrr => q_invV hV17 (show SH 261 = (18, 0) from rfl) rfl rfl (okar_cons rfl okar_nil) (Nat.le_of_ble_eq_true rfl) hrr) ?_
      refine rw_if_ne ⟨by omega, by omega⟩ (t := 59) rfl (fun hc18 => ?_) (fun hc18 => ?_)
      · skip
        refine rw_blk lk_X10_loop_59 ?_
        refine rw_of (fun rr hrr => q_iload_n rfl hrr) ?_
        obtain ⟨_, mm19, pp20, hV21, rfl, rfl, rfl⟩ := c_X10_isValue1 (S := S) (fz := fz) (m := m) (p := p) (d := d) (by omega) (x) (by omega) (by omega)
        refine rw_of (fun rr hrr => q_invS hV21 rfl rfl (okar_cons rfl okar_nil) (Nat.le_of_ble_eq_true rfl) hrr) ?_
        refine rw_if_ne ⟨by omega, by omega⟩ (t := 70) rfl (fun hc22 => ?_) (fun hc22 => ?_)
        · skip
          refine rw_blk lk_X10_loop_70 ?_
          refine rw_of (fun rr hrr => q_iload rfl hrr) ?_
          refine rw_if_eq (rg_vF _) (t := 84) rfl (fun hc23 => ?_) (fun hc23 => ?_)
          · exact absurd (vF_eq0.mp hc23) hs0
          · skip
            refine rw_of (fun rr hrr => q_aload_n rfl (q_getI (show SH 261 = (18, 0) from rfl) rfl (ki rfl hk (by omega)) (q_bipush rfl hrr))) ?_
            refine rw_icmp_ne ⟨by omega, by omega⟩ ⟨by omega, by omega⟩ (t := 88) rfl (fun hc24 => ?_) (fun hc24 => ?_)
            · skip
              refine rw_blk lk_X10_loop_88 ?_
              refine rw_of (fun rr hrr => q_iconst hrr) ?_
              refine rw_blk lk_X10_loop_89 ?_
              obtain ⟨_, mm25, pp26, hV27, rfl, rfl, hw27, hF27⟩ := c_X10_fails0 (S := S) (fz := fz) (m := m) (p := p) (d := d) (by omega) hP
              refine rw_of (fun rr hrr => q_invV hV27 (show SH 261 = (18, 0) from rfl) rfl rfl (okar_cons rfl okar_nil) (Nat.le_of_ble_eq_true rfl) hrr) ?_
              refine rw_if_eq ⟨by omega, by omega⟩ (t := 97) rfl (fun hc28 => ?_) (fun hc28 => ?_)
              · skip
                refine rw_blk lk_X10_loop_97 ?_
                refine rw_of (fun rr hrr => q_aload_n rfl (q_getI (show SH 261 = (18, 0) from rfl) rfl (by rw [(show mm25 261 0 = m 261 0 from by rw [← hw27, w1_ne (by omega)]), hk, vF_nF (by omega)]) (q_istore (Nat.le_of_ble_eq_true rfl) rfl (q_iload rfl hrr)))) ?_
                obtain ⟨_, mm29, pp30, hV31, rfl, rfl, rfl⟩ := c_X10_inverse (S := S) (fz := fz) (m := mm25) (p := p) (d := d) (by omega) ((1 + ((toF x) * (m 266 s))))
                refine rw_of (fun rr hrr => q_invS hV31 rfl rfl (okar_cons rfl okar_nil) (Nat.le_of_ble_eq_true rfl) (q_istore (Nat.le_of_ble_eq_true rfl) rfl (q_aload_n rfl (q_iload_n rfl (q_iload rfl hrr))))) ?_
                obtain ⟨_, mm32, pp33, hV34, rfl, rfl, hF34, ho34, hd34, hA34, hb34, hc34⟩ := c_X10_copies (S := S) (fz := fz) (m := mm25) (p := p) (d := d) (by omega) (s) (k) hP (by omega) (by omega) (by omega)
                refine rw_of (fun rr hrr => q_invV hV34 (show SH 261 = (18, 0) from rfl) rfl rfl (okar_cons rfl (okar_cons rfl okar_nil)) (Nat.le_of_ble_eq_true rfl) hrr) ?_
                have e3 : mm25 263 = m 263 := hF27 263 (by omega)
                have e4 : mm25 264 = m 264 := hF27 264 (by omega)
                have e5 : mm25 265 = m 265 := hF27 265 (by omega)
                have e6 : mm25 266 = m 266 := hF27 266 (by omega)
                have hot := Ot_of ho34 hd34 hA34 hb34 hc34
                refine rw_of (fun rr hrr => q_iconst (q_istore (Nat.le_of_ble_eq_true rfl) rfl hrr)) ?_
                have hL120 : ∀ i, i ≤ n → ∀ (m1 : M1) (x120_8 : Option Value) (x120_9 : Option Value), (Fr (fun a_ => a_ = 263 ∨ a_ = 264 ∨ a_ = 265) mm32 m1 ∧ Ot k mm32 m1 ∧ (∀ z, z < i → ∀ w, w < n → m1 263 (64 * k + 8 * z + w) = (fun z w => m 263 (64 * s + 8 * z + w) - m 264 (8 * s + z) * toF x * m 265 (8 * s + w) * iv (1 + toF x * m 266 s)) z w) ∧ ∀ z, z < i → m1 264 (8 * k + z) = (fun z => m 264 (8 * s + z) * iv (1 + toF x * m 266 s)) z ∧ m1 265 (8 * k + z) = (fun z => m 265 (8 * s + z) * iv (1 + toF x * m 266 s)) z) → Rw (Ev d) k_X10_loop (120, [], [some (.ref (261)), some (.int (iI (((s : Nat) : Int)))), some (.int (iI (x))), some (.int (iI (vF (toF x)))), some (.int (iI (vF ((1 + ((toF x) * (m 266 s))))))), some (.int (iI (((k : Nat) : Int)))), some (.int (iI (vF (iv ((1 + ((toF x) * (m 266 s)))))))), some (.int (iI (((i : Nat) : Int)))), x120_8, x120_9], [], hpM S fz (m1, p), 0, 0) Qr := by
                  refine loop_any (fun i hi120 ih120 => ?_)
                  intro m1 x120_8 x120_9
                  intro hI120
                  obtain ⟨hF1, hO1, hA1, hV1⟩ := hI120
                  have ho1 := Ot_trans hot hO1
                  have eb : ∀ z, z < 8 → m1 264 (8 * s + z) = m 264 (8 * s + z) := fun z hz => by rw [(ho1.2.1 (8 * s + z) (by omega)).1, e4]
                  have ec : ∀ z, z < 8 → m1 265 (8 * s + z) = m 265 (8 * s + z) := fun z hz => by rw [(ho1.2.1 (8 * s + z) (by omega)).2, e5]
                  have eA : ∀ z w, z < 8 → w < 8 → m1 263 (64 * s + 8 * z + w) = m 263 (64 * s + 8 * z + w) := fun z w hz hw => by rw [ho1.1 (64 * s + 8 * z + w) (by omega), e3]
                  have hs1 : m1 262 s = nF n := by rw [(ho1.2.2 s hsk).1, hF27 262 (by omega)]; exact hm
                  refine rw_blk lk_X10_loop_120 ?_
                  refine rw_of (fun rr hrr => q_iload rfl (q_aload_n rfl (q_getR (show SH 261 = (18, 0) from rfl) rfl (pt_261_1 hP) (q_iload_n rfl (q_iald (j := s) (show SH 262 = (1, 13) from rfl) rfl (by omega) (ki rfl hs1 (by omega)) hrr))))) ?_
                  refine rw_icmp_ge ⟨by omega, by omega⟩ ⟨by omega, by omega⟩ (t := 289) rfl (fun hc35 => ?_) (fun hc35 => ?_)
                  · skip
                    refine rw_blk lk_X10_loop_289 ?_
                    refine rw_of (fun rr hrr => q_aload_n rfl (q_getR (show SH 261 = (18, 0) from rfl) rfl (pt_261_5 hP) (q_iload rfl (q_aload_n rfl (q_getR (show SH 261 = (18, 0) from rfl) rfl (pt_261_5 hP) (q_iload_n rfl (q_iald (j := s) (show SH 266 = (1, 13) from rfl) rfl (by omega) rfl (q_iload rfl hrr)))))))) ?_
                    obtain ⟨_, mm36, pp37, hV38, rfl, rfl, rfl⟩ := c_X10_times (S := S) (fz := fz) (m := m1) (p := p) (d := d) (by omega) (m1 266 s) (iv ((1 + ((toF x) * (m 266 s)))))
                    refine rw_of (fun rr hrr => q_invS hV38 rfl rfl (okar_cons rfl (okar_cons rfl okar_nil)) (Nat.le_of_ble_eq_true rfl) (q_iast (j := k) (xx := (m1 266 s) * (iv ((1 + ((toF x) * (m 266 s)))))) (show SH 266 = (1, 13) from rfl) rfl (by omega) rfl hrr)) ?_
                    generalize hm40 : w1 m1 266 k ((m1 266 s) * (iv ((1 + ((toF x) * (m 266 s)))))) = mm39
                    refine rw_of (fun rr hrr => q_aload_n rfl (q_dup rfl (q_getI (show SH 261 = (18, 0) from rfl) rfl (by rw [(show mm39 261 0 = m1 261 0 from by rw [← hm40, w1_ne (by omega)]), (show m1 261 0 = mm32 261 0 from congrFun (hF1 261 (by show ¬ (261 = 263 ∨ 261 = 264 ∨ 261 = 265); omega)) 0), (show mm32 261 0 = mm25 261 0 from congrFun (hF34 261 (by show ¬ (262 ≤ 261 ∧ 261 ≤ 266); omega)) 0), (show mm25 261 0 = m 261 0 from by rw [← hw27, w1_ne (by omega)]), hk, vF_nF (by omega)]) (q_iconst (q_iadd (q_putI (xx := nF (k + 1)) (show SH 261 = (18, 0) from rfl) rfl rfl ((show _ = ((k + 1 : Nat) : Int) by omega).trans (vF_nF (by omega)).symm) hrr)))))) ?_
                    generalize hm42 : w1 mm39 261 0 (nF (k + 1)) = mm41
                    refine rw_of (fun rr hrr => q_iload rfl hrr) ?_
                    refine rw_ret hQ (q_ireturn (Or.inl rfl)) ?_
                    
                    have e9 : n = i := (by omega)
                    subst e9
                    refine ⟨rfl, rfl, MK_end (MKb_of Fr_rfl (fun a (ha : False) => ha.elim) hw27 (fr_w hm40 (Fr_trans (Fr_mono hF34 (fun a (ha : 262 ≤ a ∧ a ≤ 266) => ha)) (Fr_mono hF1 (fun a ha => by omega))) (by omega)) (fun a (ha : 262 ≤ a ∧ a ≤ 266) => Or.inl ha) (Ot_w hm40 (Ot_trans hot hO1) (by omega)) ?_ ?_ ?_ ?_) hm42⟩
                    · rw [← hm40, w1_a (by omega), hF1 262 (by omega), ho34, if_pos rfl, hF27 262 (by omega)]
                      exact hm
                    · intro z hz w hw
                      rw [← hm40, w1_a (by omega)]
                      exact hA1 z hz w hw
                    · intro z hz
                      rw [← hm40, w1_a (by omega), w1_a (by omega)]
                      exact hV1 z hz
                    · rw [← hm40, w1_at, hF1 266 (by omega), (hot.2.2 s hsk).2, e6]
                    
                  · skip
                    refine rw_of (fun rr hrr => q_iconst (q_istore (Nat.le_of_ble_eq_true rfl) rfl hrr)) ?_
                    have hL134 : ∀ j, j ≤ n → ∀ (m2 : M1) (x134_9 : Option Value), (Fr (fun a_ => a_ = 263) m1 m2 ∧ Ot k m1 m2 ∧ (∀ w, w < j → m2 263 (64 * k + 8 * i + w) = (fun z w => m 263 (64 * s + 8 * z + w) - m 264 (8 * s + z) * toF x * m 265 (8 * s + w) * iv (1 + toF x * m 266 s)) i w) ∧ ∀ y, y < 64 * k + 8 * i → m2 263 y = m1 263 y) → Rw (Ev d) k_X10_loop (134, [], [some (.ref (261)), some (.int (iI (((s : Nat) : Int)))), some (.int (iI (x))), some (.int (iI (vF (toF x)))), some (.int (iI (vF ((1 + ((toF x) * (m 266 s))))))), some (.int (iI (((k : Nat) : Int)))), some (.int (iI (vF (iv ((1 + ((toF x) * (m 266 s)))))))), some (.int (iI (((i : Nat) : Int)))), some (.int (iI (((j : Nat) : Int)))), x134_9], [], hpM S fz (m2, p), 0, 0) Qr := by
                      refine loop_any (fun j hi134 ih134 => ?_)
                      intro m2 x134_9
                      intro hI134
                      obtain ⟨hF2, hO2, hA2, hU2⟩ := hI134
                      refine rw_blk lk_X10_loop_134 ?_
                      refine rw_of (fun rr hrr => q_iload rfl (q_aload_n rfl (q_getR (show SH 261 = (18, 0) from rfl) rfl (pt_261_1 hP) (q_iload_n rfl (q_iald (j := s) (show SH 262 = (1, 13) from rfl) rfl (by omega) (ki (hF2 262 (by show ¬ (262 = 263); omega)) hs1 (by omega)) hrr))))) ?_
                      refine rw_icmp_ge ⟨by omega, by omega⟩ ⟨by omega, by omega⟩ (t := 223) rfl (fun hc43 => ?_) (fun hc43 => ?_)
                      · skip
                        refine rw_blk lk_X10_loop_223 ?_
                        refine rw_of (fun rr hrr => q_aload_n rfl (q_getR (show SH 261 = (18, 0) from rfl) rfl (pt_261_3 hP) (q_bipush rfl (q_iload rfl (q_imul (q_iload rfl (q_iadd (q_aload_n rfl (q_getR (show SH 261 = (18, 0) from rfl) rfl (pt_261_3 hP) (q_bipush rfl (q_iload_n rfl (q_imul (q_iload rfl (q_iadd (q_iald (j := 8 * s + i) (show SH 264 = (1, 104) from rfl) (by omega) (by omega) rfl (q_iload rfl hrr)))))))))))))))) ?_
                        obtain ⟨_, mm44, pp45, hV46, rfl, rfl, rfl⟩ := c_X10_times (S := S) (fz := fz) (m := m2) (p := p) (d := d) (by omega) (m2 264 (8 * s + i)) (iv ((1 + ((toF x) * (m 266 s)))))
                        refine rw_of (fun rr hrr => q_invS hV46 rfl rfl (okar_cons rfl (okar_cons rfl okar_nil)) (Nat.le_of_ble_eq_true rfl) (q_iast (j := 8 * k + i) (xx := (m2 264 (8 * s + i)) * (iv ((1 + ((toF x) * (m 266 s)))))) (show SH 264 = (1, 104) from rfl) (by omega) (by omega) rfl hrr)) ?_
                        generalize hm48 : w1 m2 264 (8 * k + i) ((m2 264 (8 * s + i)) * (iv ((1 + ((toF x) * (m 266 s)))))) = mm47
                        refine rw_of (fun rr hrr => q_aload_n rfl (q_getR (show SH 261 = (18, 0) from rfl) rfl (pt_261_4 hP) (q_bipush rfl (q_iload rfl (q_imul (q_iload rfl (q_iadd (q_aload_n rfl (q_getR (show SH 261 = (18, 0) from rfl) rfl (pt_261_4 hP) (q_bipush rfl (q_iload_n rfl (q_imul (q_iload rfl (q_iadd (q_iald (j := 8 * s + i) (show SH 265 = (1, 104) from rfl) (by omega) (by omega) rfl (q_iload rfl hrr)))))))))))))))) ?_
                        obtain ⟨_, mm49, pp50, hV51, rfl, rfl, rfl⟩ := c_X10_times (S := S) (fz := fz) (m := mm47) (p := p) (d := d) (by omega) (mm47 265 (8 * s + i)) (iv ((1 + ((toF x) * (m 266 s)))))
                        refine rw_of (fun rr hrr => q_invS hV51 rfl rfl (okar_cons rfl (okar_cons rfl okar_nil)) (Nat.le_of_ble_eq_true rfl) (q_iast (j := 8 * k + i) (xx := (mm47 265 (8 * s + i)) * (iv ((1 + ((toF x) * (m 266 s)))))) (show SH 265 = (1, 104) from rfl) (by omega) (by omega) rfl hrr)) ?_
                        generalize hm53 : w1 mm47 265 (8 * k + i) ((mm47 265 (8 * s + i)) * (iv ((1 + ((toF x) * (m 266 s)))))) = mm52
                        refine rw_of (fun rr hrr => q_iinc rfl rfl (q_goto (t := 120) rfl hrr)) ?_
                        have hA54 : Fr (fun a_ => a_ = 263 ∨ a_ = 264 ∨ a_ = 265) mm32 mm52 ∧ Ot k mm32 mm52 ∧ (∀ z, z < (i + 1) → ∀ w, w < n → mm52 263 (64 * k + 8 * z + w) = (fun z w => m 263 (64 * s + 8 * z + w) - m 264 (8 * s + z) * toF x * m 265 (8 * s + w) * iv (1 + toF x * m 266 s)) z w) ∧ ∀ z, z < (i + 1) → mm52 264 (8 * k + z) = (fun z => m 264 (8 * s + z) * iv (1 + toF x * m 266 s)) z ∧ mm52 265 (8 * k + z) = (fun z => m 265 (8 * s + z) * iv (1 + toF x * m 266 s)) z := by
                          refine ⟨fr_w hm53 (fr_w hm48 (Fr_trans hF1 (Fr_mono hF2 (fun a ha => by omega))) (by omega)) (by omega), Ot_w hm53 (Ot_w hm48 (Ot_trans hO1 hO2) (by omega)) (by omega), fun z hz w hw => ?_, fun z hz => ?_⟩
                          · rw [← hm53, w1_a (by omega), ← hm48, w1_a (by omega)]
                            by_cases q : z = i
                            · rw [q]
                              exact hA2 w (by omega)
                            · rw [hU2 _ (by omega)]
                              exact hA1 z (by omega) w hw
                          · rw [← hm53, ← hm48]
                            by_cases q : z = i
                            · rw [q, w1_a (by omega), w1_at, w1_at, w1_a (by omega), hF2 264 (by omega), hF2 265 (by omega), eb i (by omega), ec i (by omega)]
                              exact ⟨rfl, rfl⟩
                            · rw [w1_a (by omega), w1_ne (by omega), w1_ne (by omega), w1_a (by omega), hF2 264 (by omega), hF2 265 (by omega)]
                              exact hV1 z (by omega)
                        exact rw_cast (ih120 (by omega) mm52 (some (.int (iI (((j : Nat) : Int))))) x134_9 hA54) (lcons rfl (lcons rfl (lcons rfl (lcons rfl (lcons rfl (lcons rfl (lcons rfl (lcons (lvI (by omega)) (lcons rfl (lcons rfl rfl)))))))))) rfl
                      · skip
                        refine rw_of (fun rr hrr => q_aload_n rfl (q_getR (show SH 261 = (18, 0) from rfl) rfl (pt_261_3 hP) (q_bipush rfl (q_iload_n rfl (q_imul (q_iload rfl (q_iadd (q_iald (j := 8 * s + i) (show SH 264 = (1, 104) from rfl) (by omega) (by omega) rfl (q_iload_n rfl hrr))))))))) ?_
                        obtain ⟨_, mm55, pp56, hV57, rfl, rfl, rfl⟩ := c_X10_times (S := S) (fz := fz) (m := m2) (p := p) (d := d) (by omega) (m2 264 (8 * s + i)) (toF x)
                        refine rw_of (fun rr hrr => q_invS hV57 rfl rfl (okar_cons rfl (okar_cons rfl okar_nil)) (Nat.le_of_ble_eq_true rfl) (q_aload_n rfl (q_getR (show SH 261 = (18, 0) from rfl) rfl (pt_261_4 hP) (q_bipush rfl (q_iload_n rfl (q_imul (q_iload rfl (q_iadd (q_iald (j := 8 * s + j) (show SH 265 = (1, 104) from rfl) (by omega) (by omega) rfl hrr))))))))) ?_
                        obtain ⟨_, mm58, pp59, hV60, rfl, rfl, rfl⟩ := c_X10_times (S := S) (fz := fz) (m := m2) (p := p) (d := d) (by omega) ((m2 264 (8 * s + i)) * (toF x)) (m2 265 (8 * s + j))
                        refine rw_of (fun rr hrr => q_invS hV60 rfl rfl (okar_cons rfl (okar_cons rfl okar_nil)) (Nat.le_of_ble_eq_true rfl) (q_iload rfl hrr)) ?_
                        obtain ⟨_, mm61, pp62, hV63, rfl, rfl, rfl⟩ := c_X10_times (S := S) (fz := fz) (m := m2) (p := p) (d := d) (by omega) (((m2 264 (8 * s + i)) * (toF x)) * (m2 265 (8 * s + j))) (iv ((1 + ((toF x) * (m 266 s)))))
                        refine rw_of (fun rr hrr => q_invS hV63 rfl rfl (okar_cons rfl (okar_cons rfl okar_nil)) (Nat.le_of_ble_eq_true rfl) (q_istore (Nat.le_of_ble_eq_true rfl) rfl (q_aload_n rfl (q_getR (show SH 261 = (18, 0) from rfl) rfl (pt_261_2 hP) (q_bipush rfl (q_iload rfl (q_imul (q_bipush rfl (q_iload rfl (q_imul (q_iadd (q_iload rfl (q_iadd (q_aload_n rfl (q_iload_n rfl (q_iload rfl (q_iload rfl hrr))))))))))))))))) ?_
                        obtain ⟨_, mm64, pp65, hV66, rfl, rfl, rfl⟩ := c_X10_square (S := S) (fz := fz) (m := m2) (p := p) (d := d) (by omega) (s) (i) (j) hP (by omega) (by omega) (by omega)
                        refine rw_of (fun rr hrr => q_invV hV66 (show SH 261 = (18, 0) from rfl) rfl rfl (okar_cons rfl (okar_cons rfl (okar_cons rfl okar_nil))) (Nat.le_of_ble_eq_true rfl) (q_iload rfl (q_isub hrr))) ?_
                        obtain ⟨_, mm67, pp68, hV69, rfl, rfl, rfl⟩ := c_X10_rest (S := S) (fz := fz) (m := m2) (p := p) (d := d) (by omega) ((vF (m2 263 (64 * s + 8 * i + j)) - vF ((((m2 264 (8 * s + i)) * (toF x)) * (m2 265 (8 * s + j))) * (iv ((1 + ((toF x) * (m 266 s)))))))) (by have := vF_ge (m2 263 (64 * s + 8 * i + j)); have := vF_lt (m2 263 (64 * s + 8 * i + j)); have := vF_ge ((((m2 264 (8 * s + i)) * (toF x)) * (m2 265 (8 * s + j))) * (iv ((1 + ((toF x) * (m 266 s)))))); have := vF_lt ((((m2 264 (8 * s + i)) * (toF x)) * (m2 265 (8 * s + j))) * (iv ((1 + ((toF x) * (m 266 s)))))); omega)
                        refine rw_of (fun rr hrr => q_invS hV69 rfl rfl (okar_cons rfl okar_nil) (Nat.le_of_ble_eq_true rfl) (q_iast (j := 64 * k + (8 * i) + j) (xx := toF ((vF (m2 263 (64 * s + 8 * i + j)) - vF ((((m2 264 (8 * s + i)) * (toF x)) * (m2 265 (8 * s + j))) * (iv ((1 + ((toF x) * (m 266 s))))))))) (show SH 263 = (1, 832) from rfl) (by omega) (by omega) rfl hrr)) ?_
                        generalize hm71 : w1 m2 263 (64 * k + (8 * i) + j) (toF ((vF (m2 263 (64 * s + 8 * i + j)) - vF ((((m2 264 (8 * s + i)) * (toF x)) * (m2 265 (8 * s + j))) * (iv ((1 + ((toF x) * (m 266 s))))))))) = mm70
                        refine rw_of (fun rr hrr => q_iinc rfl rfl (q_goto (t := 134) rfl hrr)) ?_
                        have hA72 : Fr (fun a_ => a_ = 263) m1 mm70 ∧ Ot k m1 mm70 ∧ (∀ w, w < (j + 1) → mm70 263 (64 * k + 8 * i + w) = (fun z w => m 263 (64 * s + 8 * z + w) - m 264 (8 * s + z) * toF x * m 265 (8 * s + w) * iv (1 + toF x * m 266 s)) i w) ∧ ∀ y, y < 64 * k + 8 * i → mm70 263 y = m1 263 y := by
                          refine ⟨fr_w hm71 hF2 (by omega), Ot_w hm71 hO2 (by omega), fun w hw => ?_, fun y hy => ?_⟩
                          · rw [← hm71]
                            by_cases q : w = j
                            · rw [q, w1_at, toF_sub, toF_vF, toF_vF, hU2 _ (by omega), eA i j (by omega) (by omega), hF2 264 (by omega), hF2 265 (by omega), eb i (by omega), ec j (by omega)]
                            · rw [w1_ne (by omega)]
                              exact hA2 w (by omega)
                          · rw [← hm71, w1_ne (by omega)]
                            exact hU2 y hy
                        exact rw_cast (ih134 (by omega) mm70 (some (.int (iI (vF ((((m2 264 (8 * s + i)) * (toF x)) * (m2 265 (8 * s + j))) * (iv ((1 + ((toF x) * (m 266 s)))))))))) hA72) (lcons rfl (lcons rfl (lcons rfl (lcons rfl (lcons rfl (lcons rfl (lcons rfl (lcons rfl (lcons (lvI (by omega)) (lcons rfl rfl)))))))))) rfl
                    exact rw_cast (hL134 0 (by omega) m1 x120_9 (by exact ⟨Fr_rfl, Ot_rfl, fun w hw => absurd hw (Nat.not_lt_zero w), fun _ _ => rfl⟩)) (lcons rfl (lcons rfl (lcons rfl (lcons rfl (lcons rfl (lcons rfl (lcons rfl (lcons rfl (lcons (lvI (by omega)) (lcons rfl rfl)))))))))) rfl
                exact rw_cast (hL120 0 (by omega) mm32 none none (by exact ⟨Fr_rfl, Ot_rfl, fun z hz => absurd hz (Nat.not_lt_zero z), fun z hz => absurd hz (Nat.not_lt_zero z)⟩)) (lcons rfl (lcons rfl (lcons rfl (lcons rfl (lcons rfl (lcons rfl (lcons rfl (lcons (lvI (by omega)) (lcons rfl (lcons rfl rfl)))))))))) rfl
              · exfalso; omega
            · exfalso; omega
        · exfalso; omega
      · exfalso; omega
theorem c_X10_loopS1 {d : Nat} {S : MC} {fz : Bool} {m : M1} {p : M2} (hd : 3 ≤ d) (s x : Int) (k : Nat) (hP : PI p) (hk : m 261 0 = nF k) (hk12 : k ≤ 12) (hr : (-2147483648 ≤ s ∧ s < 2147483648)) (h : ¬ (0 ≤ s ∧ s < k)) (hrx : (-2147483648 ≤ x ∧ x < 2147483648)) (hx : -10007 < x ∧ x < 10007) : Ct d k_X10_loop S fz [.ref (261), .int (iI (s)), .int (iI (x))] m p (fun v m' p' => v = some (.int (iI (0))) ∧ p = p' ∧ QMx 1 m m') := by
  obtain ⟨d, rfl⟩ : ∃ e, d = e + 1 := ⟨d - 1, by omega⟩
  refine ct_go (lv := [some (.ref (261)), some (.int (iI (s))), some (.int (iI (x))), none, none, none, none, none, none, none]) (Nat.le_of_ble_eq_true rfl) (okar_cons rfl (okar_cons rfl (okar_cons rfl okar_nil))) rfl (fun Qr hQ => ?_)
  refine rw_blk lk_X10_loop_0 ?_
  refine rw_of (fun rr hrr => q_iload_n rfl hrr) ?_
  obtain ⟨_, mm1, pp2, hV3, rfl, rfl, rfl⟩ := c_X10_isValue1 (S := S) (fz := fz) (m := m) (p := p) (d := d) (by omega) (x) (by omega) (by omega)
  refine rw_of (fun rr hrr => q_invS hV3 rfl rfl (okar_cons rfl okar_nil) (Nat.le_of_ble_eq_true rfl) hrr) ?_
  refine rw_if_eq ⟨by omega, by omega⟩ (t := 14) rfl (fun hc4 => ?_) (fun hc4 => ?_)
  · exfalso; omega
  · skip
    refine rw_of (fun rr hrr => q_iload_n rfl hrr) ?_
    obtain ⟨_, mm5, pp6, hV7, rfl, rfl, rfl⟩ := c_X10_rest (S := S) (fz := fz) (m := m) (p := p) (d := d) (by omega) (x) (by omega)
    refine rw_of (fun rr hrr => q_invS hV7 rfl rfl (okar_cons rfl okar_nil) (Nat.le_of_ble_eq_true rfl) (q_goto (t := 15) rfl hrr)) ?_
    refine rw_blk lk_X10_loop_15 ?_
    refine rw_of (fun rr hrr => q_istore_n (Nat.le_of_ble_eq_true rfl) rfl (q_aload_n rfl (q_iload_n rfl hrr))) ?_
    obtain ⟨_, mm8, pp9, hV10, rfl, rfl, rfl⟩ := c_X10_isSystem0 (S := S) (fz := fz) (m := m) (p := p) (d := d) (by omega) (s) (k) hP hk (by omega) (by omega) (by omega)
    refine rw_of (fun rr hrr => q_invV hV10 (show SH 261 = (18, 0) from rfl) rfl rfl (okar_cons rfl okar_nil) (Nat.le_of_ble_eq_true rfl) hrr) ?_
    refine rw_if_eq ⟨by omega, by omega⟩ (t := 43) rfl (fun hc11 => ?_) (fun hc11 => ?_)
    · skip
      refine rw_blk lk_X10_loop_43 ?_
      refine rw_of (fun rr hrr => q_iconst hrr) ?_
      refine rw_blk lk_X10_loop_44 ?_
      refine rw_of (fun rr hrr => q_istore (Nat.le_of_ble_eq_true rfl) rfl (q_aload_n rfl (q_aload_n rfl (q_iload_n rfl hrr)))) ?_
      obtain ⟨_, mm12, pp13, hV14, rfl, rfl, rfl⟩ := c_X10_isSystem0 (S := S) (fz := fz) (m := m) (p := p) (d := d) (by omega) (s) (k) hP hk (by omega) (by omega) (by omega)
      refine rw_of (fun rr hrr => q_invV hV14 (show SH 261 = (18, 0) from rfl) rfl rfl (okar_cons rfl okar_nil) (Nat.le_of_ble_eq_true rfl) hrr) ?_
      refine rw_if_ne ⟨by omega, by omega⟩ (t := 59) rfl (fun hc15 => ?_) (fun hc15 => ?_)
      · exfalso; omega
      · skip
        refine rw_of (fun rr hrr => q_iconst (q_goto (t := 89) rfl hrr)) ?_
        refine rw_blk lk_X10_loop_89 ?_
        obtain ⟨_, mm16, pp17, hV18, rfl, rfl, hw18, hF18⟩ := c_X10_fails1 (S := S) (fz := fz) (m := m) (p := p) (d := d) (by omega) (1) hP (by omega)
        refine rw_of (fun rr hrr => q_invV hV18 (show SH 261 = (18, 0) from rfl) rfl rfl (okar_cons rfl okar_nil) (Nat.le_of_ble_eq_true rfl) hrr) ?_
        refine rw_if_eq ⟨by omega, by omega⟩ (t := 97) rfl (fun hc19 => ?_) (fun hc19 => ?_)
        · exfalso; omega
        · skip
          refine rw_of (fun rr hrr => q_iconst hrr) ?_
          refine rw_ret hQ (q_ireturn (Or.inl rfl)) ?_
          first
            | exact ⟨rfl, rfl, QMx_w hw18 rfl⟩
            | (exfalso; omega)
          
    · exfalso; omega
theorem c_X10_loopS0 {d : Nat} {S : MC} {fz : Bool} {m : M1} {p : M2} (hd : 3 ≤ d) (s x : Int) (k : Nat) (hP : PI p) (hk : m 261 0 = nF k) (hk12 : k ≤ 12) (hr : (-2147483648 ≤ s ∧ s < 2147483648)) (h : ¬ (0 ≤ s ∧ s < k)) (hrx : (-2147483648 ≤ x ∧ x < 2147483648)) (hx : x ≤ -10007 ∨ 10007 ≤ x) : Ct d k_X10_loop S fz [.ref (261), .int (iI (s)), .int (iI (x))] m p (fun v m' p' => v = some (.int (iI (0))) ∧ p = p' ∧ QMx 1 m m') := by
  obtain ⟨d, rfl⟩ : ∃ e, d = e + 1 := ⟨d - 1, by omega⟩
  refine ct_go (lv := [some (.ref (261)), some (.int (iI (s))), some (.int (iI (x))), none, none, none, none, none, none, none]) (Nat.le_of_ble_eq_true rfl) (okar_cons rfl (okar_cons rfl (okar_cons rfl okar_nil))) rfl (fun Qr hQ => ?_)
  refine rw_blk lk_X10_loop_0 ?_
  refine rw_of (fun rr hrr => q_iload_n rfl hrr) ?_
  obtain ⟨_, mm1, pp2, hV3, rfl, rfl, rfl⟩ := c_X10_isValue0 (S := S) (fz := fz) (m := m) (p := p) (d := d) (by omega) (x) (by omega) (by omega)
  refine rw_of (fun rr hrr => q_invS hV3 rfl rfl (okar_cons rfl okar_nil) (Nat.le_of_ble_eq_true rfl) hrr) ?_
  refine rw_if_eq ⟨by omega, by omega⟩ (t := 14) rfl (fun hc4 => ?_) (fun hc4 => ?_)
  · skip
    refine rw_blk lk_X10_loop_14 ?_
    refine rw_of (fun rr hrr => q_iconst hrr) ?_
    refine rw_blk lk_X10_loop_15 ?_
    refine rw_of (fun rr hrr => q_istore_n (Nat.le_of_ble_eq_true rfl) rfl (q_aload_n rfl (q_iload_n rfl hrr))) ?_
    obtain ⟨_, mm5, pp6, hV7, rfl, rfl, rfl⟩ := c_X10_isSystem0 (S := S) (fz := fz) (m := m) (p := p) (d := d) (by omega) (s) (k) hP hk (by omega) (by omega) (by omega)
    refine rw_of (fun rr hrr => q_invV hV7 (show SH 261 = (18, 0) from rfl) rfl rfl (okar_cons rfl okar_nil) (Nat.le_of_ble_eq_true rfl) hrr) ?_
    refine rw_if_eq ⟨by omega, by omega⟩ (t := 43) rfl (fun hc8 => ?_) (fun hc8 => ?_)
    · skip
      refine rw_blk lk_X10_loop_43 ?_
      refine rw_of (fun rr hrr => q_iconst hrr) ?_
      refine rw_blk lk_X10_loop_44 ?_
      refine rw_of (fun rr hrr => q_istore (Nat.le_of_ble_eq_true rfl) rfl (q_aload_n rfl (q_aload_n rfl (q_iload_n rfl hrr)))) ?_
      obtain ⟨_, mm9, pp10, hV11, rfl, rfl, rfl⟩ := c_X10_isSystem0 (S := S) (fz := fz) (m := m) (p := p) (d := d) (by omega) (s) (k) hP hk (by omega) (by omega) (by omega)
      refine rw_of (fun rr hrr => q_invV hV11 (show SH 261 = (18, 0) from rfl) rfl rfl (okar_cons rfl okar_nil) (Nat.le_of_ble_eq_true rfl) hrr) ?_
      refine rw_if_ne ⟨by omega, by omega⟩ (t := 59) rfl (fun hc12 => ?_) (fun hc12 => ?_)
      · exfalso; omega
      · skip
        refine rw_of (fun rr hrr => q_iconst (q_goto (t := 89) rfl hrr)) ?_
        refine rw_blk lk_X10_loop_89 ?_
        obtain ⟨_, mm13, pp14, hV15, rfl, rfl, hw15, hF15⟩ := c_X10_fails1 (S := S) (fz := fz) (m := m) (p := p) (d := d) (by omega) (1) hP (by omega)
        refine rw_of (fun rr hrr => q_invV hV15 (show SH 261 = (18, 0) from rfl) rfl rfl (okar_cons rfl okar_nil) (Nat.le_of_ble_eq_true rfl) hrr) ?_
        refine rw_if_eq ⟨by omega, by omega⟩ (t := 97) rfl (fun hc16 => ?_) (fun hc16 => ?_)
        · exfalso; omega
        · skip
          refine rw_of (fun rr hrr => q_iconst hrr) ?_
          refine rw_ret hQ (q_ireturn (Or.inl rfl)) ?_
          first
            | exact ⟨rfl, rfl, QMx_w hw15 rfl⟩
            | (exfalso; omega)
          
    · exfalso; omega
  · exfalso; omega
theorem c_X10_loopX {d : Nat} {S : MC} {fz : Bool} {m : M1} {p : M2} (hd : 3 ≤ d) (s k n : Nat) (x : Int) (hP : PI p) (hk : m 261 0 = nF k) (hk12 : k ≤ 12) (hsk : s < k) (hm : m 262 s = nF n) (hn0 : 1 ≤ n) (hn : n ≤ 8) (hrx : (-2147483648 ≤ x ∧ x < 2147483648)) (hx : x ≤ -10007 ∨ 10007 ≤ x) : Ct d k_X10_loop S fz [.ref (261), .int (iI (((s : Nat) : Int))), .int (iI (x))] m p (fun v m' p' => v = some (.int (iI (0))) ∧ p = p' ∧ QMx 2 m m') := by
  obtain ⟨d, rfl⟩ : ∃ e, d = e + 1 := ⟨d - 1, by omega⟩
  refine ct_go (lv := [some (.ref (261)), some (.int (iI (((s : Nat) : Int)))), some (.int (iI (x))), none, none, none, none, none, none, none]) (Nat.le_of_ble_eq_true rfl) (okar_cons rfl (okar_cons rfl (okar_cons rfl okar_nil))) rfl (fun Qr hQ => ?_)
  refine rw_blk lk_X10_loop_0 ?_
  refine rw_of (fun rr hrr => q_iload_n rfl hrr) ?_
  obtain ⟨_, mm1, pp2, hV3, rfl, rfl, rfl⟩ := c_X10_isValue0 (S := S) (fz := fz) (m := m) (p := p) (d := d) (by omega) (x) (by omega) (by omega)
  refine rw_of (fun rr hrr => q_invS hV3 rfl rfl (okar_cons rfl okar_nil) (Nat.le_of_ble_eq_true rfl) hrr) ?_
  refine rw_if_eq ⟨by omega, by omega⟩ (t := 14) rfl (fun hc4 => ?_) (fun hc4 => ?_)
  · skip
    refine rw_blk lk_X10_loop_14 ?_
    refine rw_of (fun rr hrr => q_iconst hrr) ?_
    refine rw_blk lk_X10_loop_15 ?_
    refine rw_of (fun rr hrr => q_istore_n (Nat.le_of_ble_eq_true rfl) rfl (q_aload_n rfl (q_iload_n rfl hrr))) ?_
    obtain ⟨_, mm5, pp6, hV7, rfl, rfl, rfl⟩ := c_X10_isSystem1 (S := S) (fz := fz) (m := m) (p := p) (d := d) (by omega) (((s : Nat) : Int)) (k) hP hk (by omega) (by omega) (by omega)
    refine rw_of (fun rr hrr => q_invV hV7 (show SH 261 = (18, 0) from rfl) rfl rfl (okar_cons rfl okar_nil) (Nat.le_of_ble_eq_true rfl) hrr) ?_
    refine rw_if_eq ⟨by omega, by omega⟩ (t := 43) rfl (fun hc8 => ?_) (fun hc8 => ?_)
    · exfalso; omega
    · skip
      refine rw_of (fun rr hrr => q_iconst (q_iload_n rfl (q_aload_n rfl (q_getR (show SH 261 = (18, 0) from rfl) rfl (pt_261_5 hP) (q_iload_n rfl (q_iald (j := s) (show SH 266 = (1, 13) from rfl) rfl (by omega) rfl hrr)))))) ?_
      obtain ⟨_, mm9, pp10, hV11, rfl, rfl, rfl⟩ := c_X10_times (S := S) (fz := fz) (m := m) (p := p) (d := d) (by omega) ((0 : F)) (m 266 s)
      refine rw_of (fun rr hrr => q_invS hV11 rfl rfl (okar_cons rfl (okar_cons rfl okar_nil)) (Nat.le_of_ble_eq_true rfl) (q_iadd (q_sipush rfl (q_irem (by have := vF_ge (((0 : F)) * (m 266 s)); have := vF_lt (((0 : F)) * (m 266 s)); exact ⟨by omega, by omega⟩) ⟨by omega, by omega⟩ (by omega) (remF (by have := vF_ge (((0 : F)) * (m 266 s)); have := vF_lt (((0 : F)) * (m 266 s)); omega) (show toF ((1 + vF (((0 : F)) * (m 266 s)))) = (1 + (((0 : F)) * (m 266 s))) by simp only [toF_add, toF_mul, toF_sub, toF_neg, toF_vF, toF_0, toF_1, toF_M, F_add0, F_0sub])) (q_goto (t := 44) rfl hrr))))) ?_
      refine rw_blk lk_X10_loop_44 ?_
      refine rw_of (fun rr hrr => q_istore (Nat.le_of_ble_eq_true rfl) rfl (q_aload_n rfl (q_aload_n rfl (q_iload_n rfl hrr)))) ?_
      obtain ⟨_, mm12, pp13, hV14, rfl, rfl, rfl⟩ := c_X10_isSystem1 (S := S) (fz := fz) (m := m) (p := p) (d := d) (by omega) (((s : Nat) : Int)) (k) hP hk (by omega) (by omega) (by omega)
      refine rw_of (fun rr hrr => q_invV hV14 (show SH 261 = (18, 0) from rfl) rfl rfl (okar_cons rfl okar_nil) (Nat.le_of_ble_eq_true rfl) hrr) ?_
      refine rw_if_ne ⟨by omega, by omega⟩ (t := 59) rfl (fun hc15 => ?_) (fun hc15 => ?_)
      · skip
        refine rw_blk lk_X10_loop_59 ?_
        refine rw_of (fun rr hrr => q_iload_n rfl hrr) ?_
        obtain ⟨_, mm16, pp17, hV18, rfl, rfl, rfl⟩ := c_X10_isValue0 (S := S) (fz := fz) (m := m) (p := p) (d := d) (by omega) (x) (by omega) (by omega)
        refine rw_of (fun rr hrr => q_invS hV18 rfl rfl (okar_cons rfl okar_nil) (Nat.le_of_ble_eq_true rfl) hrr) ?_
        refine rw_if_ne ⟨by omega, by omega⟩ (t := 70) rfl (fun hc19 => ?_) (fun hc19 => ?_)
        · exfalso; omega
        · skip
          refine rw_of (fun rr hrr => q_iconst (q_goto (t := 89) rfl hrr)) ?_
          refine rw_blk lk_X10_loop_89 ?_
          obtain ⟨_, mm20, pp21, hV22, rfl, rfl, hw22, hF22⟩ := c_X10_fails1 (S := S) (fz := fz) (m := m) (p := p) (d := d) (by omega) (2) hP (by omega)
          refine rw_of (fun rr hrr => q_invV hV22 (show SH 261 = (18, 0) from rfl) rfl rfl (okar_cons rfl okar_nil) (Nat.le_of_ble_eq_true rfl) hrr) ?_
          refine rw_if_eq ⟨by omega, by omega⟩ (t := 97) rfl (fun hc23 => ?_) (fun hc23 => ?_)
          · exfalso; omega
          · skip
            refine rw_of (fun rr hrr => q_iconst hrr) ?_
            refine rw_ret hQ (q_ireturn (Or.inl rfl)) ?_
            first
              | exact ⟨rfl, rfl, QMx_w hw22 rfl⟩
              | (exfalso; omega)
            
      · exfalso; omega
  · exfalso; omega
theorem c_X10_loopZ {d : Nat} {S : MC} {fz : Bool} {m : M1} {p : M2} (hd : 3 ≤ d) (s k n : Nat) (x : Int) (hP : PI p) (hk : m 261 0 = nF k) (hk12 : k ≤ 12) (hsk : s < k) (hm : m 262 s = nF n) (hn0 : 1 ≤ n) (hn : n ≤ 8) (hx : -10007 < x ∧ x < 10007) (hs0 : (1 + toF x * m 266 s) = 0) : Ct d k_X10_loop S fz [.ref (261), .int (iI (((s : Nat) : Int))), .int (iI (x))] m p (fun v m' p' => v = some (.int (iI (0))) ∧ p = p' ∧ QMx 3 m m') := by
  obtain ⟨d, rfl⟩ : ∃ e, d = e + 1 := ⟨d - 1, by omega⟩
  refine ct_go (lv := [some (.ref (261)), some (.int (iI (((s : Nat) : Int)))), some (.int (iI (x))), none, none, none, none, none, none, none]) (Nat.le_of_ble_eq_true rfl) (okar_cons rfl (okar_cons rfl (okar_cons rfl okar_nil))) rfl (fun Qr hQ => ?_)
  refine rw_blk lk_X10_loop_0 ?_
  refine rw_of (fun rr hrr => q_iload_n rfl hrr) ?_
  obtain ⟨_, mm1, pp2, hV3, rfl, rfl, rfl⟩ := c_X10_isValue1 (S := S) (fz := fz) (m := m) (p := p) (d := d) (by omega) (x) (by omega) (by omega)
  refine rw_of (fun rr hrr => q_invS hV3 rfl rfl (okar_cons rfl okar_nil) (Nat.le_of_ble_eq_true rfl) hrr) ?_
  refine rw_if_eq ⟨by omega, by omega⟩ (t := 14) rfl (fun hc4 => ?_) (fun hc4 => ?_)
  · exfalso; omega
  · skip
    refine rw_of (fun rr hrr => q_iload_n rfl hrr) ?_
    obtain ⟨_, mm5, pp6, hV7, rfl, rfl, rfl⟩ := c_X10_rest (S := S) (fz := fz) (m := m) (p := p) (d := d) (by omega) (x) (by omega)
    refine rw_of (fun rr hrr => q_invS hV7 rfl rfl (okar_cons rfl okar_nil) (Nat.le_of_ble_eq_true rfl) (q_goto (t := 15) rfl hrr)) ?_
    refine rw_blk lk_X10_loop_15 ?_
    refine rw_of (fun rr hrr => q_istore_n (Nat.le_of_ble_eq_true rfl) rfl (q_aload_n rfl (q_iload_n rfl hrr))) ?_
    obtain ⟨_, mm8, pp9, hV10, rfl, rfl, rfl⟩ := c_X10_isSystem1 (S := S) (fz := fz) (m := m) (p := p) (d := d) (by omega) (((s : Nat) : Int)) (k) hP hk (by omega) (by omega) (by omega)
    refine rw_of (fun rr hrr => q_invV hV10 (show SH 261 = (18, 0) from rfl) rfl rfl (okar_cons rfl okar_nil) (Nat.le_of_ble_eq_true rfl) hrr) ?_
    refine rw_if_eq ⟨by omega, by omega⟩ (t := 43) rfl (fun hc11 => ?_) (fun hc11 => ?_)
    · exfalso; omega
    · skip
      refine rw_of (fun rr hrr => q_iconst (q_iload_n rfl (q_aload_n rfl (q_getR (show SH 261 = (18, 0) from rfl) rfl (pt_261_5 hP) (q_iload_n rfl (q_iald (j := s) (show SH 266 = (1, 13) from rfl) rfl (by omega) rfl hrr)))))) ?_
      obtain ⟨_, mm12, pp13, hV14, rfl, rfl, rfl⟩ := c_X10_times (S := S) (fz := fz) (m := m) (p := p) (d := d) (by omega) (toF x) (m 266 s)
      refine rw_of (fun rr hrr => q_invS hV14 rfl rfl (okar_cons rfl (okar_cons rfl okar_nil)) (Nat.le_of_ble_eq_true rfl) (q_iadd (q_sipush rfl (q_irem (by have := vF_ge ((toF x) * (m 266 s)); have := vF_lt ((toF x) * (m 266 s)); exact ⟨by omega, by omega⟩) ⟨by omega, by omega⟩ (by omega) (remF (by have := vF_ge ((toF x) * (m 266 s)); have := vF_lt ((toF x) * (m 266 s)); omega) (show toF ((1 + vF ((toF x) * (m 266 s)))) = (1 + ((toF x) * (m 266 s))) by simp only [toF_add, toF_mul, toF_sub, toF_neg, toF_vF, toF_0, toF_1, toF_M, F_add0, F_0sub])) (q_goto (t := 44) rfl hrr))))) ?_
      refine rw_blk lk_X10_loop_44 ?_
      refine rw_of (fun rr hrr => q_istore (Nat.le_of_ble_eq_true rfl) rfl (q_aload_n rfl (q_aload_n rfl (q_iload_n rfl hrr)))) ?_
      obtain ⟨_, mm15, pp16, hV17, rfl, rfl, rfl⟩ := c_X10_isSystem1 (S := S) (fz := fz) (m := m) (p := p) (d := d) (by omega) (((s : Nat) : Int)) (k) hP hk (by omega) (by omega) (by omega)
      refine rw_of (fun rr hrr => q_invV hV17 (show SH 261 = (18, 0) from rfl) rfl rfl (okar_cons rfl okar_nil) (Nat.le_of_ble_eq_true rfl) hrr) ?_
      refine rw_if_ne ⟨by omega, by omega⟩ (t := 59) rfl (fun hc18 => ?_) (fun hc18 => ?_)
      · skip
        refine rw_blk lk_X10_loop_59 ?_
        refine rw_of (fun rr hrr => q_iload_n rfl hrr) ?_
        obtain ⟨_, mm19, pp20, hV21, rfl, rfl, rfl⟩ := c_X10_isValue1 (S := S) (fz := fz) (m := m) (p := p) (d := d) (by omega) (x) (by omega) (by omega)
        refine rw_of (fun rr hrr => q_invS hV21 rfl rfl (okar_cons rfl okar_nil) (Nat.le_of_ble_eq_true rfl) hrr) ?_
        refine rw_if_ne ⟨by omega, by omega⟩ (t := 70) rfl (fun hc22 => ?_) (fun hc22 => ?_)
        · skip
          refine rw_blk lk_X10_loop_70 ?_
          refine rw_of (fun rr hrr => q_iload rfl hrr) ?_
          refine rw_if_eq (rg_vF _) (t := 84) rfl (fun hc23 => ?_) (fun hc23 => ?_)
          · skip
            refine rw_blk lk_X10_loop_84 ?_
            refine rw_of (fun rr hrr => q_iconst (q_goto (t := 89) rfl hrr)) ?_
            refine rw_blk lk_X10_loop_89 ?_
            obtain ⟨_, mm24, pp25, hV26, rfl, rfl, hw26, hF26⟩ := c_X10_fails1 (S := S) (fz := fz) (m := m) (p := p) (d := d) (by omega) (3) hP (by omega)
            refine rw_of (fun rr hrr => q_invV hV26 (show SH 261 = (18, 0) from rfl) rfl rfl (okar_cons rfl okar_nil) (Nat.le_of_ble_eq_true rfl) hrr) ?_
            refine rw_if_eq ⟨by omega, by omega⟩ (t := 97) rfl (fun hc27 => ?_) (fun hc27 => ?_)
            · exfalso; omega
            · skip
              refine rw_of (fun rr hrr => q_iconst hrr) ?_
              refine rw_ret hQ (q_ireturn (Or.inl rfl)) ?_
              first
                | exact ⟨rfl, rfl, QMx_w hw26 rfl⟩
                | (exfalso; omega)
              
          · exact absurd (vF_eq0.mpr hs0) hc23
        · exfalso; omega
      · exfalso; omega
theorem c_X10_loopF {d : Nat} {S : MC} {fz : Bool} {m : M1} {p : M2} (hd : 3 ≤ d) (s k n : Nat) (x : Int) (hP : PI p) (hk : m 261 0 = nF k) (hk12 : k ≤ 12) (hsk : s < k) (hm : m 262 s = nF n) (hn0 : 1 ≤ n) (hn : n ≤ 8) (hx : -10007 < x ∧ x < 10007) (hs0 : (1 + toF x * m 266 s) ≠ 0) (hk1 : k = 12) : Ct d k_X10_loop S fz [.ref (261), .int (iI (((s : Nat) : Int))), .int (iI (x))] m p (fun v m' p' => v = some (.int (iI (0))) ∧ p = p' ∧ QMx 3 m m') := by
  obtain ⟨d, rfl⟩ : ∃ e, d = e + 1 := ⟨d - 1, by omega⟩
  refine ct_go (lv := [some (.ref (261)), some (.int (iI (((s : Nat) : Int)))), some (.int (iI (x))), none, none, none, none, none, none, none]) (Nat.le_of_ble_eq_true rfl) (okar_cons rfl (okar_cons rfl (okar_cons rfl okar_nil))) rfl (fun Qr hQ => ?_)
  refine rw_blk lk_X10_loop_0 ?_
  refine rw_of (fun rr hrr => q_iload_n rfl hrr) ?_
  obtain ⟨_, mm1, pp2, hV3, rfl, rfl, rfl⟩ := c_X10_isValue1 (S := S) (fz := fz) (m := m) (p := p) (d := d) (by omega) (x) (by omega) (by omega)
  refine rw_of (fun rr hrr => q_invS hV3 rfl rfl (okar_cons rfl okar_nil) (Nat.le_of_ble_eq_true rfl) hrr) ?_
  refine rw_if_eq ⟨by omega, by omega⟩ (t := 14) rfl (fun hc4 => ?_) (fun hc4 => ?_)
  · exfalso; omega
  · skip
    refine rw_of (fun rr hrr => q_iload_n rfl hrr) ?_
    obtain ⟨_, mm5, pp6, hV7, rfl, rfl, rfl⟩ := c_X10_rest (S := S) (fz := fz) (m := m) (p := p) (d := d) (by omega) (x) (by omega)
    refine rw_of (fun rr hrr => q_invS hV7 rfl rfl (okar_cons rfl okar_nil) (Nat.le_of_ble_eq_true rfl) (q_goto (t := 15) rfl hrr)) ?_
    refine rw_blk lk_X10_loop_15 ?_
    refine rw_of (fun rr hrr => q_istore_n (Nat.le_of_ble_eq_true rfl) rfl (q_aload_n rfl (q_iload_n rfl hrr))) ?_
    obtain ⟨_, mm8, pp9, hV10, rfl, rfl, rfl⟩ := c_X10_isSystem1 (S := S) (fz := fz) (m := m) (p := p) (d := d) (by omega) (((s : Nat) : Int)) (k) hP hk (by omega) (by omega) (by omega)
    refine rw_of (fun rr hrr => q_invV hV10 (show SH 261 = (18, 0) from rfl) rfl rfl (okar_cons rfl okar_nil) (Nat.le_of_ble_eq_true rfl) hrr) ?_
    refine rw_if_eq ⟨by omega, by omega⟩ (t := 43) rfl (fun hc11 => ?_) (fun hc11 => ?_)
    · exfalso; omega
    · skip
      refine rw_of (fun rr hrr => q_iconst (q_iload_n rfl (q_aload_n rfl (q_getR (show SH 261 = (18, 0) from rfl) rfl (pt_261_5 hP) (q_iload_n rfl (q_iald (j := s) (show SH 266 = (1, 13) from rfl) rfl (by omega) rfl hrr)))))) ?_
      obtain ⟨_, mm12, pp13, hV14, rfl, rfl, rfl⟩ := c_X10_times (S := S) (fz := fz) (m := m) (p := p) (d := d) (by omega) (toF x) (m 266 s)
      refine rw_of (fun rr hrr => q_invS hV14 rfl rfl (okar_cons rfl (okar_cons rfl okar_nil)) (Nat.le_of_ble_eq_true rfl) (q_iadd (q_sipush rfl (q_irem (by have := vF_ge ((toF x) * (m 266 s)); have := vF_lt ((toF x) * (m 266 s)); exact ⟨by omega, by omega⟩) ⟨by omega, by omega⟩ (by omega) (remF (by have := vF_ge ((toF x) * (m 266 s)); have := vF_lt ((toF x) * (m 266 s)); omega) (show toF ((1 + vF ((toF x) * (m 266 s)))) = (1 + ((toF x) * (m 266 s))) by simp only [toF_add, toF_mul, toF_sub, toF_neg, toF_vF, toF_0, toF_1, toF_M, F_add0, F_0sub])) (q_goto (t := 44) rfl hrr))))) ?_
      refine rw_blk lk_X10_loop_44 ?_
      refine rw_of (fun rr hrr => q_istore (Nat.le_of_ble_eq_true rfl) rfl (q_aload_n rfl (q_aload_n rfl (q_iload_n rfl hrr)))) ?_
      obtain ⟨_, mm15, pp16, hV17, rfl, rfl, rfl⟩ := c_X10_isSystem1 (S := S) (fz := fz) (m := m) (p := p) (d := d) (by omega) (((s : Nat) : Int)) (k) hP hk (by omega) (by omega) (by omega)
      refine rw_of (fun rr hrr => q_invV hV17 (show SH 261 = (18, 0) from rfl) rfl rfl (okar_cons rfl okar_nil) (Nat.le_of_ble_eq_true rfl) hrr) ?_
      refine rw_if_ne ⟨by omega, by omega⟩ (t := 59) rfl (fun hc18 => ?_) (fun hc18 => ?_)
      · skip
        refine rw_blk lk_X10_loop_59 ?_
        refine rw_of (fun rr hrr => q_iload_n rfl hrr) ?_
        obtain ⟨_, mm19, pp20, hV21, rfl, rfl, rfl⟩ := c_X10_isValue1 (S := S) (fz := fz) (m := m) (p := p) (d := d) (by omega) (x) (by omega) (by omega)
        refine rw_of (fun rr hrr => q_invS hV21 rfl rfl (okar_cons rfl okar_nil) (Nat.le_of_ble_eq_true rfl) hrr) ?_
        refine rw_if_ne ⟨by omega, by omega⟩ (t := 70) rfl (fun hc22 => ?_) (fun hc22 => ?_)
        · skip
          refine rw_blk lk_X10_loop_70 ?_
          refine rw_of (fun rr hrr => q_iload rfl hrr) ?_
          refine rw_if_eq (rg_vF _) (t := 84) rfl (fun hc23 => ?_) (fun hc23 => ?_)
          · exact absurd (vF_eq0.mp hc23) hs0
          · skip
            refine rw_of (fun rr hrr => q_aload_n rfl (q_getI (show SH 261 = (18, 0) from rfl) rfl (ki rfl hk (by omega)) (q_bipush rfl hrr))) ?_
            refine rw_icmp_ne ⟨by omega, by omega⟩ ⟨by omega, by omega⟩ (t := 88) rfl (fun hc24 => ?_) (fun hc24 => ?_)
            · exfalso; omega
            · skip
              refine rw_blk lk_X10_loop_84 ?_
              refine rw_of (fun rr hrr => q_iconst (q_goto (t := 89) rfl hrr)) ?_
              refine rw_blk lk_X10_loop_89 ?_
              obtain ⟨_, mm25, pp26, hV27, rfl, rfl, hw27, hF27⟩ := c_X10_fails1 (S := S) (fz := fz) (m := m) (p := p) (d := d) (by omega) (3) hP (by omega)
              refine rw_of (fun rr hrr => q_invV hV27 (show SH 261 = (18, 0) from rfl) rfl rfl (okar_cons rfl okar_nil) (Nat.le_of_ble_eq_true rfl) hrr) ?_
              refine rw_if_eq ⟨by omega, by omega⟩ (t := 97) rfl (fun hc28 => ?_) (fun hc28 => ?_)
              · exfalso; omega
              · skip
                refine rw_of (fun rr hrr => q_iconst hrr) ?_
                refine rw_ret hQ (q_ireturn (Or.inl rfl)) ?_
                first
                  | exact ⟨rfl, rfl, QMx_w hw27 rfl⟩
                  | (exfalso; omega)
                
        · exfalso; omega
      · exfalso; omega
theorem c_X10_placed1 {d : Nat} {S : MC} {fz : Bool} {m : M1} {p : M2} (hd : 7 ≤ d) (s k n cp : Nat) (hP : PI p) (hk : m 261 0 = nF k) (hk12 : k ≤ 12) (hsk : s < k) (hm : m 262 s = nF n) (hn0 : 1 ≤ n) (hn : n ≤ 8) (hcp : m 261 6 = nF cp) (hcpl : cp ≤ 16) (h : n ≤ cp ∧ rk n (kr n (fun z w => m 263 (64 * s + 8 * z + w)) (fun z => m 264 (8 * s + z))) = n) (hk1 : k < 12) : Ct d k_X10_placed S fz [.ref (261), .int (iI (((s : Nat) : Int)))] m p (fun v m' p' => ∃ x, v = some (.int (iI ((k : Nat) : Int))) ∧ p = p' ∧ (∀ i, i < n → dot n ((kr n (fun z w => m 263 (64 * s + 8 * z + w)) (fun z => m 264 (8 * s + z))) i) x = if i + 1 = n then 1 else 0) ∧ MK k n (fun z w => m 263 (64 * s + 8 * z + w) - m 264 (8 * s + z) * av n (fun z w => m 263 (64 * s + 8 * z + w)) (fun z => m 267 (0 + z)) x n w) (fun z => m 264 (8 * s + z)) (fun z => m 265 (8 * s + z)) (m 266 s) m m') := by
  obtain ⟨d, rfl⟩ : ∃ e, d = e + 1 := ⟨d - 1, by omega⟩
  refine ct_go (lv := [some (.ref (261)), some (.int (iI (((s : Nat) : Int)))), none, none, none, none]) (Nat.le_of_ble_eq_true rfl) (okar_cons rfl (okar_cons rfl okar_nil)) rfl (fun Qr hQ => ?_)
  refine rw_blk lk_X10_placed_0 ?_
  refine rw_of (fun rr hrr => q_aload_n rfl (q_iload_n rfl hrr)) ?_
  obtain ⟨_, mm1, pp2, hV3, rfl, rfl, rfl⟩ := c_X10_isSystem1 (S := S) (fz := fz) (m := m) (p := p) (d := d) (by omega) (((s : Nat) : Int)) (k) hP hk (by omega) (by omega) (by omega)
  refine rw_of (fun rr hrr => q_invV hV3 (show SH 261 = (18, 0) from rfl) rfl rfl (okar_cons rfl okar_nil) (Nat.le_of_ble_eq_true rfl) hrr) ?_
  refine rw_if_eq ⟨by omega, by omega⟩ (t := 29) rfl (fun hc4 => ?_) (fun hc4 => ?_)
  · exfalso; omega
  · skip
    refine rw_of (fun rr hrr => q_aload_n rfl (q_iload_n rfl hrr)) ?_
    obtain ⟨_, mm5, pp6, hV7, rfl, rfl, hF7⟩ := c_X10_canPlace1 (S := S) (fz := fz) (m := m) (p := p) (d := d) (by omega) (s) (n) (cp) hP hm (by omega) (by omega) (by omega) hcp (by omega) (h)
    refine rw_of (fun rr hrr => q_invV hV7 (show SH 261 = (18, 0) from rfl) rfl rfl (okar_cons rfl okar_nil) (Nat.le_of_ble_eq_true rfl) hrr) ?_
    refine rw_if_eq ⟨by omega, by omega⟩ (t := 29) rfl (fun hc8 => ?_) (fun hc8 => ?_)
    · exfalso; omega
    · skip
      refine rw_of (fun rr hrr => q_aload_n rfl (q_getI (show SH 261 = (18, 0) from rfl) rfl (ki (hF7 261 (by show ¬ (271 ≤ 261 ∧ 261 < 274); omega)) hk (by omega)) (q_bipush rfl hrr))) ?_
      refine rw_icmp_ge ⟨by omega, by omega⟩ ⟨by omega, by omega⟩ (t := 29) rfl (fun hc9 => ?_) (fun hc9 => ?_)
      · exfalso; omega
      · skip
        refine rw_of (fun rr hrr => q_iconst (q_goto (t := 30) rfl hrr)) ?_
        refine rw_blk lk_X10_placed_30 ?_
        refine rw_of (fun rr hrr => q_istore_n (Nat.le_of_ble_eq_true rfl) rfl (q_aload_n rfl (q_aload_n rfl (q_iload_n rfl hrr)))) ?_
        obtain ⟨_, mm10, pp11, hV12, rfl, rfl, rfl⟩ := c_X10_isSystem1 (S := S) (fz := fz) (m := mm5) (p := p) (d := d) (by omega) (((s : Nat) : Int)) (k) hP ((congrFun (hF7 261 (by show ¬ (271 ≤ 261 ∧ 261 < 274); omega)) 0).trans hk) (by omega) (by omega) (by omega)
        refine rw_of (fun rr hrr => q_invV hV12 (show SH 261 = (18, 0) from rfl) rfl rfl (okar_cons rfl okar_nil) (Nat.le_of_ble_eq_true rfl) hrr) ?_
        refine rw_if_ne ⟨by omega, by omega⟩ (t := 44) rfl (fun hc13 => ?_) (fun hc13 => ?_)
        · skip
          refine rw_blk lk_X10_placed_44 ?_
          refine rw_of (fun rr hrr => q_iload_n rfl hrr) ?_
          refine rw_if_eq ⟨by omega, by omega⟩ (t := 52) rfl (fun hc14 => ?_) (fun hc14 => ?_)
          · exfalso; omega
          · skip
            refine rw_of (fun rr hrr => q_iconst (q_goto (t := 53) rfl hrr)) ?_
            refine rw_blk lk_X10_placed_53 ?_
            obtain ⟨_, mm15, pp16, hV17, rfl, rfl, hw17, hF17⟩ := c_X10_fails0 (S := S) (fz := fz) (m := mm5) (p := p) (d := d) (by omega) hP
            refine rw_of (fun rr hrr => q_invV hV17 (show SH 261 = (18, 0) from rfl) rfl rfl (okar_cons rfl okar_nil) (Nat.le_of_ble_eq_true rfl) hrr) ?_
            refine rw_if_eq ⟨by omega, by omega⟩ (t := 61) rfl (fun hc18 => ?_) (fun hc18 => ?_)
            · skip
              refine rw_blk lk_X10_placed_61 ?_
              refine rw_of (fun rr hrr => q_aload_n rfl (q_getI (show SH 261 = (18, 0) from rfl) rfl (by rw [(show mm15 261 0 = mm5 261 0 from by rw [← hw17, w1_ne (by omega)]), (show mm5 261 0 = m 261 0 from congrFun (hF7 261 (by show ¬ (271 ≤ 261 ∧ 261 < 274); omega)) 0), hk, vF_nF (by omega)]) (q_istore_n (Nat.le_of_ble_eq_true rfl) rfl (q_aload_n rfl (q_iload_n rfl (q_iload_n rfl hrr)))))) ?_
              obtain ⟨_, mm19, pp20, hV21, rfl, rfl, hF21, ho21, hd21, hA21, hb21, hc21⟩ := c_X10_copies (S := S) (fz := fz) (m := mm15) (p := p) (d := d) (by omega) (s) (k) hP (by omega) (by omega) (by omega)
              refine rw_of (fun rr hrr => q_invV hV21 (show SH 261 = (18, 0) from rfl) rfl rfl (okar_cons rfl (okar_cons rfl okar_nil)) (Nat.le_of_ble_eq_true rfl) hrr) ?_
              have hot := Ot_of ho21 hd21 hA21 hb21 hc21
              have e3 : mm15 263 = m 263 := (hF17 263 (by omega)).trans (hF7 263 (by omega))
              have e4 : mm15 264 = m 264 := (hF17 264 (by omega)).trans (hF7 264 (by omega))
              have e5 : mm15 265 = m 265 := (hF17 265 (by omega)).trans (hF7 265 (by omega))
              have e6 : mm15 266 = m 266 := (hF17 266 (by omega)).trans (hF7 266 (by omega))
              have e7 : mm19 267 = m 267 := (hF21 267 (by omega)).trans ((hF17 267 (by omega)).trans (hF7 267 (by omega)))
              have hsn : mm19 262 s = nF n := by rw [(hot.2.2 s hsk).1, hF17 262 (by omega), hF7 262 (by omega)]; exact hm
              have eAA : ∀ i, i < n → ∀ j, j < n → mm19 263 (64 * s + 8 * i + j) = m 263 (64 * s + 8 * i + j) := fun i hi j hj => by rw [hot.1 _ (by omega), e3]
              have eBB : ∀ i, i < n → mm19 264 (8 * s + i) = m 264 (8 * s + i) := fun i hi => by rw [(hot.2.1 _ (by omega)).1, e4]
              refine rw_of (fun rr hrr => q_aload_n rfl (q_iload_n rfl (q_iconst (q_iconst hrr)))) ?_
              obtain ⟨_, mm22, pp23, hV24, x24, rfl, rfl, hF24, hx24, hv24⟩ := c_X10_places0 (S := S) (fz := fz) (m := mm19) (p := p) (d := d) (by omega) (s) (n) (0) hP (hsn) (by omega) (by omega) (by omega) (by omega) ((rk_congr (fun i hi c hc => kr_congr eAA eBB i c hc)).trans h.2)
              refine rw_of (fun rr hrr => q_invV hV24 (show SH 261 = (18, 0) from rfl) rfl rfl (okar_cons rfl (okar_cons rfl (okar_cons rfl okar_nil))) (Nat.le_of_ble_eq_true rfl) hrr) ?_
              have hx9 : ∀ i, i < n → dot n ((kr n (fun z w => m 263 (64 * s + 8 * z + w)) (fun z => m 264 (8 * s + z))) i) x24 = if i + 1 = n then 1 else 0 := fun i hi => (dot_congr (fun c hc => (kr_congr eAA eBB i c hc).symm) (fun _ _ => rfl)).trans (hx24 i hi)
              have hv9 : ∀ w, w < n → mm22 275 w = av n (fun z w => m 263 (64 * s + 8 * z + w)) (fun z => m 267 (0 + z)) x24 n w := fun w hw => (hv24 w hw).trans (av_congr eAA (fun i => congrFun e7 _) n w hw)
              generalize x24 = x at hx9 hv9
              refine rw_of (fun rr hrr => q_iconst (q_istore (Nat.le_of_ble_eq_true rfl) rfl hrr)) ?_
              have hL82 : ∀ i, i ≤ n → ∀ (m1 : M1) (x82_5 : Option Value), (Fr (fun a_ => a_ = 263) mm22 m1 ∧ Ot k mm22 m1 ∧ ∀ z, z < i → ∀ w, w < n → m1 263 (64 * k + 8 * z + w) = (fun z w => m 263 (64 * s + 8 * z + w) - m 264 (8 * s + z) * av n (fun z w => m 263 (64 * s + 8 * z + w)) (fun z => m 267 (0 + z)) x n w) z w) → Rw (Ev d) k_X10_placed (82, [], [some (.ref (261)), some (.int (iI (((s : Nat) : Int)))), some (.int (iI (1))), some (.int (iI (((k : Nat) : Int)))), some (.int (iI (((i : Nat) : Int)))), x82_5], [], hpM S fz (m1, p), 0, 0) Qr := by
                refine loop_any (fun i hi82 ih82 => ?_)
                intro m1 x82_5
                intro hI82
                obtain ⟨hF1, hO1, hA1⟩ := hI82
                have hop : Ot k mm19 mm22 := Ot_fr hF24 (fun a ha => by omega)
                have ho1 := Ot_trans hot (Ot_trans hop hO1)
                have hs1 : m1 262 s = nF n := by rw [(hO1.2.2 s hsk).1, (hop.2.2 s hsk).1]; exact hsn
                have eb : ∀ z, z < 8 → m1 264 (8 * s + z) = m 264 (8 * s + z) := fun z hz => by rw [(ho1.2.1 (8 * s + z) (by omega)).1, e4]
                have eA : ∀ z w, z < 8 → w < 8 → m1 263 (64 * s + 8 * z + w) = m 263 (64 * s + 8 * z + w) := fun z w hz hw => by rw [ho1.1 (64 * s + 8 * z + w) (by omega), e3]
                refine rw_blk lk_X10_placed_82 ?_
                refine rw_of (fun rr hrr => q_iload rfl (q_aload_n rfl (q_getR (show SH 261 = (18, 0) from rfl) rfl (pt_261_1 hP) (q_iload_n rfl (q_iald (j := s) (show SH 262 = (1, 13) from rfl) rfl (by omega) (ki rfl hs1 (by omega)) hrr))))) ?_
                refine rw_icmp_ge ⟨by omega, by omega⟩ ⟨by omega, by omega⟩ (t := 172) rfl (fun hc25 => ?_) (fun hc25 => ?_)
                · skip
                  refine rw_blk lk_X10_placed_172 ?_
                  refine rw_of (fun rr hrr => q_aload_n rfl (q_dup rfl (q_getI (show SH 261 = (18, 0) from rfl) rfl (by rw [(show m1 261 0 = mm22 261 0 from congrFun (hF1 261 (by show ¬ (261 = 263); omega)) 0), (show mm22 261 0 = mm19 261 0 from congrFun (hF24 261 (by show ¬ (261 = 278 ∨ (271 ≤ 261 ∧ 261 < 276)); omega)) 0), (show mm19 261 0 = mm15 261 0 from congrFun (hF21 261 (by show ¬ (262 ≤ 261 ∧ 261 ≤ 266); omega)) 0), (show mm15 261 0 = mm5 261 0 from by rw [← hw17, w1_ne (by omega)]), (show mm5 261 0 = m 261 0 from congrFun (hF7 261 (by show ¬ (271 ≤ 261 ∧ 261 < 274); omega)) 0), hk, vF_nF (by omega)]) (q_iconst (q_iadd (q_putI (xx := nF (k + 1)) (show SH 261 = (18, 0) from rfl) rfl rfl ((show _ = ((k + 1 : Nat) : Int) by omega).trans (vF_nF (by omega)).symm) hrr)))))) ?_
                  generalize hm27 : w1 m1 261 0 (nF (k + 1)) = mm26
                  refine rw_of (fun rr hrr => q_iload_n rfl hrr) ?_
                  refine rw_ret hQ (q_ireturn (Or.inl rfl)) ?_
                  
                  have e9 : n = i := (by omega)
                  subst e9
                  have hop : Ot k mm19 mm22 := Ot_fr hF24 (fun a ha => by omega)
                  have fC : ∀ a, 262 ≤ a → a ≤ 266 → a ≠ 263 → m1 a = mm19 a := fun a h1 h2 h3 => (hF1 a h3).trans (hF24 a (by omega))
                  refine ⟨x, rfl, rfl, hx9, MK_end (MKb_of hF7 (fun a (ha : 271 ≤ a ∧ a < 274) => by omega) hw17 (Fr_trans (Fr_mono hF21 (fun a ha => Or.inl ha)) (Fr_trans (Fr_mono hF24 (fun a ha => Or.inr (by omega))) (Fr_mono hF1 (fun a ha => Or.inl (by omega))))) (fun a (ha : (262 ≤ a ∧ a ≤ 266) ∨ (269 ≤ a ∧ a < 280)) => ha) (Ot_trans hot (Ot_trans hop hO1)) ?_ (fun z hz w hw => hA1 z hz w hw) ?_ ?_) hm27⟩
                  · rw [fC 262 (by omega) (by omega) (by omega), ho21, if_pos rfl, hF17 262 (by omega), hF7 262 (by omega)]
                    exact hm
                  · intro z hz
                    rw [fC 264 (by omega) (by omega) (by omega), fC 265 (by omega) (by omega) (by omega), hb21, if_pos (by omega), hc21, if_pos (by omega), e4, e5, show 8 * k + z - 8 * k = z by omega]
                    exact ⟨rfl, rfl⟩
                  · rw [fC 266 (by omega) (by omega) (by omega), hd21, if_pos rfl, e6]
                  
                · skip
                  refine rw_of (fun rr hrr => q_iconst (q_istore (Nat.le_of_ble_eq_true rfl) rfl hrr)) ?_
                  have hL96 : ∀ j, j ≤ n → ∀ (m2 : M1), (Fr (fun a_ => a_ = 263) m1 m2 ∧ Ot k m1 m2 ∧ (∀ w, w < j → m2 263 (64 * k + 8 * i + w) = (fun z w => m 263 (64 * s + 8 * z + w) - m 264 (8 * s + z) * av n (fun z w => m 263 (64 * s + 8 * z + w)) (fun z => m 267 (0 + z)) x n w) i w) ∧ ∀ y, y < 64 * k + 8 * i → m2 263 y = m1 263 y) → Rw (Ev d) k_X10_placed (96, [], [some (.ref (261)), some (.int (iI (((s : Nat) : Int)))), some (.int (iI (1))), some (.int (iI (((k : Nat) : Int)))), some (.int (iI (((i : Nat) : Int)))), some (.int (iI (((j : Nat) : Int))))], [], hpM S fz (m2, p), 0, 0) Qr := by
                    refine loop_any (fun j hi96 ih96 => ?_)
                    intro m2
                    intro hI96
                    obtain ⟨hF2, hO2, hA2, hU2⟩ := hI96
                    refine rw_blk lk_X10_placed_96 ?_
                    refine rw_of (fun rr hrr => q_iload rfl (q_aload_n rfl (q_getR (show SH 261 = (18, 0) from rfl) rfl (pt_261_1 hP) (q_iload_n rfl (q_iald (j := s) (show SH 262 = (1, 13) from rfl) rfl (by omega) (ki (hF2 262 (by show ¬ (262 = 263); omega)) hs1 (by omega)) hrr))))) ?_
                    refine rw_icmp_ge ⟨by omega, by omega⟩ ⟨by omega, by omega⟩ (t := 166) rfl (fun hc28 => ?_) (fun hc28 => ?_)
                    · skip
                      refine rw_blk lk_X10_placed_166 ?_
                      refine rw_of (fun rr hrr => q_iinc rfl rfl (q_goto (t := 82) rfl hrr)) ?_
                      have hA29 : Fr (fun a_ => a_ = 263) mm22 m2 ∧ Ot k mm22 m2 ∧ ∀ z, z < (i + 1) → ∀ w, w < n → m2 263 (64 * k + 8 * z + w) = (fun z w => m 263 (64 * s + 8 * z + w) - m 264 (8 * s + z) * av n (fun z w => m 263 (64 * s + 8 * z + w)) (fun z => m 267 (0 + z)) x n w) z w := by
                        refine ⟨Fr_trans hF1 hF2, Ot_trans hO1 hO2, fun z hz w hw => ?_⟩
                        by_cases q : z = i
                        · rw [q]
                          exact hA2 w (by omega)
                        · rw [hU2 _ (by omega)]
                          exact hA1 z (by omega) w hw
                      exact rw_cast (ih82 (by omega) m2 (some (.int (iI (((j : Nat) : Int))))) hA29) (lcons rfl (lcons rfl (lcons rfl (lcons rfl (lcons (lvI (by omega)) (lcons rfl rfl)))))) rfl
                    · skip
                      refine rw_of (fun rr hrr => q_aload_n rfl (q_getR (show SH 261 = (18, 0) from rfl) rfl (pt_261_2 hP) (q_bipush rfl (q_iload_n rfl (q_imul (q_bipush rfl (q_iload rfl (q_imul (q_iadd (q_iload rfl (q_iadd (q_aload_n rfl (q_iload_n rfl (q_iload rfl (q_iload rfl hrr))))))))))))))) ?_
                      obtain ⟨_, mm30, pp31, hV32, rfl, rfl, rfl⟩ := c_X10_square (S := S) (fz := fz) (m := m2) (p := p) (d := d) (by omega) (s) (i) (j) hP (by omega) (by omega) (by omega)
                      refine rw_of (fun rr hrr => q_invV hV32 (show SH 261 = (18, 0) from rfl) rfl rfl (okar_cons rfl (okar_cons rfl (okar_cons rfl okar_nil))) (Nat.le_of_ble_eq_true rfl) (q_aload_n rfl (q_getR (show SH 261 = (18, 0) from rfl) rfl (pt_261_3 hP) (q_bipush rfl (q_iload_n rfl (q_imul (q_iload rfl (q_iadd (q_iald (j := 8 * s + i) (show SH 264 = (1, 104) from rfl) (by omega) (by omega) rfl (q_aload_n rfl (q_getR (show SH 261 = (18, 0) from rfl) rfl (pt_261_16 hP) (q_iload rfl (q_iald (j := j) (show SH 275 = (1, 8) from rfl) rfl (by omega) rfl hrr))))))))))))) ?_
                      obtain ⟨_, mm33, pp34, hV35, rfl, rfl, rfl⟩ := c_X10_times (S := S) (fz := fz) (m := m2) (p := p) (d := d) (by omega) (m2 264 (8 * s + i)) (m2 275 j)
                      refine rw_of (fun rr hrr => q_invS hV35 rfl rfl (okar_cons rfl (okar_cons rfl okar_nil)) (Nat.le_of_ble_eq_true rfl) (q_isub hrr)) ?_
                      obtain ⟨_, mm36, pp37, hV38, rfl, rfl, rfl⟩ := c_X10_rest (S := S) (fz := fz) (m := m2) (p := p) (d := d) (by omega) ((vF (m2 263 (64 * s + 8 * i + j)) - vF ((m2 264 (8 * s + i)) * (m2 275 j)))) (by have := vF_ge (m2 263 (64 * s + 8 * i + j)); have := vF_lt (m2 263 (64 * s + 8 * i + j)); have := vF_ge ((m2 264 (8 * s + i)) * (m2 275 j)); have := vF_lt ((m2 264 (8 * s + i)) * (m2 275 j)); omega)
                      refine rw_of (fun rr hrr => q_invS hV38 rfl rfl (okar_cons rfl okar_nil) (Nat.le_of_ble_eq_true rfl) (q_iast (j := 64 * k + (8 * i) + j) (xx := toF ((vF (m2 263 (64 * s + 8 * i + j)) - vF ((m2 264 (8 * s + i)) * (m2 275 j))))) (show SH 263 = (1, 832) from rfl) (by omega) (by omega) rfl hrr)) ?_
                      generalize hm40 : w1 m2 263 (64 * k + (8 * i) + j) (toF ((vF (m2 263 (64 * s + 8 * i + j)) - vF ((m2 264 (8 * s + i)) * (m2 275 j))))) = mm39
                      refine rw_of (fun rr hrr => q_iinc rfl rfl (q_goto (t := 96) rfl hrr)) ?_
                      have hA41 : Fr (fun a_ => a_ = 263) m1 mm39 ∧ Ot k m1 mm39 ∧ (∀ w, w < (j + 1) → mm39 263 (64 * k + 8 * i + w) = (fun z w => m 263 (64 * s + 8 * z + w) - m 264 (8 * s + z) * av n (fun z w => m 263 (64 * s + 8 * z + w)) (fun z => m 267 (0 + z)) x n w) i w) ∧ ∀ y, y < 64 * k + 8 * i → mm39 263 y = m1 263 y := by
                        refine ⟨fr_w hm40 hF2 (by omega), Ot_w hm40 hO2 (by omega), fun w hw => ?_, fun y hy => ?_⟩
                        · rw [← hm40]
                          by_cases q : w = j
                          · rw [q, w1_at, toF_sub, toF_vF, toF_vF, hU2 _ (by omega), eA i j (by omega) (by omega), hF2 264 (by omega), hF2 275 (by omega), hF1 275 (by omega), eb i (by omega), hv9 j (by omega)]
                          · rw [w1_ne (by omega)]
                            exact hA2 w (by omega)
                        · rw [← hm40, w1_ne (by omega)]
                          exact hU2 y hy
                      exact rw_cast (ih96 (by omega) mm39 hA41) (lcons rfl (lcons rfl (lcons rfl (lcons rfl (lcons rfl (lcons (lvI (by omega)) rfl)))))) rfl
                  exact rw_cast (hL96 0 (by omega) m1 (by exact ⟨Fr_rfl, Ot_rfl, fun w hw => absurd hw (Nat.not_lt_zero w), fun _ _ => rfl⟩)) (lcons rfl (lcons rfl (lcons rfl (lcons rfl (lcons rfl (lcons (lvI (by omega)) rfl)))))) rfl
              exact rw_cast (hL82 0 (by omega) mm22 none (by exact ⟨Fr_rfl, Ot_rfl, fun z hz => absurd hz (Nat.not_lt_zero z)⟩)) (lcons rfl (lcons rfl (lcons rfl (lcons rfl (lcons (lvI (by omega)) (lcons rfl rfl)))))) rfl
            · exfalso; omega
        · exfalso; omega
theorem c_X10_placedS {d : Nat} {S : MC} {fz : Bool} {m : M1} {p : M2} (hd : 7 ≤ d) (s : Int) (k : Nat) (hP : PI p) (hk : m 261 0 = nF k) (hk12 : k ≤ 12) (hr : (-2147483648 ≤ s ∧ s < 2147483648)) (h : ¬ (0 ≤ s ∧ s < k)) : Ct d k_X10_placed S fz [.ref (261), .int (iI (s))] m p (fun v m' p' => v = some (.int (iI (0))) ∧ p = p' ∧ QMx 1 m m') := by
  obtain ⟨d, rfl⟩ : ∃ e, d = e + 1 := ⟨d - 1, by omega⟩
  refine ct_go (lv := [some (.ref (261)), some (.int (iI (s))), none, none, none, none]) (Nat.le_of_ble_eq_true rfl) (okar_cons rfl (okar_cons rfl okar_nil)) rfl (fun Qr hQ => ?_)
  refine rw_blk lk_X10_placed_0 ?_
  refine rw_of (fun rr hrr => q_aload_n rfl (q_iload_n rfl hrr)) ?_
  obtain ⟨_, mm1, pp2, hV3, rfl, rfl, rfl⟩ := c_X10_isSystem0 (S := S) (fz := fz) (m := m) (p := p) (d := d) (by omega) (s) (k) hP hk (by omega) (by omega) (by omega)
  refine rw_of (fun rr hrr => q_invV hV3 (show SH 261 = (18, 0) from rfl) rfl rfl (okar_cons rfl okar_nil) (Nat.le_of_ble_eq_true rfl) hrr) ?_
  refine rw_if_eq ⟨by omega, by omega⟩ (t := 29) rfl (fun hc4 => ?_) (fun hc4 => ?_)
  · skip
    refine rw_blk lk_X10_placed_29 ?_
    refine rw_of (fun rr hrr => q_iconst hrr) ?_
    refine rw_blk lk_X10_placed_30 ?_
    refine rw_of (fun rr hrr => q_istore_n (Nat.le_of_ble_eq_true rfl) rfl (q_aload_n rfl (q_aload_n rfl (q_iload_n rfl hrr)))) ?_
    obtain ⟨_, mm5, pp6, hV7, rfl, rfl, rfl⟩ := c_X10_isSystem0 (S := S) (fz := fz) (m := m) (p := p) (d := d) (by omega) (s) (k) hP hk (by omega) (by omega) (by omega)
    refine rw_of (fun rr hrr => q_invV hV7 (show SH 261 = (18, 0) from rfl) rfl rfl (okar_cons rfl okar_nil) (Nat.le_of_ble_eq_true rfl) hrr) ?_
    refine rw_if_ne ⟨by omega, by omega⟩ (t := 44) rfl (fun hc8 => ?_) (fun hc8 => ?_)
    · exfalso; omega
    · skip
      refine rw_of (fun rr hrr => q_iconst (q_goto (t := 53) rfl hrr)) ?_
      refine rw_blk lk_X10_placed_53 ?_
      obtain ⟨_, mm9, pp10, hV11, rfl, rfl, hw11, hF11⟩ := c_X10_fails1 (S := S) (fz := fz) (m := m) (p := p) (d := d) (by omega) (1) hP (by omega)
      refine rw_of (fun rr hrr => q_invV hV11 (show SH 261 = (18, 0) from rfl) rfl rfl (okar_cons rfl okar_nil) (Nat.le_of_ble_eq_true rfl) hrr) ?_
      refine rw_if_eq ⟨by omega, by omega⟩ (t := 61) rfl (fun hc12 => ?_) (fun hc12 => ?_)
      · exfalso; omega
      · skip
        refine rw_of (fun rr hrr => q_iconst hrr) ?_
        refine rw_ret hQ (q_ireturn (Or.inl rfl)) ?_
        first
          | exact ⟨rfl, rfl, QMx_w hw11 rfl⟩
          | (exfalso; omega)
        
  · exfalso; omega
theorem c_X10_placedC {d : Nat} {S : MC} {fz : Bool} {m : M1} {p : M2} (hd : 7 ≤ d) (s k n cp : Nat) (hP : PI p) (hk : m 261 0 = nF k) (hk12 : k ≤ 12) (hsk : s < k) (hm : m 262 s = nF n) (hn0 : 1 ≤ n) (hn : n ≤ 8) (hcp : m 261 6 = nF cp) (hcpl : cp ≤ 16) (h : cp < n ∨ rk n (kr n (fun z w => m 263 (64 * s + 8 * z + w)) (fun z => m 264 (8 * s + z))) ≠ n) : Ct d k_X10_placed S fz [.ref (261), .int (iI (((s : Nat) : Int)))] m p (fun v m' p' => v = some (.int (iI (0))) ∧ p = p' ∧ QMx 2 m m') := by
  obtain ⟨d, rfl⟩ : ∃ e, d = e + 1 := ⟨d - 1, by omega⟩
  refine ct_go (lv := [some (.ref (261)), some (.int (iI (((s : Nat) : Int)))), none, none, none, none]) (Nat.le_of_ble_eq_true rfl) (okar_cons rfl (okar_cons rfl okar_nil)) rfl (fun Qr hQ => ?_)
  refine rw_blk lk_X10_placed_0 ?_
  refine rw_of (fun rr hrr => q_aload_n rfl (q_iload_n rfl hrr)) ?_
  obtain ⟨_, mm1, pp2, hV3, rfl, rfl, rfl⟩ := c_X10_isSystem1 (S := S) (fz := fz) (m := m) (p := p) (d := d) (by omega) (((s : Nat) : Int)) (k) hP hk (by omega) (by omega) (by omega)
  refine rw_of (fun rr hrr => q_invV hV3 (show SH 261 = (18, 0) from rfl) rfl rfl (okar_cons rfl okar_nil) (Nat.le_of_ble_eq_true rfl) hrr) ?_
  refine rw_if_eq ⟨by omega, by omega⟩ (t := 29) rfl (fun hc4 => ?_) (fun hc4 => ?_)
  · exfalso; omega
  · skip
    refine rw_of (fun rr hrr => q_aload_n rfl (q_iload_n rfl hrr)) ?_
    obtain ⟨_, mm5, pp6, hV7, rfl, rfl, hF7⟩ := c_X10_canPlace0 (S := S) (fz := fz) (m := m) (p := p) (d := d) (by omega) (s) (n) (cp) hP hm (by omega) (by omega) (by omega) hcp (by omega) (h)
    refine rw_of (fun rr hrr => q_invV hV7 (show SH 261 = (18, 0) from rfl) rfl rfl (okar_cons rfl okar_nil) (Nat.le_of_ble_eq_true rfl) hrr) ?_
    refine rw_if_eq ⟨by omega, by omega⟩ (t := 29) rfl (fun hc8 => ?_) (fun hc8 => ?_)
    · skip
      refine rw_blk lk_X10_placed_29 ?_
      refine rw_of (fun rr hrr => q_iconst hrr) ?_
      refine rw_blk lk_X10_placed_30 ?_
      refine rw_of (fun rr hrr => q_istore_n (Nat.le_of_ble_eq_true rfl) rfl (q_aload_n rfl (q_aload_n rfl (q_iload_n rfl hrr)))) ?_
      obtain ⟨_, mm9, pp10, hV11, rfl, rfl, rfl⟩ := c_X10_isSystem1 (S := S) (fz := fz) (m := mm5) (p := p) (d := d) (by omega) (((s : Nat) : Int)) (k) hP ((congrFun (hF7 261 (by show ¬ (271 ≤ 261 ∧ 261 < 274); omega)) 0).trans hk) (by omega) (by omega) (by omega)
      refine rw_of (fun rr hrr => q_invV hV11 (show SH 261 = (18, 0) from rfl) rfl rfl (okar_cons rfl okar_nil) (Nat.le_of_ble_eq_true rfl) hrr) ?_
      refine rw_if_ne ⟨by omega, by omega⟩ (t := 44) rfl (fun hc12 => ?_) (fun hc12 => ?_)
      · skip
        refine rw_blk lk_X10_placed_44 ?_
        refine rw_of (fun rr hrr => q_iload_n rfl hrr) ?_
        refine rw_if_eq ⟨by omega, by omega⟩ (t := 52) rfl (fun hc13 => ?_) (fun hc13 => ?_)
        · skip
          refine rw_blk lk_X10_placed_52 ?_
          refine rw_of (fun rr hrr => q_iconst hrr) ?_
          refine rw_blk lk_X10_placed_53 ?_
          obtain ⟨_, mm14, pp15, hV16, rfl, rfl, hw16, hF16⟩ := c_X10_fails1 (S := S) (fz := fz) (m := mm5) (p := p) (d := d) (by omega) (2) hP (by omega)
          refine rw_of (fun rr hrr => q_invV hV16 (show SH 261 = (18, 0) from rfl) rfl rfl (okar_cons rfl okar_nil) (Nat.le_of_ble_eq_true rfl) hrr) ?_
          refine rw_if_eq ⟨by omega, by omega⟩ (t := 61) rfl (fun hc17 => ?_) (fun hc17 => ?_)
          · exfalso; omega
          · skip
            refine rw_of (fun rr hrr => q_iconst hrr) ?_
            exact rw_ret hQ (q_ireturn (Or.inl rfl)) (by exact ⟨rfl, rfl, QMx_pre hF7 (fun a ha => by omega) (QMx_w hw16 rfl)⟩)
        · exfalso; omega
      · exfalso; omega
    · exfalso; omega
theorem c_X10_placedF {d : Nat} {S : MC} {fz : Bool} {m : M1} {p : M2} (hd : 7 ≤ d) (s k n cp : Nat) (hP : PI p) (hk : m 261 0 = nF k) (hk12 : k ≤ 12) (hsk : s < k) (hm : m 262 s = nF n) (hn0 : 1 ≤ n) (hn : n ≤ 8) (hcp : m 261 6 = nF cp) (hcpl : cp ≤ 16) (h : n ≤ cp ∧ rk n (kr n (fun z w => m 263 (64 * s + 8 * z + w)) (fun z => m 264 (8 * s + z))) = n) (hk1 : k = 12) : Ct d k_X10_placed S fz [.ref (261), .int (iI (((s : Nat) : Int)))] m p (fun v m' p' => v = some (.int (iI (0))) ∧ p = p' ∧ QMx 2 m m') := by
  obtain ⟨d, rfl⟩ : ∃ e, d = e + 1 := ⟨d - 1, by omega⟩
  refine ct_go (lv := [some (.ref (261)), some (.int (iI (((s : Nat) : Int)))), none, none, none, none]) (Nat.le_of_ble_eq_true rfl) (okar_cons rfl (okar_cons rfl okar_nil)) rfl (fun Qr hQ => ?_)
  refine rw_blk lk_X10_placed_0 ?_
  refine rw_of (fun rr hrr => q_aload_n rfl (q_iload_n rfl hrr)) ?_
  obtain ⟨_, mm1, pp2, hV3, rfl, rfl, rfl⟩ := c_X10_isSystem1 (S := S) (fz := fz) (m := m) (p := p) (d := d) (by omega) (((s : Nat) : Int)) (k) hP hk (by omega) (by omega) (by omega)
  refine rw_of (fun rr hrr => q_invV hV3 (show SH 261 = (18, 0) from rfl) rfl rfl (okar_cons rfl okar_nil) (Nat.le_of_ble_eq_true rfl) hrr) ?_
  refine rw_if_eq ⟨by omega, by omega⟩ (t := 29) rfl (fun hc4 => ?_) (fun hc4 => ?_)
  · exfalso; omega
  · skip
    refine rw_of (fun rr hrr => q_aload_n rfl (q_iload_n rfl hrr)) ?_
    obtain ⟨_, mm5, pp6, hV7, rfl, rfl, hF7⟩ := c_X10_canPlace1 (S := S) (fz := fz) (m := m) (p := p) (d := d) (by omega) (s) (n) (cp) hP hm (by omega) (by omega) (by omega) hcp (by omega) (h)
    refine rw_of (fun rr hrr => q_invV hV7 (show SH 261 = (18, 0) from rfl) rfl rfl (okar_cons rfl okar_nil) (Nat.le_of_ble_eq_true rfl) hrr) ?_
    refine rw_if_eq ⟨by omega, by omega⟩ (t := 29) rfl (fun hc8 => ?_) (fun hc8 => ?_)
    · exfalso; omega
    · skip
      refine rw_of (fun rr hrr => q_aload_n rfl (q_getI (show SH 261 = (18, 0) from rfl) rfl (ki (hF7 261 (by show ¬ (271 ≤ 261 ∧ 261 < 274); omega)) hk (by omega)) (q_bipush rfl hrr))) ?_
      refine rw_icmp_ge ⟨by omega, by omega⟩ ⟨by omega, by omega⟩ (t := 29) rfl (fun hc9 => ?_) (fun hc9 => ?_)
      · skip
        refine rw_blk lk_X10_placed_29 ?_
        refine rw_of (fun rr hrr => q_iconst hrr) ?_
        refine rw_blk lk_X10_placed_30 ?_
        refine rw_of (fun rr hrr => q_istore_n (Nat.le_of_ble_eq_true rfl) rfl (q_aload_n rfl (q_aload_n rfl (q_iload_n rfl hrr)))) ?_
        obtain ⟨_, mm10, pp11, hV12, rfl, rfl, rfl⟩ := c_X10_isSystem1 (S := S) (fz := fz) (m := mm5) (p := p) (d := d) (by omega) (((s : Nat) : Int)) (k) hP ((congrFun (hF7 261 (by show ¬ (271 ≤ 261 ∧ 261 < 274); omega)) 0).trans hk) (by omega) (by omega) (by omega)
        refine rw_of (fun rr hrr => q_invV hV12 (show SH 261 = (18, 0) from rfl) rfl rfl (okar_cons rfl okar_nil) (Nat.le_of_ble_eq_true rfl) hrr) ?_
        refine rw_if_ne ⟨by omega, by omega⟩ (t := 44) rfl (fun hc13 => ?_) (fun hc13 => ?_)
        · skip
          refine rw_blk lk_X10_placed_44 ?_
          refine rw_of (fun rr hrr => q_iload_n rfl hrr) ?_
          refine rw_if_eq ⟨by omega, by omega⟩ (t := 52) rfl (fun hc14 => ?_) (fun hc14 => ?_)
          · skip
            refine rw_blk lk_X10_placed_52 ?_
            refine rw_of (fun rr hrr => q_iconst hrr) ?_
            refine rw_blk lk_X10_placed_53 ?_
            obtain ⟨_, mm15, pp16, hV17, rfl, rfl, hw17, hF17⟩ := c_X10_fails1 (S := S) (fz := fz) (m := mm5) (p := p) (d := d) (by omega) (2) hP (by omega)
            refine rw_of (fun rr hrr => q_invV hV17 (show SH 261 = (18, 0) from rfl) rfl rfl (okar_cons rfl okar_nil) (Nat.le_of_ble_eq_true rfl) hrr) ?_
            refine rw_if_eq ⟨by omega, by omega⟩ (t := 61) rfl (fun hc18 => ?_) (fun hc18 => ?_)
            · exfalso; omega
            · skip
              refine rw_of (fun rr hrr => q_iconst hrr) ?_
              exact rw_ret hQ (q_ireturn (Or.inl rfl)) (by exact ⟨rfl, rfl, QMx_pre hF7 (fun a ha => by omega) (QMx_w hw17 rfl)⟩)
          · exfalso; omega
        · exfalso; omega
      · exfalso; omega
