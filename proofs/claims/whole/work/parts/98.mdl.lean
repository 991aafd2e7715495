/-- a row of a plant that is made of two, u rows of the second one done -/
def jnA (n n2 : Nat) (L : Nat → Nat → F) (A1 A2 : Nat → Nat → F) (u r c : Nat) : F := if r < n then (if c < n then A1 r c else 0) else if r < n + u then (if c < n then L (r - n) c else if c < n + n2 then A2 (r - n) (c - n) else 0) else 0
def jnb (n : Nat) (x y : Nat → F) (u r : Nat) : F := if r < n then x r else if r < n + u then y (r - n) else 0
theorem jnA_s {n n2 u r c : Nat} {L A1 A2 : Nat → Nat → F} : jnA n n2 L A1 A2 (u + 1) r c = if r = n + u then (if c < n then L u c else if c < n + n2 then A2 u (c - n) else 0) else jnA n n2 L A1 A2 u r c := by
  unfold jnA
  by_cases e : r = n + u
  · rw [if_pos e, e, if_neg (by omega), if_pos (by omega), show n + u - n = u by omega]
  · rw [if_neg e]
    by_cases q : r < n
    · rw [if_pos q, if_pos q]
    · rw [if_neg q, if_neg q]
      by_cases q2 : r < n + u
      · rw [if_pos q2, if_pos (by omega)]
      · rw [if_neg q2, if_neg (by omega)]
theorem jnA_u {n n2 u c : Nat} {L A1 A2 : Nat → Nat → F} : jnA n n2 L A1 A2 u (n + u) c = 0 := by
  unfold jnA
  rw [if_neg (by omega), if_neg (by omega)]
theorem jnb_s {n u r : Nat} {x y : Nat → F} : jnb n x y (u + 1) r = if r = n + u then y u else jnb n x y u r := by
  unfold jnb
  by_cases e : r = n + u
  · rw [if_pos e, e, if_neg (by omega), if_pos (by omega), show n + u - n = u by omega]
  · rw [if_neg e]
    by_cases q : r < n
    · rw [if_pos q, if_pos q]
    · rw [if_neg q, if_neg q]
      by_cases q2 : r < n + u
      · rw [if_pos q2, if_pos (by omega)]
      · rw [if_neg q2, if_neg (by omega)]
theorem c_X10_join1 {d : Nat} {S : MC} {fz : Bool} {m : M1} {p : M2} (hd : 3 ≤ d) (a b k n n2 : Nat) (hP : PI p) (hk : m 261 0 = nF k) (hk12 : k ≤ 12) (ha : a < k) (hb : b < k) (hma : m 262 a = nF n) (hmb : m 262 b = nF n2) (hn : 1 ≤ n ∧ n ≤ 8 ∧ 1 ≤ n2 ∧ n2 ≤ 8) (hs : n + n2 ≤ 8) (hk1 : k < 12) : Ct d k_X10_join S fz [.ref (261), .int (iI (((a : Nat) : Int))), .int (iI (((b : Nat) : Int))), .int (iI (1))] m p (fun v m' p' => v = some (.int (iI ((k : Nat) : Int))) ∧ p = p' ∧ MK k (n + n2) (fun z w => serA n (fun z w => m 263 (64 * a + 8 * z + w)) (fun z => m 264 (8 * b + z)) (fun z => m 265 (8 * a + z)) (fun z w => m 263 (64 * b + 8 * z + w)) z w) (fun z => twob n 1 (fun z => m 264 (8 * a + z)) (m 266 a) (fun z => m 264 (8 * b + z)) z) (fun z => twob n (m 266 b) (fun z => m 265 (8 * a + z)) 1 (fun z => m 265 (8 * b + z)) z) (m 266 b * m 266 a) m m') := by
  obtain ⟨d, rfl⟩ : ∃ e, d = e + 1 := ⟨d - 1, by omega⟩
  refine ct_go (lv := [some (.ref (261)), some (.int (iI (((a : Nat) : Int)))), some (.int (iI (((b : Nat) : Int)))), some (.int (iI (1))), none, none, none, none, none]) (Nat.le_of_ble_eq_true rfl) (okar_cons rfl (okar_cons rfl (okar_cons rfl (okar_cons rfl okar_nil)))) rfl (fun Qr hQ => ?_)
  refine rw_blk lk_X10_join_0 ?_
  refine rw_of (fun rr hrr => q_aload_n rfl (q_iload_n rfl hrr)) ?_
  obtain ⟨_, mm1, pp2, hV3, rfl, rfl, rfl⟩ := c_X10_isSystem1 (S := S) (fz := fz) (m := m) (p := p) (d := d) (by omega) (((a : Nat) : Int)) (k) hP hk (by omega) (by omega) (by omega)
  refine rw_of (fun rr hrr => q_invV hV3 (show SH 261 = (18, 0) from rfl) rfl rfl (okar_cons rfl okar_nil) (Nat.le_of_ble_eq_true rfl) hrr) ?_
  refine rw_if_eq ⟨by omega, by omega⟩ (t := 20) rfl (fun hc4 => ?_) (fun hc4 => ?_)
  · exfalso; omega
  · skip
    refine rw_of (fun rr hrr => q_aload_n rfl (q_iload_n rfl hrr)) ?_
    obtain ⟨_, mm5, pp6, hV7, rfl, rfl, rfl⟩ := c_X10_isSystem1 (S := S) (fz := fz) (m := m) (p := p) (d := d) (by omega) (((b : Nat) : Int)) (k) hP hk (by omega) (by omega) (by omega)
    refine rw_of (fun rr hrr => q_invV hV7 (show SH 261 = (18, 0) from rfl) rfl rfl (okar_cons rfl okar_nil) (Nat.le_of_ble_eq_true rfl) hrr) ?_
    refine rw_if_eq ⟨by omega, by omega⟩ (t := 20) rfl (fun hc8 => ?_) (fun hc8 => ?_)
    · exfalso; omega
    · skip
      refine rw_of (fun rr hrr => q_iconst (q_goto (t := 21) rfl hrr)) ?_
      refine rw_blk lk_X10_join_21 ?_
      refine rw_of (fun rr hrr => q_istore (Nat.le_of_ble_eq_true rfl) rfl (q_aload_n rfl (q_iload rfl hrr))) ?_
      refine rw_if_ne ⟨by omega, by omega⟩ (t := 33) rfl (fun hc9 => ?_) (fun hc9 => ?_)
      · skip
        refine rw_blk lk_X10_join_33 ?_
        refine rw_of (fun rr hrr => q_aload_n rfl (q_getR (show SH 261 = (18, 0) from rfl) rfl (pt_261_1 hP) (q_iload_n rfl (q_iald (j := a) (show SH 262 = (1, 13) from rfl) rfl (by omega) (ki rfl hma (by omega)) (q_aload_n rfl (q_getR (show SH 261 = (18, 0) from rfl) rfl (pt_261_1 hP) (q_iload_n rfl (q_iald (j := b) (show SH 262 = (1, 13) from rfl) rfl (by omega) (ki rfl hmb (by omega)) (q_iadd (q_bipush rfl hrr)))))))))) ?_
        refine rw_icmp_gt ⟨by omega, by omega⟩ ⟨by omega, by omega⟩ (t := 60) rfl (fun hc10 => ?_) (fun hc10 => ?_)
        · exfalso; omega
        · skip
          refine rw_of (fun rr hrr => q_aload_n rfl (q_getI (show SH 261 = (18, 0) from rfl) rfl (ki rfl hk (by omega)) (q_bipush rfl hrr))) ?_
          refine rw_icmp_ne ⟨by omega, by omega⟩ ⟨by omega, by omega⟩ (t := 64) rfl (fun hc11 => ?_) (fun hc11 => ?_)
          · skip
            refine rw_blk lk_X10_join_64 ?_
            refine rw_of (fun rr hrr => q_iconst hrr) ?_
            refine rw_blk lk_X10_join_65 ?_
            obtain ⟨_, mm12, pp13, hV14, rfl, rfl, hw14, hF14⟩ := c_X10_fails0 (S := S) (fz := fz) (m := m) (p := p) (d := d) (by omega) hP
            refine rw_of (fun rr hrr => q_invV hV14 (show SH 261 = (18, 0) from rfl) rfl rfl (okar_cons rfl okar_nil) (Nat.le_of_ble_eq_true rfl) hrr) ?_
            refine rw_if_eq ⟨by omega, by omega⟩ (t := 73) rfl (fun hc15 => ?_) (fun hc15 => ?_)
            · skip
              refine rw_blk lk_X10_join_73 ?_
              refine rw_of (fun rr hrr => q_aload_n rfl (q_getI (show SH 261 = (18, 0) from rfl) rfl (by rw [(show mm12 261 0 = m 261 0 from by rw [← hw14, w1_ne (by omega)]), hk, vF_nF (by omega)]) (q_istore (Nat.le_of_ble_eq_true rfl) rfl (q_aload_n rfl (q_getR (show SH 261 = (18, 0) from rfl) rfl (pt_261_1 hP) (q_iload_n rfl (q_iald (j := a) (show SH 262 = (1, 13) from rfl) rfl (by omega) (ki (kw hw14 (by omega)) hma (by omega)) (q_istore (Nat.le_of_ble_eq_true rfl) rfl (q_aload_n rfl (q_iload rfl (q_iload rfl (q_aload_n rfl (q_getR (show SH 261 = (18, 0) from rfl) rfl (pt_261_1 hP) (q_iload_n rfl (q_iald (j := b) (show SH 262 = (1, 13) from rfl) rfl (by omega) (ki (kw hw14 (by omega)) hmb (by omega)) (q_iadd hrr)))))))))))))))) ?_
              obtain ⟨_, mm16, pp17, hV18, rfl, rfl, hF18, ho18, hd18, hA18, hb18, hc18⟩ := c_X10_begins (S := S) (fz := fz) (m := mm12) (p := p) (d := d) (by omega) (k) (n + n2) hP (by omega) (by omega)
              refine rw_of (fun rr hrr => q_invV hV18 (show SH 261 = (18, 0) from rfl) rfl rfl (okar_cons rfl (okar_cons rfl okar_nil)) (Nat.le_of_ble_eq_true rfl) hrr) ?_
              have e3 : mm12 263 = m 263 := hF14 263 (by omega)
              have e4 : mm12 264 = m 264 := hF14 264 (by omega)
              have e5 : mm12 265 = m 265 := hF14 265 (by omega)
              have e6 : mm12 266 = m 266 := hF14 266 (by omega)
              have hot := Ot_of ho18 hd18 hA18 hb18 hc18
              refine rw_of (fun rr hrr => q_iconst (q_istore (Nat.le_of_ble_eq_true rfl) rfl hrr)) ?_
              have hL105 : ∀ i, i ≤ n → ∀ (m1 : M1) (x105_8 : Option Value), (Fr (fun a_ => a_ = 263 ∨ a_ = 264 ∨ a_ = 265) mm16 m1 ∧ Ot k mm16 m1 ∧ (∀ r, r < 8 → ∀ c, c < 8 → m1 263 (64 * k + 8 * r + c) = if r < i ∧ c < n then (fun z w => m 263 (64 * a + 8 * z + w)) r c else 0) ∧ ∀ r, r < 8 → m1 264 (8 * k + r) = (if r < i then (fun z => m 264 (8 * a + z)) r else 0) ∧ m1 265 (8 * k + r) = if r < i then (fun z => m 266 b * m 265 (8 * a + z)) r else 0) → Rw (Ev d) k_X10_join (105, [], [some (.ref (261)), some (.int (iI (((a : Nat) : Int)))), some (.int (iI (((b : Nat) : Int)))), some (.int (iI (1))), some (.int (iI (1))), some (.int (iI (((k : Nat) : Int)))), some (.int (iI (((n : Nat) : Int)))), some (.int (iI (((i : Nat) : Int)))), x105_8], [], hpM S fz (m1, p), 0, 0) Qr := by
                refine loop_any (fun i hi105 ih105 => ?_)
                intro m1 x105_8
                intro hI105
                obtain ⟨hF1, hO1, hA1, hV1⟩ := hI105
                have ho_m1 := Ot_trans hot hO1
                have eb_m1 : ∀ z, z < 8 → m1 264 (8 * b + z) = m 264 (8 * b + z) := fun z hz => by rw [(ho_m1.2.1 (8 * b + z) (by omega)).1, e4]
                have eB_m1 : ∀ z, z < 8 → m1 264 (8 * a + z) = m 264 (8 * a + z) := fun z hz => by rw [(ho_m1.2.1 (8 * a + z) (by omega)).1, e4]
                have ec_m1 : ∀ z, z < 8 → m1 265 (8 * a + z) = m 265 (8 * a + z) := fun z hz => by rw [(ho_m1.2.1 (8 * a + z) (by omega)).2, e5]
                have eC_m1 : ∀ z, z < 8 → m1 265 (8 * b + z) = m 265 (8 * b + z) := fun z hz => by rw [(ho_m1.2.1 (8 * b + z) (by omega)).2, e5]
                have eA_m1 : ∀ z w, z < 8 → w < 8 → m1 263 (64 * a + 8 * z + w) = m 263 (64 * a + 8 * z + w) := fun z w hz hw => by rw [ho_m1.1 (64 * a + 8 * z + w) (by omega), e3]
                have eD_m1 : ∀ z w, z < 8 → w < 8 → m1 263 (64 * b + 8 * z + w) = m 263 (64 * b + 8 * z + w) := fun z w hz hw => by rw [ho_m1.1 (64 * b + 8 * z + w) (by omega), e3]
                have ea2_m1 : m1 262 a = nF n := by rw [(ho_m1.2.2 a ha).1, hF14 262 (by omega)]; exact hma
                have eb2_m1 : m1 262 b = nF n2 := by rw [(ho_m1.2.2 b hb).1, hF14 262 (by omega)]; exact hmb
                have e6a_m1 : m1 266 a = m 266 a := by rw [(ho_m1.2.2 a ha).2, e6]
                have e6b_m1 : m1 266 b = m 266 b := by rw [(ho_m1.2.2 b hb).2, e6]
                refine rw_blk lk_X10_join_105 ?_
                refine rw_of (fun rr hrr => q_iload rfl (q_iload rfl hrr)) ?_
                refine rw_icmp_ge ⟨by omega, by omega⟩ ⟨by omega, by omega⟩ (t := 240) rfl (fun hc19 => ?_) (fun hc19 => ?_)
                · skip
                  refine rw_blk lk_X10_join_240 ?_
                  refine rw_of (fun rr hrr => q_iconst (q_istore (Nat.le_of_ble_eq_true rfl) rfl hrr)) ?_
                  have hL243 : ∀ u, u ≤ n2 → ∀ (m3 : M1) (x243_8 : Option Value), (Fr (fun a_ => a_ = 263 ∨ a_ = 264 ∨ a_ = 265) mm16 m3 ∧ Ot k mm16 m3 ∧ (∀ r, r < 8 → ∀ c, c < 8 → m3 263 (64 * k + 8 * r + c) = jnA n n2 (fun z w => m 264 (8 * b + z) * m 265 (8 * a + w)) (fun z w => m 263 (64 * a + 8 * z + w)) (fun z w => m 263 (64 * b + 8 * z + w)) (u) r c) ∧ ∀ r, r < 8 → m3 264 (8 * k + r) = jnb n (fun z => m 264 (8 * a + z)) (fun z => m 264 (8 * b + z) * m 266 a) u r ∧ m3 265 (8 * k + r) = jnb n (fun z => m 266 b * m 265 (8 * a + z)) (fun z => m 265 (8 * b + z)) u r) → Rw (Ev d) k_X10_join (243, [], [some (.ref (261)), some (.int (iI (((a : Nat) : Int)))), some (.int (iI (((b : Nat) : Int)))), some (.int (iI (1))), some (.int (iI (1))), some (.int (iI (((k : Nat) : Int)))), some (.int (iI (((n : Nat) : Int)))), some (.int (iI (((u : Nat) : Int)))), x243_8], [], hpM S fz (m3, p), 0, 0) Qr := by
                    refine loop_any (fun u hi243 ih243 => ?_)
                    intro m3 x243_8
                    intro hI243
                    obtain ⟨hF3, hO3, hA3, hV3⟩ := hI243
                    have ho_m3 := Ot_trans hot hO3
                    have eb_m3 : ∀ z, z < 8 → m3 264 (8 * b + z) = m 264 (8 * b + z) := fun z hz => by rw [(ho_m3.2.1 (8 * b + z) (by omega)).1, e4]
                    have eB_m3 : ∀ z, z < 8 → m3 264 (8 * a + z) = m 264 (8 * a + z) := fun z hz => by rw [(ho_m3.2.1 (8 * a + z) (by omega)).1, e4]
                    have ec_m3 : ∀ z, z < 8 → m3 265 (8 * a + z) = m 265 (8 * a + z) := fun z hz => by rw [(ho_m3.2.1 (8 * a + z) (by omega)).2, e5]
                    have eC_m3 : ∀ z, z < 8 → m3 265 (8 * b + z) = m 265 (8 * b + z) := fun z hz => by rw [(ho_m3.2.1 (8 * b + z) (by omega)).2, e5]
                    have eA_m3 : ∀ z w, z < 8 → w < 8 → m3 263 (64 * a + 8 * z + w) = m 263 (64 * a + 8 * z + w) := fun z w hz hw => by rw [ho_m3.1 (64 * a + 8 * z + w) (by omega), e3]
                    have eD_m3 : ∀ z w, z < 8 → w < 8 → m3 263 (64 * b + 8 * z + w) = m 263 (64 * b + 8 * z + w) := fun z w hz hw => by rw [ho_m3.1 (64 * b + 8 * z + w) (by omega), e3]
                    have ea2_m3 : m3 262 a = nF n := by rw [(ho_m3.2.2 a ha).1, hF14 262 (by omega)]; exact hma
                    have eb2_m3 : m3 262 b = nF n2 := by rw [(ho_m3.2.2 b hb).1, hF14 262 (by omega)]; exact hmb
                    have e6a_m3 : m3 266 a = m 266 a := by rw [(ho_m3.2.2 a ha).2, e6]
                    have e6b_m3 : m3 266 b = m 266 b := by rw [(ho_m3.2.2 b hb).2, e6]
                    refine rw_blk lk_X10_join_243 ?_
                    refine rw_of (fun rr hrr => q_iload rfl (q_aload_n rfl (q_getR (show SH 261 = (18, 0) from rfl) rfl (pt_261_1 hP) (q_iload_n rfl (q_iald (j := b) (show SH 262 = (1, 13) from rfl) rfl (by omega) (ki rfl eb2_m3 (by omega)) hrr))))) ?_
                    refine rw_icmp_ge ⟨by omega, by omega⟩ ⟨by omega, by omega⟩ (t := 467) rfl (fun hc20 => ?_) (fun hc20 => ?_)
                    · skip
                      refine rw_blk lk_X10_join_467 ?_
                      refine rw_of (fun rr hrr => q_aload_n rfl (q_getR (show SH 261 = (18, 0) from rfl) rfl (pt_261_5 hP) (q_iload rfl (q_iload_n rfl hrr)))) ?_
                      refine rw_if_eq ⟨by omega, by omega⟩ (t := 495) rfl (fun hc21 => ?_) (fun hc21 => ?_)
                      · exfalso; omega
                      · skip
                        refine rw_of (fun rr hrr => q_aload_n rfl (q_getR (show SH 261 = (18, 0) from rfl) rfl (pt_261_5 hP) (q_iload_n rfl (q_iald (j := a) (show SH 266 = (1, 13) from rfl) rfl (by omega) rfl (q_aload_n rfl (q_getR (show SH 261 = (18, 0) from rfl) rfl (pt_261_5 hP) (q_iload_n rfl (q_iald (j := b) (show SH 266 = (1, 13) from rfl) rfl (by omega) rfl hrr)))))))) ?_
                        obtain ⟨_, mm22, pp23, hV24, rfl, rfl, rfl⟩ := c_X10_times (S := S) (fz := fz) (m := m3) (p := p) (d := d) (by omega) (m3 266 a) (m3 266 b)
                        refine rw_of (fun rr hrr => q_invS hV24 rfl rfl (okar_cons rfl (okar_cons rfl okar_nil)) (Nat.le_of_ble_eq_true rfl) (q_goto (t := 512) rfl hrr)) ?_
                        refine rw_blk lk_X10_join_512 ?_
                        refine rw_of (fun rr hrr => q_iast (j := k) (xx := (m3 266 a) * (m3 266 b)) (show SH 266 = (1, 13) from rfl) rfl (by omega) rfl hrr) ?_
                        generalize hm26 : w1 m3 266 k ((m3 266 a) * (m3 266 b)) = mm25
                        refine rw_of (fun rr hrr => q_aload_n rfl (q_dup rfl (q_getI (show SH 261 = (18, 0) from rfl) rfl (by rw [(show mm25 261 0 = m3 261 0 from by rw [← hm26, w1_ne (by omega)]), (show m3 261 0 = mm16 261 0 from congrFun (hF3 261 (by show ¬ (261 = 263 ∨ 261 = 264 ∨ 261 = 265); omega)) 0), (show mm16 261 0 = mm12 261 0 from congrFun (hF18 261 (by show ¬ (262 ≤ 261 ∧ 261 ≤ 266); omega)) 0), (show mm12 261 0 = m 261 0 from by rw [← hw14, w1_ne (by omega)]), hk, vF_nF (by omega)]) (q_iconst (q_iadd (q_putI (xx := nF (k + 1)) (show SH 261 = (18, 0) from rfl) rfl rfl ((show _ = ((k + 1 : Nat) : Int) by omega).trans (vF_nF (by omega)).symm) hrr)))))) ?_
                        generalize hm28 : w1 mm25 261 0 (nF (k + 1)) = mm27
                        refine rw_of (fun rr hrr => q_iload rfl hrr) ?_
                        refine rw_ret hQ (q_ireturn (Or.inl rfl)) ?_
                        
                        have e9 : n2 = u := (by omega)
                        subst e9
                        refine ⟨rfl, rfl, MK_end (MKb_of Fr_rfl (fun a (ha : False) => ha.elim) hw14 (fr_w hm26 (Fr_trans (Fr_mono hF18 (fun a (ha : 262 ≤ a ∧ a ≤ 266) => ha)) (Fr_mono hF3 (fun a ha => by omega))) (by omega)) (fun a (ha : 262 ≤ a ∧ a ≤ 266) => Or.inl ha) (Ot_w hm26 (Ot_trans hot hO3) (by omega)) ?_ ?_ ?_ ?_) hm28⟩
                        · rw [← hm26, w1_a (by omega), hF3 262 (by omega), ho18, if_pos rfl]
                        · intro z hz w hw
                          rw [← hm26, w1_a (by omega), hA3 z (by omega) w (by omega)]
                          unfold jnA serA
                          by_cases q : z < n
                          · rw [if_pos q]
                            show _ = if z < n then _ else _
                            rw [if_pos q]
                          · rw [if_neg q, if_pos (by omega)]
                            show _ = if z < n then _ else _
                            rw [if_neg q]
                            by_cases q2 : w < n
                            · rw [if_pos q2, if_pos q2]
                            · rw [if_neg q2, if_neg q2, if_pos (by omega)]
                        · intro z hz
                          have h9 := hV3 z (by omega)
                          rw [← hm26, w1_a (by omega), w1_a (by omega), h9.1, h9.2]
                          unfold jnb twob
                          have q2 : z < n + n2 := hz
                          constructor
                          · by_cases q : z < n
                            · simp only [if_pos q] <;> grind
                            · simp only [if_neg q, if_pos q2] <;> grind
                          · by_cases q : z < n
                            · simp only [if_pos q] <;> grind
                            · simp only [if_neg q, if_pos q2] <;> grind
                        · rw [← hm26, w1_at, e6a_m3, e6b_m3] <;> grind
                        
                    · skip
                      refine rw_of (fun rr hrr => q_iconst (q_istore (Nat.le_of_ble_eq_true rfl) rfl hrr)) ?_
                      have hL257 : ∀ v, v ≤ n2 → ∀ (m4 : M1), (Fr (fun a_ => a_ = 263) m3 m4 ∧ Ot k m3 m4 ∧ ∀ r, r < 8 → ∀ c, c < 8 → m4 263 (64 * k + 8 * r + c) = if r = n + u ∧ n ≤ c ∧ c < n + v then (fun z w => m 263 (64 * b + 8 * z + w)) u (c - n) else m3 263 (64 * k + 8 * r + c)) → Rw (Ev d) k_X10_join (257, [], [some (.ref (261)), some (.int (iI (((a : Nat) : Int)))), some (.int (iI (((b : Nat) : Int)))), some (.int (iI (1))), some (.int (iI (1))), some (.int (iI (((k : Nat) : Int)))), some (.int (iI (((n : Nat) : Int)))), some (.int (iI (((u : Nat) : Int)))), some (.int (iI (((v : Nat) : Int))))], [], hpM S fz (m4, p), 0, 0) Qr := by
                        refine loop_any (fun v hi257 ih257 => ?_)
                        intro m4
                        intro hI257
                        obtain ⟨hF4, hO4, hA4⟩ := hI257
                        refine rw_blk lk_X10_join_257 ?_
                        refine rw_of (fun rr hrr => q_iload rfl (q_aload_n rfl (q_getR (show SH 261 = (18, 0) from rfl) rfl (pt_261_1 hP) (q_iload_n rfl (q_iald (j := b) (show SH 262 = (1, 13) from rfl) rfl (by omega) (ki (hF4 262 (by show ¬ (262 = 263); omega)) eb2_m3 (by omega)) hrr))))) ?_
                        refine rw_icmp_ge ⟨by omega, by omega⟩ ⟨by omega, by omega⟩ (t := 308) rfl (fun hc29 => ?_) (fun hc29 => ?_)
                        · skip
                          refine rw_blk lk_X10_join_308 ?_
                          refine rw_of (fun rr hrr => q_iconst (q_istore (Nat.le_of_ble_eq_true rfl) rfl hrr)) ?_
                          have hL311 : ∀ w5, w5 ≤ n → ∀ (m5 : M1), (Fr (fun a_ => a_ = 263) m4 m5 ∧ Ot k m4 m5 ∧ ∀ r, r < 8 → ∀ c, c < 8 → m5 263 (64 * k + 8 * r + c) = if r = n + u ∧ c < w5 then (fun z w => m 264 (8 * b + z) * m 265 (8 * a + w)) u c else m4 263 (64 * k + 8 * r + c)) → Rw (Ev d) k_X10_join (311, [], [some (.ref (261)), some (.int (iI (((a : Nat) : Int)))), some (.int (iI (((b : Nat) : Int)))), some (.int (iI (1))), some (.int (iI (1))), some (.int (iI (((k : Nat) : Int)))), some (.int (iI (((n : Nat) : Int)))), some (.int (iI (((u : Nat) : Int)))), some (.int (iI (((w5 : Nat) : Int))))], [], hpM S fz (m5, p), 0, 0) Qr := by
                            refine loop_any (fun w5 hi311 ih311 => ?_)
                            intro m5
                            intro hI311
                            obtain ⟨hF5, hO5, hA5⟩ := hI311
                            refine rw_blk lk_X10_join_311 ?_
                            refine rw_of (fun rr hrr => q_iload rfl (q_iload rfl hrr)) ?_
                            refine rw_icmp_ge ⟨by omega, by omega⟩ ⟨by omega, by omega⟩ (t := 377) rfl (fun hc30 => ?_) (fun hc30 => ?_)
                            · skip
                              refine rw_blk lk_X10_join_377 ?_
                              refine rw_of (fun rr hrr => q_aload_n rfl (q_getR (show SH 261 = (18, 0) from rfl) rfl (pt_261_3 hP) (q_bipush rfl (q_iload rfl (q_imul (q_iload rfl (q_iadd (q_iload rfl (q_iadd (q_iload_n rfl hrr)))))))))) ?_
                              refine rw_if_eq ⟨by omega, by omega⟩ (t := 420) rfl (fun hc31 => ?_) (fun hc31 => ?_)
                              · exfalso; omega
                              · skip
                                refine rw_of (fun rr hrr => q_aload_n rfl (q_getR (show SH 261 = (18, 0) from rfl) rfl (pt_261_3 hP) (q_bipush rfl (q_iload_n rfl (q_imul (q_iload rfl (q_iadd (q_iald (j := 8 * b + u) (show SH 264 = (1, 104) from rfl) (by omega) (by omega) rfl (q_aload_n rfl (q_getR (show SH 261 = (18, 0) from rfl) rfl (pt_261_5 hP) (q_iload_n rfl (q_iald (j := a) (show SH 266 = (1, 13) from rfl) rfl (by omega) rfl hrr)))))))))))) ?_
                                obtain ⟨_, mm32, pp33, hV34, rfl, rfl, rfl⟩ := c_X10_times (S := S) (fz := fz) (m := m5) (p := p) (d := d) (by omega) (m5 264 (8 * b + u)) (m5 266 a)
                                refine rw_of (fun rr hrr => q_invS hV34 rfl rfl (okar_cons rfl (okar_cons rfl okar_nil)) (Nat.le_of_ble_eq_true rfl) (q_goto (t := 432) rfl hrr)) ?_
                                refine rw_blk lk_X10_join_432 ?_
                                refine rw_of (fun rr hrr => q_iast (j := 8 * k + n + u) (xx := (m5 264 (8 * b + u)) * (m5 266 a)) (show SH 264 = (1, 104) from rfl) (by omega) (by omega) rfl hrr) ?_
                                generalize hm36 : w1 m5 264 (8 * k + n + u) ((m5 264 (8 * b + u)) * (m5 266 a)) = mm35
                                refine rw_of (fun rr hrr => q_aload_n rfl (q_getR (show SH 261 = (18, 0) from rfl) rfl (pt_261_4 hP) (q_bipush rfl (q_iload rfl (q_imul (q_iload rfl (q_iadd (q_iload rfl (q_iadd (q_aload_n rfl (q_getR (show SH 261 = (18, 0) from rfl) rfl (pt_261_4 hP) (q_bipush rfl (q_iload_n rfl (q_imul (q_iload rfl (q_iadd (q_iald (j := 8 * b + u) (show SH 265 = (1, 104) from rfl) (by omega) (by omega) rfl (q_iast (j := 8 * k + n + u) (xx := mm35 265 (8 * b + u)) (show SH 265 = (1, 104) from rfl) (by omega) (by omega) rfl hrr)))))))))))))))))) ?_
                                generalize hm38 : w1 mm35 265 (8 * k + n + u) (mm35 265 (8 * b + u)) = mm37
                                refine rw_of (fun rr hrr => q_iinc rfl rfl (q_goto (t := 243) rfl hrr)) ?_
                                have hA39 : Fr (fun a_ => a_ = 263 ∨ a_ = 264 ∨ a_ = 265) mm16 mm37 ∧ Ot k mm16 mm37 ∧ (∀ r, r < 8 → ∀ c, c < 8 → mm37 263 (64 * k + 8 * r + c) = jnA n n2 (fun z w => m 264 (8 * b + z) * m 265 (8 * a + w)) (fun z w => m 263 (64 * a + 8 * z + w)) (fun z w => m 263 (64 * b + 8 * z + w)) ((u + 1)) r c) ∧ ∀ r, r < 8 → mm37 264 (8 * k + r) = jnb n (fun z => m 264 (8 * a + z)) (fun z => m 264 (8 * b + z) * m 266 a) (u + 1) r ∧ mm37 265 (8 * k + r) = jnb n (fun z => m 266 b * m 265 (8 * a + z)) (fun z => m 265 (8 * b + z)) (u + 1) r := by
                                  have e8 : n2 = v := (by omega)
                                  have e7 : n = w5 := (by omega)
                                  have hF9 : Fr (fun a_ => a_ = 263) m3 m5 := Fr_trans hF4 hF5
                                  have hO9 : Ot k m3 m5 := Ot_trans hO4 hO5
                                  have hA9 : ∀ r, r < 8 → ∀ c, c < 8 → m5 263 (64 * k + 8 * r + c) = if r = n + u ∧ c < n then (fun z w => m 264 (8 * b + z) * m 265 (8 * a + w)) u c else if r = n + u ∧ n ≤ c ∧ c < n + n2 then (fun z w => m 263 (64 * b + 8 * z + w)) u (c - n) else m3 263 (64 * k + 8 * r + c) := fun r hr c hc => by
                                    rw [hA5 r hr c hc, ← e7]
                                    by_cases q : r = n + u ∧ c < n
                                    · rw [if_pos q, if_pos q]
                                    · rw [if_neg q, if_neg q, hA4 r hr c hc, ← e8]
                                  refine ⟨fr_w hm38 (fr_w hm36 (Fr_trans hF3 (Fr_mono hF9 (fun a ha => by omega))) (by omega)) (by omega), Ot_w hm38 (Ot_w hm36 (Ot_trans hO3 hO9) (by omega)) (by omega), fun r hr c hc => ?_, fun r hr => ?_⟩
                                  · rw [← hm38, w1_a (by omega), ← hm36, w1_a (by omega), hA9 r hr c hc, jnA_s]
                                    by_cases q : r = n + u
                                    · rw [if_pos q]
                                      by_cases q2 : c < n
                                      · rw [if_pos ⟨q, q2⟩, if_pos q2]
                                      · rw [if_neg (fun z => q2 z.2), if_neg q2]
                                        by_cases q3 : c < n + n2
                                        · rw [if_pos ⟨q, by omega, q3⟩, if_pos q3]
                                        · rw [if_neg (fun z => q3 z.2.2), if_neg q3, hA3 r hr c hc, q, jnA_u]
                                    · rw [if_neg q, if_neg (fun z => q z.1), if_neg (fun z => q z.1), hA3 r hr c hc]
                                  · rw [← hm38, ← hm36, jnb_s, jnb_s]
                                    have h9 := hV3 r hr
                                    by_cases q : r = n + u
                                    · rw [q, show 8 * k + (n + u) = 8 * k + n + u by omega, w1_a (by omega), w1_at, w1_at, if_pos rfl, if_pos rfl, w1_a (by omega), hF9 264 (by omega), hF9 265 (by omega), hF9 266 (by omega), eb_m3 u (by omega), eC_m3 u (by omega), e6a_m3]
                                      exact ⟨rfl, rfl⟩
                                    · rw [w1_a (by omega), w1_ne (by omega), w1_ne (by omega), w1_a (by omega), hF9 264 (by omega), hF9 265 (by omega), if_neg q, if_neg q]
                                      exact h9
                                exact rw_cast (ih243 (by omega) mm37 (some (.int (iI (((w5 : Nat) : Int))))) hA39) (lcons rfl (lcons rfl (lcons rfl (lcons rfl (lcons rfl (lcons rfl (lcons rfl (lcons (lvI (by omega)) (lcons rfl rfl))))))))) rfl
                            · skip
                              refine rw_of (fun rr hrr => q_iload_n rfl hrr) ?_
                              refine rw_if_eq ⟨by omega, by omega⟩ (t := 377) rfl (fun hc40 => ?_) (fun hc40 => ?_)
                              · exfalso; omega
                              · skip
                                refine rw_of (fun rr hrr => q_aload_n rfl (q_getR (show SH 261 = (18, 0) from rfl) rfl (pt_261_2 hP) (q_bipush rfl (q_iload rfl (q_imul (q_bipush rfl (q_iload rfl (q_iload rfl (q_iadd (q_imul (q_iadd (q_iload rfl (q_iadd (q_aload_n rfl (q_getR (show SH 261 = (18, 0) from rfl) rfl (pt_261_3 hP) (q_bipush rfl (q_iload_n rfl (q_imul (q_iload rfl (q_iadd (q_iald (j := 8 * b + u) (show SH 264 = (1, 104) from rfl) (by omega) (by omega) rfl (q_aload_n rfl (q_getR (show SH 261 = (18, 0) from rfl) rfl (pt_261_4 hP) (q_bipush rfl (q_iload_n rfl (q_imul (q_iload rfl (q_iadd (q_iald (j := 8 * a + w5) (show SH 265 = (1, 104) from rfl) (by omega) (by omega) rfl hrr))))))))))))))))))))))))))))) ?_
                                obtain ⟨_, mm41, pp42, hV43, rfl, rfl, rfl⟩ := c_X10_times (S := S) (fz := fz) (m := m5) (p := p) (d := d) (by omega) (m5 264 (8 * b + u)) (m5 265 (8 * a + w5))
                                refine rw_of (fun rr hrr => q_invS hV43 rfl rfl (okar_cons rfl (okar_cons rfl okar_nil)) (Nat.le_of_ble_eq_true rfl) (q_iast (j := 64 * k + (8 * (n + u)) + w5) (xx := (m5 264 (8 * b + u)) * (m5 265 (8 * a + w5))) (show SH 263 = (1, 832) from rfl) (by omega) (by omega) rfl hrr)) ?_
                                generalize hm45 : w1 m5 263 (64 * k + (8 * (n + u)) + w5) ((m5 264 (8 * b + u)) * (m5 265 (8 * a + w5))) = mm44
                                refine rw_of (fun rr hrr => q_iinc rfl rfl (q_goto (t := 311) rfl hrr)) ?_
                                have hA46 : Fr (fun a_ => a_ = 263) m4 mm44 ∧ Ot k m4 mm44 ∧ ∀ r, r < 8 → ∀ c, c < 8 → mm44 263 (64 * k + 8 * r + c) = if r = n + u ∧ c < (w5 + 1) then (fun z w => m 264 (8 * b + z) * m 265 (8 * a + w)) u c else m4 263 (64 * k + 8 * r + c) := by
                                  refine ⟨fr_w hm45 hF5 (by omega), Ot_w hm45 hO5 (by omega), fun r hr c hc => ?_⟩
                                  rw [← hm45]
                                  by_cases q : r = n + u ∧ c = w5
                                  · rw [q.1, q.2, w1_at, if_pos (by omega), hF5 264 (by omega), hF5 265 (by omega), hF4 264 (by omega), hF4 265 (by omega), eb_m3 u (by omega), ec_m3 w5 (by omega)]
                                  · rw [w1_ne (by omega), hA5 r hr c hc]
                                    by_cases q2 : r = n + u ∧ c < w5
                                    · rw [if_pos q2, if_pos (by omega)]
                                    · rw [if_neg q2, if_neg (by omega)]
                                exact rw_cast (ih311 (by omega) mm44 hA46) (lcons rfl (lcons rfl (lcons rfl (lcons rfl (lcons rfl (lcons rfl (lcons rfl (lcons rfl (lcons (lvI (by omega)) rfl))))))))) rfl
                          exact rw_cast (hL311 0 (by omega) m4 (by exact ⟨Fr_rfl, Ot_rfl, fun r hr c hc => (if_neg (by omega)).symm⟩)) (lcons rfl (lcons rfl (lcons rfl (lcons rfl (lcons rfl (lcons rfl (lcons rfl (lcons rfl (lcons (lvI (by omega)) rfl))))))))) rfl
                        · skip
                          refine rw_of (fun rr hrr => q_aload_n rfl (q_getR (show SH 261 = (18, 0) from rfl) rfl (pt_261_2 hP) (q_bipush rfl (q_iload rfl (q_imul (q_bipush rfl (q_iload rfl (q_iload rfl (q_iadd (q_imul (q_iadd (q_iload rfl (q_iadd (q_iload rfl (q_iadd (q_aload_n rfl (q_iload_n rfl (q_iload rfl (q_iload rfl hrr))))))))))))))))))) ?_
                          obtain ⟨_, mm47, pp48, hV49, rfl, rfl, rfl⟩ := c_X10_square (S := S) (fz := fz) (m := m4) (p := p) (d := d) (by omega) (b) (u) (v) hP (by omega) (by omega) (by omega)
                          refine rw_of (fun rr hrr => q_invV hV49 (show SH 261 = (18, 0) from rfl) rfl rfl (okar_cons rfl (okar_cons rfl (okar_cons rfl okar_nil))) (Nat.le_of_ble_eq_true rfl) (q_iast (j := 64 * k + (8 * (n + u)) + n + v) (xx := m4 263 (64 * b + 8 * u + v)) (show SH 263 = (1, 832) from rfl) (by omega) (by omega) rfl hrr)) ?_
                          generalize hm51 : w1 m4 263 (64 * k + (8 * (n + u)) + n + v) (m4 263 (64 * b + 8 * u + v)) = mm50
                          refine rw_of (fun rr hrr => q_iinc rfl rfl (q_goto (t := 257) rfl hrr)) ?_
                          have hA52 : Fr (fun a_ => a_ = 263) m3 mm50 ∧ Ot k m3 mm50 ∧ ∀ r, r < 8 → ∀ c, c < 8 → mm50 263 (64 * k + 8 * r + c) = if r = n + u ∧ n ≤ c ∧ c < n + (v + 1) then (fun z w => m 263 (64 * b + 8 * z + w)) u (c - n) else m3 263 (64 * k + 8 * r + c) := by
                            refine ⟨fr_w hm51 hF4 (by omega), Ot_w hm51 hO4 (by omega), fun r hr c hc => ?_⟩
                            rw [← hm51]
                            by_cases q : r = n + u ∧ c = n + v
                            · rw [q.1, q.2, show 64 * k + 8 * (n + u) + (n + v) = 64 * k + 8 * (n + u) + n + v by omega, w1_at, if_pos (by omega), hO4.1 (64 * b + 8 * u + v) (by omega), show n + v - n = v by omega]
                              exact eD_m3 u v (by omega) (by omega)
                            · rw [w1_ne (by omega), hA4 r hr c hc]
                              by_cases q2 : r = n + u ∧ n ≤ c ∧ c < n + v
                              · rw [if_pos q2, if_pos (by omega)]
                              · rw [if_neg q2, if_neg (by omega)]
                          exact rw_cast (ih257 (by omega) mm50 hA52) (lcons rfl (lcons rfl (lcons rfl (lcons rfl (lcons rfl (lcons rfl (lcons rfl (lcons rfl (lcons (lvI (by omega)) rfl))))))))) rfl
                      exact rw_cast (hL257 0 (by omega) m3 (by exact ⟨Fr_rfl, Ot_rfl, fun r hr c hc => (if_neg (by omega)).symm⟩)) (lcons rfl (lcons rfl (lcons rfl (lcons rfl (lcons rfl (lcons rfl (lcons rfl (lcons rfl (lcons (lvI (by omega)) rfl))))))))) rfl
                  have hA53 : Fr (fun a_ => a_ = 263 ∨ a_ = 264 ∨ a_ = 265) mm16 m1 ∧ Ot k mm16 m1 ∧ (∀ r, r < 8 → ∀ c, c < 8 → m1 263 (64 * k + 8 * r + c) = jnA n n2 (fun z w => m 264 (8 * b + z) * m 265 (8 * a + w)) (fun z w => m 263 (64 * a + 8 * z + w)) (fun z w => m 263 (64 * b + 8 * z + w)) (0) r c) ∧ ∀ r, r < 8 → m1 264 (8 * k + r) = jnb n (fun z => m 264 (8 * a + z)) (fun z => m 264 (8 * b + z) * m 266 a) 0 r ∧ m1 265 (8 * k + r) = jnb n (fun z => m 266 b * m 265 (8 * a + z)) (fun z => m 265 (8 * b + z)) 0 r := by
                    have e9 : n = i := (by omega)
                    subst e9
                    refine ⟨hF1, hO1, fun r hr c hc => ?_, fun r hr => ?_⟩
                    · rw [hA1 r hr c hc]
                      unfold jnA
                      by_cases q : r < n
                      · rw [if_pos q]
                        by_cases q2 : c < n
                        · rw [if_pos q2, if_pos ⟨q, q2⟩]
                        · rw [if_neg q2, if_neg (by omega)]
                      · rw [if_neg q, if_neg (by omega), if_neg (by omega)]
                    · have h9 := hV1 r hr
                      rw [h9.1, h9.2]
                      unfold jnb
                      by_cases q : r < n
                      · rw [if_pos q, if_pos q, if_pos q, if_pos q]
                        exact ⟨rfl, rfl⟩
                      · rw [if_neg q, if_neg q, if_neg q, if_neg q, if_neg (by omega), if_neg (by omega)]
                        exact ⟨rfl, rfl⟩
                  exact rw_cast (hL243 0 (by omega) m1 x105_8 hA53) (lcons rfl (lcons rfl (lcons rfl (lcons rfl (lcons rfl (lcons rfl (lcons rfl (lcons (lvI (by omega)) (lcons rfl rfl))))))))) rfl
                · skip
                  refine rw_of (fun rr hrr => q_iconst (q_istore (Nat.le_of_ble_eq_true rfl) rfl hrr)) ?_
                  have hL115 : ∀ j, j ≤ n → ∀ (m2 : M1), (Fr (fun a_ => a_ = 263) m1 m2 ∧ Ot k m1 m2 ∧ ∀ r, r < 8 → ∀ c, c < 8 → m2 263 (64 * k + 8 * r + c) = if r = i ∧ c < j then (fun z w => m 263 (64 * a + 8 * z + w)) i c else m1 263 (64 * k + 8 * r + c)) → Rw (Ev d) k_X10_join (115, [], [some (.ref (261)), some (.int (iI (((a : Nat) : Int)))), some (.int (iI (((b : Nat) : Int)))), some (.int (iI (1))), some (.int (iI (1))), some (.int (iI (((k : Nat) : Int)))), some (.int (iI (((n : Nat) : Int)))), some (.int (iI (((i : Nat) : Int)))), some (.int (iI (((j : Nat) : Int))))], [], hpM S fz (m2, p), 0, 0) Qr := by
                    refine loop_any (fun j hi115 ih115 => ?_)
                    intro m2
                    intro hI115
                    obtain ⟨hF2, hO2, hA2⟩ := hI115
                    refine rw_blk lk_X10_join_115 ?_
                    refine rw_of (fun rr hrr => q_iload rfl (q_iload rfl hrr)) ?_
                    refine rw_icmp_ge ⟨by omega, by omega⟩ ⟨by omega, by omega⟩ (t := 156) rfl (fun hc54 => ?_) (fun hc54 => ?_)
                    · skip
                      refine rw_blk lk_X10_join_156 ?_
                      refine rw_of (fun rr hrr => q_aload_n rfl (q_getR (show SH 261 = (18, 0) from rfl) rfl (pt_261_3 hP) (q_bipush rfl (q_iload rfl (q_imul (q_iload rfl (q_iadd (q_aload_n rfl (q_getR (show SH 261 = (18, 0) from rfl) rfl (pt_261_3 hP) (q_bipush rfl (q_iload_n rfl (q_imul (q_iload rfl (q_iadd (q_iald (j := 8 * a + i) (show SH 264 = (1, 104) from rfl) (by omega) (by omega) rfl (q_iast (j := 8 * k + i) (xx := m2 264 (8 * a + i)) (show SH 264 = (1, 104) from rfl) (by omega) (by omega) rfl hrr)))))))))))))))) ?_
                      generalize hm56 : w1 m2 264 (8 * k + i) (m2 264 (8 * a + i)) = mm55
                      refine rw_of (fun rr hrr => q_aload_n rfl (q_getR (show SH 261 = (18, 0) from rfl) rfl (pt_261_4 hP) (q_bipush rfl (q_iload rfl (q_imul (q_iload rfl (q_iadd (q_iload_n rfl hrr)))))))) ?_
                      refine rw_if_eq ⟨by omega, by omega⟩ (t := 221) rfl (fun hc57 => ?_) (fun hc57 => ?_)
                      · exfalso; omega
                      · skip
                        refine rw_of (fun rr hrr => q_aload_n rfl (q_getR (show SH 261 = (18, 0) from rfl) rfl (pt_261_5 hP) (q_iload_n rfl (q_iald (j := b) (show SH 266 = (1, 13) from rfl) rfl (by omega) rfl (q_aload_n rfl (q_getR (show SH 261 = (18, 0) from rfl) rfl (pt_261_4 hP) (q_bipush rfl (q_iload_n rfl (q_imul (q_iload rfl (q_iadd (q_iald (j := 8 * a + i) (show SH 265 = (1, 104) from rfl) (by omega) (by omega) rfl hrr)))))))))))) ?_
                        obtain ⟨_, mm58, pp59, hV60, rfl, rfl, rfl⟩ := c_X10_times (S := S) (fz := fz) (m := mm55) (p := p) (d := d) (by omega) (mm55 266 b) (mm55 265 (8 * a + i))
                        refine rw_of (fun rr hrr => q_invS hV60 rfl rfl (okar_cons rfl (okar_cons rfl okar_nil)) (Nat.le_of_ble_eq_true rfl) (q_goto (t := 233) rfl hrr)) ?_
                        refine rw_blk lk_X10_join_233 ?_
                        refine rw_of (fun rr hrr => q_iast (j := 8 * k + i) (xx := (mm55 266 b) * (mm55 265 (8 * a + i))) (show SH 265 = (1, 104) from rfl) (by omega) (by omega) rfl hrr) ?_
                        generalize hm62 : w1 mm55 265 (8 * k + i) ((mm55 266 b) * (mm55 265 (8 * a + i))) = mm61
                        refine rw_of (fun rr hrr => q_iinc rfl rfl (q_goto (t := 105) rfl hrr)) ?_
                        have hA63 : Fr (fun a_ => a_ = 263 ∨ a_ = 264 ∨ a_ = 265) mm16 mm61 ∧ Ot k mm16 mm61 ∧ (∀ r, r < 8 → ∀ c, c < 8 → mm61 263 (64 * k + 8 * r + c) = if r < (i + 1) ∧ c < n then (fun z w => m 263 (64 * a + 8 * z + w)) r c else 0) ∧ ∀ r, r < 8 → mm61 264 (8 * k + r) = (if r < (i + 1) then (fun z => m 264 (8 * a + z)) r else 0) ∧ mm61 265 (8 * k + r) = if r < (i + 1) then (fun z => m 266 b * m 265 (8 * a + z)) r else 0 := by
                          refine ⟨fr_w hm62 (fr_w hm56 (Fr_trans hF1 (Fr_mono hF2 (fun a ha => by omega))) (by omega)) (by omega), Ot_w hm62 (Ot_w hm56 (Ot_trans hO1 hO2) (by omega)) (by omega), fun r hr c hc => ?_, fun r hr => ?_⟩
                          · rw [← hm62, w1_a (by omega), ← hm56, w1_a (by omega), hA2 r hr c hc]
                            by_cases q : r = i ∧ c < j
                            · rw [if_pos q, if_pos (by omega), q.1]
                            · rw [if_neg q, hA1 r hr c hc]
                              by_cases q2 : r < i ∧ c < n
                              · rw [if_pos q2, if_pos (by omega)]
                              · rw [if_neg q2, if_neg (by omega)]
                          · rw [← hm62, ← hm56]
                            by_cases q : r = i
                            · rw [q, w1_a (by omega), w1_at, w1_at, if_pos (by omega), if_pos (by omega), w1_a (by omega), w1_a (by omega), hF2 264 (by omega), hF2 265 (by omega), hF2 266 (by omega), eB_m1 i (by omega), ec_m1 i (by omega), e6b_m1]
                              exact ⟨rfl, rfl⟩
                            · have h9 := hV1 r hr
                              rw [w1_a (by omega), w1_ne (by omega), w1_ne (by omega), w1_a (by omega), hF2 264 (by omega), hF2 265 (by omega), h9.1, h9.2]
                              by_cases q2 : r < i
                              · rw [if_pos q2, if_pos q2, if_pos (by omega), if_pos (by omega)]
                                exact ⟨rfl, rfl⟩
                              · rw [if_neg q2, if_neg q2, if_neg (by omega), if_neg (by omega)]
                                exact ⟨rfl, rfl⟩
                        exact rw_cast (ih105 (by omega) mm61 (some (.int (iI (((j : Nat) : Int))))) hA63) (lcons rfl (lcons rfl (lcons rfl (lcons rfl (lcons rfl (lcons rfl (lcons rfl (lcons (lvI (by omega)) (lcons rfl rfl))))))))) rfl
                    · skip
                      refine rw_of (fun rr hrr => q_aload_n rfl (q_getR (show SH 261 = (18, 0) from rfl) rfl (pt_261_2 hP) (q_bipush rfl (q_iload rfl (q_imul (q_bipush rfl (q_iload rfl (q_imul (q_iadd (q_iload rfl (q_iadd (q_aload_n rfl (q_iload_n rfl (q_iload rfl (q_iload rfl hrr))))))))))))))) ?_
                      obtain ⟨_, mm64, pp65, hV66, rfl, rfl, rfl⟩ := c_X10_square (S := S) (fz := fz) (m := m2) (p := p) (d := d) (by omega) (a) (i) (j) hP (by omega) (by omega) (by omega)
                      refine rw_of (fun rr hrr => q_invV hV66 (show SH 261 = (18, 0) from rfl) rfl rfl (okar_cons rfl (okar_cons rfl (okar_cons rfl okar_nil))) (Nat.le_of_ble_eq_true rfl) (q_iast (j := 64 * k + (8 * i) + j) (xx := m2 263 (64 * a + 8 * i + j)) (show SH 263 = (1, 832) from rfl) (by omega) (by omega) rfl hrr)) ?_
                      generalize hm68 : w1 m2 263 (64 * k + (8 * i) + j) (m2 263 (64 * a + 8 * i + j)) = mm67
                      refine rw_of (fun rr hrr => q_iinc rfl rfl (q_goto (t := 115) rfl hrr)) ?_
                      have hA69 : Fr (fun a_ => a_ = 263) m1 mm67 ∧ Ot k m1 mm67 ∧ ∀ r, r < 8 → ∀ c, c < 8 → mm67 263 (64 * k + 8 * r + c) = if r = i ∧ c < (j + 1) then (fun z w => m 263 (64 * a + 8 * z + w)) i c else m1 263 (64 * k + 8 * r + c) := by
                        refine ⟨fr_w hm68 hF2 (by omega), Ot_w hm68 hO2 (by omega), fun r hr c hc => ?_⟩
                        rw [← hm68]
                        by_cases q : r = i ∧ c = j
                        · rw [q.1, q.2, w1_at, if_pos (by omega), hO2.1 (64 * a + 8 * i + j) (by omega)]
                          exact eA_m1 i j (by omega) (by omega)
                        · rw [w1_ne (by omega), hA2 r hr c hc]
                          by_cases q2 : r = i ∧ c < j
                          · rw [if_pos q2, if_pos (by omega)]
                          · rw [if_neg q2, if_neg (by omega)]
                      exact rw_cast (ih115 (by omega) mm67 hA69) (lcons rfl (lcons rfl (lcons rfl (lcons rfl (lcons rfl (lcons rfl (lcons rfl (lcons rfl (lcons (lvI (by omega)) rfl))))))))) rfl
                  exact rw_cast (hL115 0 (by omega) m1 (by exact ⟨Fr_rfl, Ot_rfl, fun r hr c hc => (if_neg (by omega)).symm⟩)) (lcons rfl (lcons rfl (lcons rfl (lcons rfl (lcons rfl (lcons rfl (lcons rfl (lcons rfl (lcons (lvI (by omega)) rfl))))))))) rfl
              have hA70 : Fr (fun a_ => a_ = 263 ∨ a_ = 264 ∨ a_ = 265) mm16 mm16 ∧ Ot k mm16 mm16 ∧ (∀ r, r < 8 → ∀ c, c < 8 → mm16 263 (64 * k + 8 * r + c) = if r < 0 ∧ c < n then (fun z w => m 263 (64 * a + 8 * z + w)) r c else 0) ∧ ∀ r, r < 8 → mm16 264 (8 * k + r) = (if r < 0 then (fun z => m 264 (8 * a + z)) r else 0) ∧ mm16 265 (8 * k + r) = if r < 0 then (fun z => m 266 b * m 265 (8 * a + z)) r else 0 := by
                refine ⟨Fr_rfl, Ot_rfl, fun r hr c hc => ?_, fun r hr => ?_⟩
                · rw [if_neg (by omega), hA18, if_pos (by omega)]
                · rw [if_neg (by omega), if_neg (by omega), hb18, if_pos (by omega), hc18, if_pos (by omega)]
                  exact ⟨rfl, rfl⟩
              exact rw_cast (hL105 0 (by omega) mm16 none hA70) (lcons rfl (lcons rfl (lcons rfl (lcons rfl (lcons rfl (lcons rfl (lcons rfl (lcons (lvI (by omega)) (lcons rfl rfl))))))))) rfl
            · exfalso; omega
          · exfalso; omega
      · exfalso; omega
theorem c_X10_join0 {d : Nat} {S : MC} {fz : Bool} {m : M1} {p : M2} (hd : 3 ≤ d) (a b k n n2 : Nat) (hP : PI p) (hk : m 261 0 = nF k) (hk12 : k ≤ 12) (ha : a < k) (hb : b < k) (hma : m 262 a = nF n) (hmb : m 262 b = nF n2) (hn : 1 ≤ n ∧ n ≤ 8 ∧ 1 ≤ n2 ∧ n2 ≤ 8) (hs : n + n2 ≤ 8) (hk1 : k < 12) : Ct d k_X10_join S fz [.ref (261), .int (iI (((a : Nat) : Int))), .int (iI (((b : Nat) : Int))), .int (iI (0))] m p (fun v m' p' => v = some (.int (iI ((k : Nat) : Int))) ∧ p = p' ∧ MK k (n + n2) (fun z w => sidA n (fun z w => m 263 (64 * a + 8 * z + w)) (fun z w => m 263 (64 * b + 8 * z + w)) z w) (fun z => twob n 1 (fun z => m 264 (8 * a + z)) 1 (fun z => m 264 (8 * b + z)) z) (fun z => twob n 1 (fun z => m 265 (8 * a + z)) 1 (fun z => m 265 (8 * b + z)) z) (m 266 a + m 266 b) m m') := by
  obtain ⟨d, rfl⟩ : ∃ e, d = e + 1 := ⟨d - 1, by omega⟩
  refine ct_go (lv := [some (.ref (261)), some (.int (iI (((a : Nat) : Int)))), some (.int (iI (((b : Nat) : Int)))), some (.int (iI (0))), none, none, none, none, none]) (Nat.le_of_ble_eq_true rfl) (okar_cons rfl (okar_cons rfl (okar_cons rfl (okar_cons rfl okar_nil)))) rfl (fun Qr hQ => ?_)
  refine rw_blk lk_X10_join_0 ?_
  refine rw_of (fun rr hrr => q_aload_n rfl (q_iload_n rfl hrr)) ?_
  obtain ⟨_, mm1, pp2, hV3, rfl, rfl, rfl⟩ := c_X10_isSystem1 (S := S) (fz := fz) (m := m) (p := p) (d := d) (by omega) (((a : Nat) : Int)) (k) hP hk (by omega) (by omega) (by omega)
  refine rw_of (fun rr hrr => q_invV hV3 (show SH 261 = (18, 0) from rfl) rfl rfl (okar_cons rfl okar_nil) (Nat.le_of_ble_eq_true rfl) hrr) ?_
  refine rw_if_eq ⟨by omega, by omega⟩ (t := 20) rfl (fun hc4 => ?_) (fun hc4 => ?_)
  · exfalso; omega
  · skip
    refine rw_of (fun rr hrr => q_aload_n rfl (q_iload_n rfl hrr)) ?_
    obtain ⟨_, mm5, pp6, hV7, rfl, rfl, rfl⟩ := c_X10_isSystem1 (S := S) (fz := fz) (m := m) (p := p) (d := d) (by omega) (((b : Nat) : Int)) (k) hP hk (by omega) (by omega) (by omega)
    refine rw_of (fun rr hrr => q_invV hV7 (show SH 261 = (18, 0) from rfl) rfl rfl (okar_cons rfl okar_nil) (Nat.le_of_ble_eq_true rfl) hrr) ?_
    refine rw_if_eq ⟨by omega, by omega⟩ (t := 20) rfl (fun hc8 => ?_) (fun hc8 => ?_)
    · exfalso; omega
    · skip
      refine rw_of (fun rr hrr => q_iconst (q_goto (t := 21) rfl hrr)) ?_
      refine rw_blk lk_X10_join_21 ?_
      refine rw_of (fun rr hrr => q_istore (Nat.le_of_ble_eq_true rfl) rfl (q_aload_n rfl (q_iload rfl hrr))) ?_
      refine rw_if_ne ⟨by omega, by omega⟩ (t := 33) rfl (fun hc9 => ?_) (fun hc9 => ?_)
      · skip
        refine rw_blk lk_X10_join_33 ?_
        refine rw_of (fun rr hrr => q_aload_n rfl (q_getR (show SH 261 = (18, 0) from rfl) rfl (pt_261_1 hP) (q_iload_n rfl (q_iald (j := a) (show SH 262 = (1, 13) from rfl) rfl (by omega) (ki rfl hma (by omega)) (q_aload_n rfl (q_getR (show SH 261 = (18, 0) from rfl) rfl (pt_261_1 hP) (q_iload_n rfl (q_iald (j := b) (show SH 262 = (1, 13) from rfl) rfl (by omega) (ki rfl hmb (by omega)) (q_iadd (q_bipush rfl hrr)))))))))) ?_
        refine rw_icmp_gt ⟨by omega, by omega⟩ ⟨by omega, by omega⟩ (t := 60) rfl (fun hc10 => ?_) (fun hc10 => ?_)
        · exfalso; omega
        · skip
          refine rw_of (fun rr hrr => q_aload_n rfl (q_getI (show SH 261 = (18, 0) from rfl) rfl (ki rfl hk (by omega)) (q_bipush rfl hrr))) ?_
          refine rw_icmp_ne ⟨by omega, by omega⟩ ⟨by omega, by omega⟩ (t := 64) rfl (fun hc11 => ?_) (fun hc11 => ?_)
          · skip
            refine rw_blk lk_X10_join_64 ?_
            refine rw_of (fun rr hrr => q_iconst hrr) ?_
            refine rw_blk lk_X10_join_65 ?_
            obtain ⟨_, mm12, pp13, hV14, rfl, rfl, hw14, hF14⟩ := c_X10_fails0 (S := S) (fz := fz) (m := m) (p := p) (d := d) (by omega) hP
            refine rw_of (fun rr hrr => q_invV hV14 (show SH 261 = (18, 0) from rfl) rfl rfl (okar_cons rfl okar_nil) (Nat.le_of_ble_eq_true rfl) hrr) ?_
            refine rw_if_eq ⟨by omega, by omega⟩ (t := 73) rfl (fun hc15 => ?_) (fun hc15 => ?_)
            · skip
              refine rw_blk lk_X10_join_73 ?_
              refine rw_of (fun rr hrr => q_aload_n rfl (q_getI (show SH 261 = (18, 0) from rfl) rfl (by rw [(show mm12 261 0 = m 261 0 from by rw [← hw14, w1_ne (by omega)]), hk, vF_nF (by omega)]) (q_istore (Nat.le_of_ble_eq_true rfl) rfl (q_aload_n rfl (q_getR (show SH 261 = (18, 0) from rfl) rfl (pt_261_1 hP) (q_iload_n rfl (q_iald (j := a) (show SH 262 = (1, 13) from rfl) rfl (by omega) (ki (kw hw14 (by omega)) hma (by omega)) (q_istore (Nat.le_of_ble_eq_true rfl) rfl (q_aload_n rfl (q_iload rfl (q_iload rfl (q_aload_n rfl (q_getR (show SH 261 = (18, 0) from rfl) rfl (pt_261_1 hP) (q_iload_n rfl (q_iald (j := b) (show SH 262 = (1, 13) from rfl) rfl (by omega) (ki (kw hw14 (by omega)) hmb (by omega)) (q_iadd hrr)))))))))))))))) ?_
              obtain ⟨_, mm16, pp17, hV18, rfl, rfl, hF18, ho18, hd18, hA18, hb18, hc18⟩ := c_X10_begins (S := S) (fz := fz) (m := mm12) (p := p) (d := d) (by omega) (k) (n + n2) hP (by omega) (by omega)
              refine rw_of (fun rr hrr => q_invV hV18 (show SH 261 = (18, 0) from rfl) rfl rfl (okar_cons rfl (okar_cons rfl okar_nil)) (Nat.le_of_ble_eq_true rfl) hrr) ?_
              have e3 : mm12 263 = m 263 := hF14 263 (by omega)
              have e4 : mm12 264 = m 264 := hF14 264 (by omega)
              have e5 : mm12 265 = m 265 := hF14 265 (by omega)
              have e6 : mm12 266 = m 266 := hF14 266 (by omega)
              have hot := Ot_of ho18 hd18 hA18 hb18 hc18
              refine rw_of (fun rr hrr => q_iconst (q_istore (Nat.le_of_ble_eq_true rfl) rfl hrr)) ?_
              have hL105 : ∀ i, i ≤ n → ∀ (m1 : M1) (x105_8 : Option Value), (Fr (fun a_ => a_ = 263 ∨ a_ = 264 ∨ a_ = 265) mm16 m1 ∧ Ot k mm16 m1 ∧ (∀ r, r < 8 → ∀ c, c < 8 → m1 263 (64 * k + 8 * r + c) = if r < i ∧ c < n then (fun z w => m 263 (64 * a + 8 * z + w)) r c else 0) ∧ ∀ r, r < 8 → m1 264 (8 * k + r) = (if r < i then (fun z => m 264 (8 * a + z)) r else 0) ∧ m1 265 (8 * k + r) = if r < i then (fun z => m 265 (8 * a + z)) r else 0) → Rw (Ev d) k_X10_join (105, [], [some (.ref (261)), some (.int (iI (((a : Nat) : Int)))), some (.int (iI (((b : Nat) : Int)))), some (.int (iI (0))), some (.int (iI (1))), some (.int (iI (((k : Nat) : Int)))), some (.int (iI (((n : Nat) : Int)))), some (.int (iI (((i : Nat) : Int)))), x105_8], [], hpM S fz (m1, p), 0, 0) Qr := by
                refine loop_any (fun i hi105 ih105 => ?_)
                intro m1 x105_8
                intro hI105
                obtain ⟨hF1, hO1, hA1, hV1⟩ := hI105
                have ho_m1 := Ot_trans hot hO1
                have eb_m1 : ∀ z, z < 8 → m1 264 (8 * b + z) = m 264 (8 * b + z) := fun z hz => by rw [(ho_m1.2.1 (8 * b + z) (by omega)).1, e4]
                have eB_m1 : ∀ z, z < 8 → m1 264 (8 * a + z) = m 264 (8 * a + z) := fun z hz => by rw [(ho_m1.2.1 (8 * a + z) (by omega)).1, e4]
                have ec_m1 : ∀ z, z < 8 → m1 265 (8 * a + z) = m 265 (8 * a + z) := fun z hz => by rw [(ho_m1.2.1 (8 * a + z) (by omega)).2, e5]
                have eC_m1 : ∀ z, z < 8 → m1 265 (8 * b + z) = m 265 (8 * b + z) := fun z hz => by rw [(ho_m1.2.1 (8 * b + z) (by omega)).2, e5]
                have eA_m1 : ∀ z w, z < 8 → w < 8 → m1 263 (64 * a + 8 * z + w) = m 263 (64 * a + 8 * z + w) := fun z w hz hw => by rw [ho_m1.1 (64 * a + 8 * z + w) (by omega), e3]
                have eD_m1 : ∀ z w, z < 8 → w < 8 → m1 263 (64 * b + 8 * z + w) = m 263 (64 * b + 8 * z + w) := fun z w hz hw => by rw [ho_m1.1 (64 * b + 8 * z + w) (by omega), e3]
                have ea2_m1 : m1 262 a = nF n := by rw [(ho_m1.2.2 a ha).1, hF14 262 (by omega)]; exact hma
                have eb2_m1 : m1 262 b = nF n2 := by rw [(ho_m1.2.2 b hb).1, hF14 262 (by omega)]; exact hmb
                have e6a_m1 : m1 266 a = m 266 a := by rw [(ho_m1.2.2 a ha).2, e6]
                have e6b_m1 : m1 266 b = m 266 b := by rw [(ho_m1.2.2 b hb).2, e6]
                refine rw_blk lk_X10_join_105 ?_
                refine rw_of (fun rr hrr => q_iload rfl (q_iload rfl hrr)) ?_
                refine rw_icmp_ge ⟨by omega, by omega⟩ ⟨by omega, by omega⟩ (t := 240) rfl (fun hc19 => ?_) (fun hc19 => ?_)
                · skip
                  refine rw_blk lk_X10_join_240 ?_
                  refine rw_of (fun rr hrr => q_iconst (q_istore (Nat.le_of_ble_eq_true rfl) rfl hrr)) ?_
                  have hL243 : ∀ u, u ≤ n2 → ∀ (m3 : M1) (x243_8 : Option Value), (Fr (fun a_ => a_ = 263 ∨ a_ = 264 ∨ a_ = 265) mm16 m3 ∧ Ot k mm16 m3 ∧ (∀ r, r < 8 → ∀ c, c < 8 → m3 263 (64 * k + 8 * r + c) = jnA n n2 (fun z w => (0 : F)) (fun z w => m 263 (64 * a + 8 * z + w)) (fun z w => m 263 (64 * b + 8 * z + w)) (u) r c) ∧ ∀ r, r < 8 → m3 264 (8 * k + r) = jnb n (fun z => m 264 (8 * a + z)) (fun z => m 264 (8 * b + z)) u r ∧ m3 265 (8 * k + r) = jnb n (fun z => m 265 (8 * a + z)) (fun z => m 265 (8 * b + z)) u r) → Rw (Ev d) k_X10_join (243, [], [some (.ref (261)), some (.int (iI (((a : Nat) : Int)))), some (.int (iI (((b : Nat) : Int)))), some (.int (iI (0))), some (.int (iI (1))), some (.int (iI (((k : Nat) : Int)))), some (.int (iI (((n : Nat) : Int)))), some (.int (iI (((u : Nat) : Int)))), x243_8], [], hpM S fz (m3, p), 0, 0) Qr := by
                    refine loop_any (fun u hi243 ih243 => ?_)
                    intro m3 x243_8
                    intro hI243
                    obtain ⟨hF3, hO3, hA3, hV3⟩ := hI243
                    have ho_m3 := Ot_trans hot hO3
                    have eb_m3 : ∀ z, z < 8 → m3 264 (8 * b + z) = m 264 (8 * b + z) := fun z hz => by rw [(ho_m3.2.1 (8 * b + z) (by omega)).1, e4]
                    have eB_m3 : ∀ z, z < 8 → m3 264 (8 * a + z) = m 264 (8 * a + z) := fun z hz => by rw [(ho_m3.2.1 (8 * a + z) (by omega)).1, e4]
                    have ec_m3 : ∀ z, z < 8 → m3 265 (8 * a + z) = m 265 (8 * a + z) := fun z hz => by rw [(ho_m3.2.1 (8 * a + z) (by omega)).2, e5]
                    have eC_m3 : ∀ z, z < 8 → m3 265 (8 * b + z) = m 265 (8 * b + z) := fun z hz => by rw [(ho_m3.2.1 (8 * b + z) (by omega)).2, e5]
                    have eA_m3 : ∀ z w, z < 8 → w < 8 → m3 263 (64 * a + 8 * z + w) = m 263 (64 * a + 8 * z + w) := fun z w hz hw => by rw [ho_m3.1 (64 * a + 8 * z + w) (by omega), e3]
                    have eD_m3 : ∀ z w, z < 8 → w < 8 → m3 263 (64 * b + 8 * z + w) = m 263 (64 * b + 8 * z + w) := fun z w hz hw => by rw [ho_m3.1 (64 * b + 8 * z + w) (by omega), e3]
                    have ea2_m3 : m3 262 a = nF n := by rw [(ho_m3.2.2 a ha).1, hF14 262 (by omega)]; exact hma
                    have eb2_m3 : m3 262 b = nF n2 := by rw [(ho_m3.2.2 b hb).1, hF14 262 (by omega)]; exact hmb
                    have e6a_m3 : m3 266 a = m 266 a := by rw [(ho_m3.2.2 a ha).2, e6]
                    have e6b_m3 : m3 266 b = m 266 b := by rw [(ho_m3.2.2 b hb).2, e6]
                    refine rw_blk lk_X10_join_243 ?_
                    refine rw_of (fun rr hrr => q_iload rfl (q_aload_n rfl (q_getR (show SH 261 = (18, 0) from rfl) rfl (pt_261_1 hP) (q_iload_n rfl (q_iald (j := b) (show SH 262 = (1, 13) from rfl) rfl (by omega) (ki rfl eb2_m3 (by omega)) hrr))))) ?_
                    refine rw_icmp_ge ⟨by omega, by omega⟩ ⟨by omega, by omega⟩ (t := 467) rfl (fun hc20 => ?_) (fun hc20 => ?_)
                    · skip
                      refine rw_blk lk_X10_join_467 ?_
                      refine rw_of (fun rr hrr => q_aload_n rfl (q_getR (show SH 261 = (18, 0) from rfl) rfl (pt_261_5 hP) (q_iload rfl (q_iload_n rfl hrr)))) ?_
                      refine rw_if_eq ⟨by omega, by omega⟩ (t := 495) rfl (fun hc21 => ?_) (fun hc21 => ?_)
                      · skip
                        refine rw_blk lk_X10_join_495 ?_
                        refine rw_of (fun rr hrr => q_aload_n rfl (q_getR (show SH 261 = (18, 0) from rfl) rfl (pt_261_5 hP) (q_iload_n rfl (q_iald (j := a) (show SH 266 = (1, 13) from rfl) rfl (by omega) rfl (q_aload_n rfl (q_getR (show SH 261 = (18, 0) from rfl) rfl (pt_261_5 hP) (q_iload_n rfl (q_iald (j := b) (show SH 266 = (1, 13) from rfl) rfl (by omega) rfl (q_iadd (q_sipush rfl (q_irem (by have := vF_ge (m3 266 a); have := vF_lt (m3 266 a); have := vF_ge (m3 266 b); have := vF_lt (m3 266 b); exact ⟨by omega, by omega⟩) ⟨by omega, by omega⟩ (by omega) (remF (by have := vF_ge (m3 266 a); have := vF_lt (m3 266 a); have := vF_ge (m3 266 b); have := vF_lt (m3 266 b); omega) (show toF ((vF (m3 266 a) + vF (m3 266 b))) = ((m3 266 a) + (m3 266 b)) by simp only [toF_add, toF_mul, toF_sub, toF_neg, toF_vF, toF_0, toF_1, toF_M, F_add0, F_0sub])) hrr))))))))))) ?_
                        refine rw_blk lk_X10_join_512 ?_
                        refine rw_of (fun rr hrr => q_iast (j := k) (xx := ((m3 266 a) + (m3 266 b))) (show SH 266 = (1, 13) from rfl) rfl (by omega) rfl hrr) ?_
                        generalize hm23 : w1 m3 266 k (((m3 266 a) + (m3 266 b))) = mm22
                        refine rw_of (fun rr hrr => q_aload_n rfl (q_dup rfl (q_getI (show SH 261 = (18, 0) from rfl) rfl (by rw [(show mm22 261 0 = m3 261 0 from by rw [← hm23, w1_ne (by omega)]), (show m3 261 0 = mm16 261 0 from congrFun (hF3 261 (by show ¬ (261 = 263 ∨ 261 = 264 ∨ 261 = 265); omega)) 0), (show mm16 261 0 = mm12 261 0 from congrFun (hF18 261 (by show ¬ (262 ≤ 261 ∧ 261 ≤ 266); omega)) 0), (show mm12 261 0 = m 261 0 from by rw [← hw14, w1_ne (by omega)]), hk, vF_nF (by omega)]) (q_iconst (q_iadd (q_putI (xx := nF (k + 1)) (show SH 261 = (18, 0) from rfl) rfl rfl ((show _ = ((k + 1 : Nat) : Int) by omega).trans (vF_nF (by omega)).symm) hrr)))))) ?_
                        generalize hm25 : w1 mm22 261 0 (nF (k + 1)) = mm24
                        refine rw_of (fun rr hrr => q_iload rfl hrr) ?_
                        refine rw_ret hQ (q_ireturn (Or.inl rfl)) ?_
                        
                        have e9 : n2 = u := (by omega)
                        subst e9
                        refine ⟨rfl, rfl, MK_end (MKb_of Fr_rfl (fun a (ha : False) => ha.elim) hw14 (fr_w hm23 (Fr_trans (Fr_mono hF18 (fun a (ha : 262 ≤ a ∧ a ≤ 266) => ha)) (Fr_mono hF3 (fun a ha => by omega))) (by omega)) (fun a (ha : 262 ≤ a ∧ a ≤ 266) => Or.inl ha) (Ot_w hm23 (Ot_trans hot hO3) (by omega)) ?_ ?_ ?_ ?_) hm25⟩
                        · rw [← hm23, w1_a (by omega), hF3 262 (by omega), ho18, if_pos rfl]
                        · intro z hz w hw
                          rw [← hm23, w1_a (by omega), hA3 z (by omega) w (by omega)]
                          unfold jnA sidA
                          by_cases q : z < n
                          · rw [if_pos q]
                            show _ = if z < n then _ else _
                            rw [if_pos q]
                          · rw [if_neg q, if_pos (by omega)]
                            show _ = if z < n then _ else _
                            rw [if_neg q]
                            by_cases q2 : w < n
                            · rw [if_pos q2, if_pos q2]
                            · rw [if_neg q2, if_neg q2, if_pos (by omega)]
                        · intro z hz
                          have h9 := hV3 z (by omega)
                          rw [← hm23, w1_a (by omega), w1_a (by omega), h9.1, h9.2]
                          unfold jnb twob
                          have q2 : z < n + n2 := hz
                          constructor
                          · by_cases q : z < n
                            · simp only [if_pos q] <;> grind
                            · simp only [if_neg q, if_pos q2] <;> grind
                          · by_cases q : z < n
                            · simp only [if_pos q] <;> grind
                            · simp only [if_neg q, if_pos q2] <;> grind
                        · rw [← hm23, w1_at, e6a_m3, e6b_m3] <;> grind
                        
                      · exfalso; omega
                    · skip
                      refine rw_of (fun rr hrr => q_iconst (q_istore (Nat.le_of_ble_eq_true rfl) rfl hrr)) ?_
                      have hL257 : ∀ v, v ≤ n2 → ∀ (m4 : M1), (Fr (fun a_ => a_ = 263) m3 m4 ∧ Ot k m3 m4 ∧ ∀ r, r < 8 → ∀ c, c < 8 → m4 263 (64 * k + 8 * r + c) = if r = n + u ∧ n ≤ c ∧ c < n + v then (fun z w => m 263 (64 * b + 8 * z + w)) u (c - n) else m3 263 (64 * k + 8 * r + c)) → Rw (Ev d) k_X10_join (257, [], [some (.ref (261)), some (.int (iI (((a : Nat) : Int)))), some (.int (iI (((b : Nat) : Int)))), some (.int (iI (0))), some (.int (iI (1))), some (.int (iI (((k : Nat) : Int)))), some (.int (iI (((n : Nat) : Int)))), some (.int (iI (((u : Nat) : Int)))), some (.int (iI (((v : Nat) : Int))))], [], hpM S fz (m4, p), 0, 0) Qr := by
                        refine loop_any (fun v hi257 ih257 => ?_)
                        intro m4
                        intro hI257
                        obtain ⟨hF4, hO4, hA4⟩ := hI257
                        refine rw_blk lk_X10_join_257 ?_
                        refine rw_of (fun rr hrr => q_iload rfl (q_aload_n rfl (q_getR (show SH 261 = (18, 0) from rfl) rfl (pt_261_1 hP) (q_iload_n rfl (q_iald (j := b) (show SH 262 = (1, 13) from rfl) rfl (by omega) (ki (hF4 262 (by show ¬ (262 = 263); omega)) eb2_m3 (by omega)) hrr))))) ?_
                        refine rw_icmp_ge ⟨by omega, by omega⟩ ⟨by omega, by omega⟩ (t := 308) rfl (fun hc26 => ?_) (fun hc26 => ?_)
                        · skip
                          refine rw_blk lk_X10_join_308 ?_
                          refine rw_of (fun rr hrr => q_iconst (q_istore (Nat.le_of_ble_eq_true rfl) rfl hrr)) ?_
                          refine rw_blk lk_X10_join_311 ?_
                          refine rw_of (fun rr hrr => q_iload rfl (q_iload rfl hrr)) ?_
                          refine rw_icmp_ge ⟨by omega, by omega⟩ ⟨by omega, by omega⟩ (t := 377) rfl (fun hc27 => ?_) (fun hc27 => ?_)
                          · exfalso; omega
                          · skip
                            refine rw_of (fun rr hrr => q_iload_n rfl hrr) ?_
                            refine rw_if_eq ⟨by omega, by omega⟩ (t := 377) rfl (fun hc28 => ?_) (fun hc28 => ?_)
                            · skip
                              refine rw_blk lk_X10_join_377 ?_
                              refine rw_of (fun rr hrr => q_aload_n rfl (q_getR (show SH 261 = (18, 0) from rfl) rfl (pt_261_3 hP) (q_bipush rfl (q_iload rfl (q_imul (q_iload rfl (q_iadd (q_iload rfl (q_iadd (q_iload_n rfl hrr)))))))))) ?_
                              refine rw_if_eq ⟨by omega, by omega⟩ (t := 420) rfl (fun hc29 => ?_) (fun hc29 => ?_)
                              · skip
                                refine rw_blk lk_X10_join_420 ?_
                                refine rw_of (fun rr hrr => q_aload_n rfl (q_getR (show SH 261 = (18, 0) from rfl) rfl (pt_261_3 hP) (q_bipush rfl (q_iload_n rfl (q_imul (q_iload rfl (q_iadd (q_iald (j := 8 * b + u) (show SH 264 = (1, 104) from rfl) (by omega) (by omega) rfl hrr)))))))) ?_
                                refine rw_blk lk_X10_join_432 ?_
                                refine rw_of (fun rr hrr => q_iast (j := 8 * k + n + u) (xx := m4 264 (8 * b + u)) (show SH 264 = (1, 104) from rfl) (by omega) (by omega) rfl hrr) ?_
                                generalize hm31 : w1 m4 264 (8 * k + n + u) (m4 264 (8 * b + u)) = mm30
                                refine rw_of (fun rr hrr => q_aload_n rfl (q_getR (show SH 261 = (18, 0) from rfl) rfl (pt_261_4 hP) (q_bipush rfl (q_iload rfl (q_imul (q_iload rfl (q_iadd (q_iload rfl (q_iadd (q_aload_n rfl (q_getR (show SH 261 = (18, 0) from rfl) rfl (pt_261_4 hP) (q_bipush rfl (q_iload_n rfl (q_imul (q_iload rfl (q_iadd (q_iald (j := 8 * b + u) (show SH 265 = (1, 104) from rfl) (by omega) (by omega) rfl (q_iast (j := 8 * k + n + u) (xx := mm30 265 (8 * b + u)) (show SH 265 = (1, 104) from rfl) (by omega) (by omega) rfl hrr)))))))))))))))))) ?_
                                generalize hm33 : w1 mm30 265 (8 * k + n + u) (mm30 265 (8 * b + u)) = mm32
                                refine rw_of (fun rr hrr => q_iinc rfl rfl (q_goto (t := 243) rfl hrr)) ?_
                                have hA34 : Fr (fun a_ => a_ = 263 ∨ a_ = 264 ∨ a_ = 265) mm16 mm32 ∧ Ot k mm16 mm32 ∧ (∀ r, r < 8 → ∀ c, c < 8 → mm32 263 (64 * k + 8 * r + c) = jnA n n2 (fun z w => (0 : F)) (fun z w => m 263 (64 * a + 8 * z + w)) (fun z w => m 263 (64 * b + 8 * z + w)) ((u + 1)) r c) ∧ ∀ r, r < 8 → mm32 264 (8 * k + r) = jnb n (fun z => m 264 (8 * a + z)) (fun z => m 264 (8 * b + z)) (u + 1) r ∧ mm32 265 (8 * k + r) = jnb n (fun z => m 265 (8 * a + z)) (fun z => m 265 (8 * b + z)) (u + 1) r := by
                                  have e8 : n2 = v := (by omega)
                                  have hF9 : Fr (fun a_ => a_ = 263) m3 m4 := hF4
                                  have hO9 : Ot k m3 m4 := hO4
                                  have hA9 : ∀ r, r < 8 → ∀ c, c < 8 → m4 263 (64 * k + 8 * r + c) = if r = n + u ∧ c < n then (fun z w => (0 : F)) u c else if r = n + u ∧ n ≤ c ∧ c < n + n2 then (fun z w => m 263 (64 * b + 8 * z + w)) u (c - n) else m3 263 (64 * k + 8 * r + c) := fun r hr c hc => by
                                    rw [hA4 r hr c hc, ← e8]
                                    by_cases q : r = n + u ∧ c < n
                                    · rw [if_pos q, if_neg (by omega), hA3 r hr c hc, q.1, jnA_u]
                                    · rw [if_neg q]
                                  refine ⟨fr_w hm33 (fr_w hm31 (Fr_trans hF3 (Fr_mono hF9 (fun a ha => by omega))) (by omega)) (by omega), Ot_w hm33 (Ot_w hm31 (Ot_trans hO3 hO9) (by omega)) (by omega), fun r hr c hc => ?_, fun r hr => ?_⟩
                                  · rw [← hm33, w1_a (by omega), ← hm31, w1_a (by omega), hA9 r hr c hc, jnA_s]
                                    by_cases q : r = n + u
                                    · rw [if_pos q]
                                      by_cases q2 : c < n
                                      · rw [if_pos ⟨q, q2⟩, if_pos q2]
                                      · rw [if_neg (fun z => q2 z.2), if_neg q2]
                                        by_cases q3 : c < n + n2
                                        · rw [if_pos ⟨q, by omega, q3⟩, if_pos q3]
                                        · rw [if_neg (fun z => q3 z.2.2), if_neg q3, hA3 r hr c hc, q, jnA_u]
                                    · rw [if_neg q, if_neg (fun z => q z.1), if_neg (fun z => q z.1), hA3 r hr c hc]
                                  · rw [← hm33, ← hm31, jnb_s, jnb_s]
                                    have h9 := hV3 r hr
                                    by_cases q : r = n + u
                                    · rw [q, show 8 * k + (n + u) = 8 * k + n + u by omega, w1_a (by omega), w1_at, w1_at, if_pos rfl, if_pos rfl, w1_a (by omega), hF9 264 (by omega), hF9 265 (by omega), eb_m3 u (by omega), eC_m3 u (by omega)]
                                      exact ⟨rfl, rfl⟩
                                    · rw [w1_a (by omega), w1_ne (by omega), w1_ne (by omega), w1_a (by omega), hF9 264 (by omega), hF9 265 (by omega), if_neg q, if_neg q]
                                      exact h9
                                exact rw_cast (ih243 (by omega) mm32 (some (.int (iI (0)))) hA34) (lcons rfl (lcons rfl (lcons rfl (lcons rfl (lcons rfl (lcons rfl (lcons rfl (lcons (lvI (by omega)) (lcons rfl rfl))))))))) rfl
                              · exfalso; omega
                            · exfalso; omega
                        · skip
                          refine rw_of (fun rr hrr => q_aload_n rfl (q_getR (show SH 261 = (18, 0) from rfl) rfl (pt_261_2 hP) (q_bipush rfl (q_iload rfl (q_imul (q_bipush rfl (q_iload rfl (q_iload rfl (q_iadd (q_imul (q_iadd (q_iload rfl (q_iadd (q_iload rfl (q_iadd (q_aload_n rfl (q_iload_n rfl (q_iload rfl (q_iload rfl hrr))))))))))))))))))) ?_
                          obtain ⟨_, mm35, pp36, hV37, rfl, rfl, rfl⟩ := c_X10_square (S := S) (fz := fz) (m := m4) (p := p) (d := d) (by omega) (b) (u) (v) hP (by omega) (by omega) (by omega)
                          refine rw_of (fun rr hrr => q_invV hV37 (show SH 261 = (18, 0) from rfl) rfl rfl (okar_cons rfl (okar_cons rfl (okar_cons rfl okar_nil))) (Nat.le_of_ble_eq_true rfl) (q_iast (j := 64 * k + (8 * (n + u)) + n + v) (xx := m4 263 (64 * b + 8 * u + v)) (show SH 263 = (1, 832) from rfl) (by omega) (by omega) rfl hrr)) ?_
                          generalize hm39 : w1 m4 263 (64 * k + (8 * (n + u)) + n + v) (m4 263 (64 * b + 8 * u + v)) = mm38
                          refine rw_of (fun rr hrr => q_iinc rfl rfl (q_goto (t := 257) rfl hrr)) ?_
                          have hA40 : Fr (fun a_ => a_ = 263) m3 mm38 ∧ Ot k m3 mm38 ∧ ∀ r, r < 8 → ∀ c, c < 8 → mm38 263 (64 * k + 8 * r + c) = if r = n + u ∧ n ≤ c ∧ c < n + (v + 1) then (fun z w => m 263 (64 * b + 8 * z + w)) u (c - n) else m3 263 (64 * k + 8 * r + c) := by
                            refine ⟨fr_w hm39 hF4 (by omega), Ot_w hm39 hO4 (by omega), fun r hr c hc => ?_⟩
                            rw [← hm39]
                            by_cases q : r = n + u ∧ c = n + v
                            · rw [q.1, q.2, show 64 * k + 8 * (n + u) + (n + v) = 64 * k + 8 * (n + u) + n + v by omega, w1_at, if_pos (by omega), hO4.1 (64 * b + 8 * u + v) (by omega), show n + v - n = v by omega]
                              exact eD_m3 u v (by omega) (by omega)
                            · rw [w1_ne (by omega), hA4 r hr c hc]
                              by_cases q2 : r = n + u ∧ n ≤ c ∧ c < n + v
                              · rw [if_pos q2, if_pos (by omega)]
                              · rw [if_neg q2, if_neg (by omega)]
                          exact rw_cast (ih257 (by omega) mm38 hA40) (lcons rfl (lcons rfl (lcons rfl (lcons rfl (lcons rfl (lcons rfl (lcons rfl (lcons rfl (lcons (lvI (by omega)) rfl))))))))) rfl
                      exact rw_cast (hL257 0 (by omega) m3 (by exact ⟨Fr_rfl, Ot_rfl, fun r hr c hc => (if_neg (by omega)).symm⟩)) (lcons rfl (lcons rfl (lcons rfl (lcons rfl (lcons rfl (lcons rfl (lcons rfl (lcons rfl (lcons (lvI (by omega)) rfl))))))))) rfl
                  have hA41 : Fr (fun a_ => a_ = 263 ∨ a_ = 264 ∨ a_ = 265) mm16 m1 ∧ Ot k mm16 m1 ∧ (∀ r, r < 8 → ∀ c, c < 8 → m1 263 (64 * k + 8 * r + c) = jnA n n2 (fun z w => (0 : F)) (fun z w => m 263 (64 * a + 8 * z + w)) (fun z w => m 263 (64 * b + 8 * z + w)) (0) r c) ∧ ∀ r, r < 8 → m1 264 (8 * k + r) = jnb n (fun z => m 264 (8 * a + z)) (fun z => m 264 (8 * b + z)) 0 r ∧ m1 265 (8 * k + r) = jnb n (fun z => m 265 (8 * a + z)) (fun z => m 265 (8 * b + z)) 0 r := by
                    have e9 : n = i := (by omega)
                    subst e9
                    refine ⟨hF1, hO1, fun r hr c hc => ?_, fun r hr => ?_⟩
                    · rw [hA1 r hr c hc]
                      unfold jnA
                      by_cases q : r < n
                      · rw [if_pos q]
                        by_cases q2 : c < n
                        · rw [if_pos q2, if_pos ⟨q, q2⟩]
                        · rw [if_neg q2, if_neg (by omega)]
                      · rw [if_neg q, if_neg (by omega), if_neg (by omega)]
                    · have h9 := hV1 r hr
                      rw [h9.1, h9.2]
                      unfold jnb
                      by_cases q : r < n
                      · rw [if_pos q, if_pos q, if_pos q, if_pos q]
                        exact ⟨rfl, rfl⟩
                      · rw [if_neg q, if_neg q, if_neg q, if_neg q, if_neg (by omega), if_neg (by omega)]
                        exact ⟨rfl, rfl⟩
                  exact rw_cast (hL243 0 (by omega) m1 x105_8 hA41) (lcons rfl (lcons rfl (lcons rfl (lcons rfl (lcons rfl (lcons rfl (lcons rfl (lcons (lvI (by omega)) (lcons rfl rfl))))))))) rfl
                · skip
                  refine rw_of (fun rr hrr => q_iconst (q_istore (Nat.le_of_ble_eq_true rfl) rfl hrr)) ?_
                  have hL115 : ∀ j, j ≤ n → ∀ (m2 : M1), (Fr (fun a_ => a_ = 263) m1 m2 ∧ Ot k m1 m2 ∧ ∀ r, r < 8 → ∀ c, c < 8 → m2 263 (64 * k + 8 * r + c) = if r = i ∧ c < j then (fun z w => m 263 (64 * a + 8 * z + w)) i c else m1 263 (64 * k + 8 * r + c)) → Rw (Ev d) k_X10_join (115, [], [some (.ref (261)), some (.int (iI (((a : Nat) : Int)))), some (.int (iI (((b : Nat) : Int)))), some (.int (iI (0))), some (.int (iI (1))), some (.int (iI (((k : Nat) : Int)))), some (.int (iI (((n : Nat) : Int)))), some (.int (iI (((i : Nat) : Int)))), some (.int (iI (((j : Nat) : Int))))], [], hpM S fz (m2, p), 0, 0) Qr := by
                    refine loop_any (fun j hi115 ih115 => ?_)
                    intro m2
                    intro hI115
                    obtain ⟨hF2, hO2, hA2⟩ := hI115
                    refine rw_blk lk_X10_join_115 ?_
                    refine rw_of (fun rr hrr => q_iload rfl (q_iload rfl hrr)) ?_
                    refine rw_icmp_ge ⟨by omega, by omega⟩ ⟨by omega, by omega⟩ (t := 156) rfl (fun hc42 => ?_) (fun hc42 => ?_)
                    · skip
                      refine rw_blk lk_X10_join_156 ?_
                      refine rw_of (fun rr hrr => q_aload_n rfl (q_getR (show SH 261 = (18, 0) from rfl) rfl (pt_261_3 hP) (q_bipush rfl (q_iload rfl (q_imul (q_iload rfl (q_iadd (q_aload_n rfl (q_getR (show SH 261 = (18, 0) from rfl) rfl (pt_261_3 hP) (q_bipush rfl (q_iload_n rfl (q_imul (q_iload rfl (q_iadd (q_iald (j := 8 * a + i) (show SH 264 = (1, 104) from rfl) (by omega) (by omega) rfl (q_iast (j := 8 * k + i) (xx := m2 264 (8 * a + i)) (show SH 264 = (1, 104) from rfl) (by omega) (by omega) rfl hrr)))))))))))))))) ?_
                      generalize hm44 : w1 m2 264 (8 * k + i) (m2 264 (8 * a + i)) = mm43
                      refine rw_of (fun rr hrr => q_aload_n rfl (q_getR (show SH 261 = (18, 0) from rfl) rfl (pt_261_4 hP) (q_bipush rfl (q_iload rfl (q_imul (q_iload rfl (q_iadd (q_iload_n rfl hrr)))))))) ?_
                      refine rw_if_eq ⟨by omega, by omega⟩ (t := 221) rfl (fun hc45 => ?_) (fun hc45 => ?_)
                      · skip
                        refine rw_blk lk_X10_join_221 ?_
                        refine rw_of (fun rr hrr => q_aload_n rfl (q_getR (show SH 261 = (18, 0) from rfl) rfl (pt_261_4 hP) (q_bipush rfl (q_iload_n rfl (q_imul (q_iload rfl (q_iadd (q_iald (j := 8 * a + i) (show SH 265 = (1, 104) from rfl) (by omega) (by omega) rfl hrr)))))))) ?_
                        refine rw_blk lk_X10_join_233 ?_
                        refine rw_of (fun rr hrr => q_iast (j := 8 * k + i) (xx := mm43 265 (8 * a + i)) (show SH 265 = (1, 104) from rfl) (by omega) (by omega) rfl hrr) ?_
                        generalize hm47 : w1 mm43 265 (8 * k + i) (mm43 265 (8 * a + i)) = mm46
                        refine rw_of (fun rr hrr => q_iinc rfl rfl (q_goto (t := 105) rfl hrr)) ?_
                        have hA48 : Fr (fun a_ => a_ = 263 ∨ a_ = 264 ∨ a_ = 265) mm16 mm46 ∧ Ot k mm16 mm46 ∧ (∀ r, r < 8 → ∀ c, c < 8 → mm46 263 (64 * k + 8 * r + c) = if r < (i + 1) ∧ c < n then (fun z w => m 263 (64 * a + 8 * z + w)) r c else 0) ∧ ∀ r, r < 8 → mm46 264 (8 * k + r) = (if r < (i + 1) then (fun z => m 264 (8 * a + z)) r else 0) ∧ mm46 265 (8 * k + r) = if r < (i + 1) then (fun z => m 265 (8 * a + z)) r else 0 := by
                          refine ⟨fr_w hm47 (fr_w hm44 (Fr_trans hF1 (Fr_mono hF2 (fun a ha => by omega))) (by omega)) (by omega), Ot_w hm47 (Ot_w hm44 (Ot_trans hO1 hO2) (by omega)) (by omega), fun r hr c hc => ?_, fun r hr => ?_⟩
                          · rw [← hm47, w1_a (by omega), ← hm44, w1_a (by omega), hA2 r hr c hc]
                            by_cases q : r = i ∧ c < j
                            · rw [if_pos q, if_pos (by omega), q.1]
                            · rw [if_neg q, hA1 r hr c hc]
                              by_cases q2 : r < i ∧ c < n
                              · rw [if_pos q2, if_pos (by omega)]
                              · rw [if_neg q2, if_neg (by omega)]
                          · rw [← hm47, ← hm44]
                            by_cases q : r = i
                            · rw [q, w1_a (by omega), w1_at, w1_at, if_pos (by omega), if_pos (by omega), w1_a (by omega), hF2 264 (by omega), hF2 265 (by omega), eB_m1 i (by omega), ec_m1 i (by omega)]
                              exact ⟨rfl, rfl⟩
                            · have h9 := hV1 r hr
                              rw [w1_a (by omega), w1_ne (by omega), w1_ne (by omega), w1_a (by omega), hF2 264 (by omega), hF2 265 (by omega), h9.1, h9.2]
                              by_cases q2 : r < i
                              · rw [if_pos q2, if_pos q2, if_pos (by omega), if_pos (by omega)]
                                exact ⟨rfl, rfl⟩
                              · rw [if_neg q2, if_neg q2, if_neg (by omega), if_neg (by omega)]
                                exact ⟨rfl, rfl⟩
                        exact rw_cast (ih105 (by omega) mm46 (some (.int (iI (((j : Nat) : Int))))) hA48) (lcons rfl (lcons rfl (lcons rfl (lcons rfl (lcons rfl (lcons rfl (lcons rfl (lcons (lvI (by omega)) (lcons rfl rfl))))))))) rfl
                      · exfalso; omega
                    · skip
                      refine rw_of (fun rr hrr => q_aload_n rfl (q_getR (show SH 261 = (18, 0) from rfl) rfl (pt_261_2 hP) (q_bipush rfl (q_iload rfl (q_imul (q_bipush rfl (q_iload rfl (q_imul (q_iadd (q_iload rfl (q_iadd (q_aload_n rfl (q_iload_n rfl (q_iload rfl (q_iload rfl hrr))))))))))))))) ?_
                      obtain ⟨_, mm49, pp50, hV51, rfl, rfl, rfl⟩ := c_X10_square (S := S) (fz := fz) (m := m2) (p := p) (d := d) (by omega) (a) (i) (j) hP (by omega) (by omega) (by omega)
                      refine rw_of (fun rr hrr => q_invV hV51 (show SH 261 = (18, 0) from rfl) rfl rfl (okar_cons rfl (okar_cons rfl (okar_cons rfl okar_nil))) (Nat.le_of_ble_eq_true rfl) (q_iast (j := 64 * k + (8 * i) + j) (xx := m2 263 (64 * a + 8 * i + j)) (show SH 263 = (1, 832) from rfl) (by omega) (by omega) rfl hrr)) ?_
                      generalize hm53 : w1 m2 263 (64 * k + (8 * i) + j) (m2 263 (64 * a + 8 * i + j)) = mm52
                      refine rw_of (fun rr hrr => q_iinc rfl rfl (q_goto (t := 115) rfl hrr)) ?_
                      have hA54 : Fr (fun a_ => a_ = 263) m1 mm52 ∧ Ot k m1 mm52 ∧ ∀ r, r < 8 → ∀ c, c < 8 → mm52 263 (64 * k + 8 * r + c) = if r = i ∧ c < (j + 1) then (fun z w => m 263 (64 * a + 8 * z + w)) i c else m1 263 (64 * k + 8 * r + c) := by
                        refine ⟨fr_w hm53 hF2 (by omega), Ot_w hm53 hO2 (by omega), fun r hr c hc => ?_⟩
                        rw [← hm53]
                        by_cases q : r = i ∧ c = j
                        · rw [q.1, q.2, w1_at, if_pos (by omega), hO2.1 (64 * a + 8 * i + j) (by omega)]
                          exact eA_m1 i j (by omega) (by omega)
                        · rw [w1_ne (by omega), hA2 r hr c hc]
                          by_cases q2 : r = i ∧ c < j
                          · rw [if_pos q2, if_pos (by omega)]
                          · rw [if_neg q2, if_neg (by omega)]
                      exact rw_cast (ih115 (by omega) mm52 hA54) (lcons rfl (lcons rfl (lcons rfl (lcons rfl (lcons rfl (lcons rfl (lcons rfl (lcons rfl (lcons (lvI (by omega)) rfl))))))))) rfl
                  exact rw_cast (hL115 0 (by omega) m1 (by exact ⟨Fr_rfl, Ot_rfl, fun r hr c hc => (if_neg (by omega)).symm⟩)) (lcons rfl (lcons rfl (lcons rfl (lcons rfl (lcons rfl (lcons rfl (lcons rfl (lcons rfl (lcons (lvI (by omega)) rfl))))))))) rfl
              have hA55 : Fr (fun a_ => a_ = 263 ∨ a_ = 264 ∨ a_ = 265) mm16 mm16 ∧ Ot k mm16 mm16 ∧ (∀ r, r < 8 → ∀ c, c < 8 → mm16 263 (64 * k + 8 * r + c) = if r < 0 ∧ c < n then (fun z w => m 263 (64 * a + 8 * z + w)) r c else 0) ∧ ∀ r, r < 8 → mm16 264 (8 * k + r) = (if r < 0 then (fun z => m 264 (8 * a + z)) r else 0) ∧ mm16 265 (8 * k + r) = if r < 0 then (fun z => m 265 (8 * a + z)) r else 0 := by
                refine ⟨Fr_rfl, Ot_rfl, fun r hr c hc => ?_, fun r hr => ?_⟩
                · rw [if_neg (by omega), hA18, if_pos (by omega)]
                · rw [if_neg (by omega), if_neg (by omega), hb18, if_pos (by omega), hc18, if_pos (by omega)]
                  exact ⟨rfl, rfl⟩
              exact rw_cast (hL105 0 (by omega) mm16 none hA55) (lcons rfl (lcons rfl (lcons rfl (lcons rfl (lcons rfl (lcons rfl (lcons rfl (lcons (lvI (by omega)) (lcons rfl rfl))))))))) rfl
            · exfalso; omega
          · exfalso; omega
      · exfalso; omega
theorem c_X10_joinA {d : Nat} {S : MC} {fz : Bool} {m : M1} {p : M2} (hd : 3 ≤ d) (a b x : Int) (k : Nat) (hP : PI p) (hk : m 261 0 = nF k) (hk12 : k ≤ 12) (hra : (-2147483648 ≤ a ∧ a < 2147483648)) (h : ¬ (0 ≤ a ∧ a < k)) : Ct d k_X10_join S fz [.ref (261), .int (iI (a)), .int (iI (b)), .int (iI (x))] m p (fun v m' p' => v = some (.int (iI (0))) ∧ p = p' ∧ QMx 1 m m') := by
  obtain ⟨d, rfl⟩ : ∃ e, d = e + 1 := ⟨d - 1, by omega⟩
  refine ct_go (lv := [some (.ref (261)), some (.int (iI (a))), some (.int (iI (b))), some (.int (iI (x))), none, none, none, none, none]) (Nat.le_of_ble_eq_true rfl) (okar_cons rfl (okar_cons rfl (okar_cons rfl (okar_cons rfl okar_nil)))) rfl (fun Qr hQ => ?_)
  refine rw_blk lk_X10_join_0 ?_
  refine rw_of (fun rr hrr => q_aload_n rfl (q_iload_n rfl hrr)) ?_
  obtain ⟨_, mm1, pp2, hV3, rfl, rfl, rfl⟩ := c_X10_isSystem0 (S := S) (fz := fz) (m := m) (p := p) (d := d) (by omega) (a) (k) hP hk (by omega) (by omega) (h)
  refine rw_of (fun rr hrr => q_invV hV3 (show SH 261 = (18, 0) from rfl) rfl rfl (okar_cons rfl okar_nil) (Nat.le_of_ble_eq_true rfl) hrr) ?_
  refine rw_if_eq ⟨by omega, by omega⟩ (t := 20) rfl (fun hc4 => ?_) (fun hc4 => ?_)
  · skip
    refine rw_blk lk_X10_join_20 ?_
    refine rw_of (fun rr hrr => q_iconst hrr) ?_
    refine rw_blk lk_X10_join_21 ?_
    refine rw_of (fun rr hrr => q_istore (Nat.le_of_ble_eq_true rfl) rfl (q_aload_n rfl (q_iload rfl hrr))) ?_
    refine rw_if_ne ⟨by omega, by omega⟩ (t := 33) rfl (fun hc5 => ?_) (fun hc5 => ?_)
    · exfalso; omega
    · skip
      refine rw_of (fun rr hrr => q_iconst (q_goto (t := 65) rfl hrr)) ?_
      refine rw_blk lk_X10_join_65 ?_
      obtain ⟨_, mm6, pp7, hV8, rfl, rfl, hw8, hF8⟩ := c_X10_fails1 (S := S) (fz := fz) (m := m) (p := p) (d := d) (by omega) (1) hP (by omega)
      refine rw_of (fun rr hrr => q_invV hV8 (show SH 261 = (18, 0) from rfl) rfl rfl (okar_cons rfl okar_nil) (Nat.le_of_ble_eq_true rfl) hrr) ?_
      refine rw_if_eq ⟨by omega, by omega⟩ (t := 73) rfl (fun hc9 => ?_) (fun hc9 => ?_)
      · exfalso; omega
      · skip
        refine rw_of (fun rr hrr => q_iconst hrr) ?_
        refine rw_ret hQ (q_ireturn (Or.inl rfl)) ?_
        first
          | exact ⟨rfl, rfl, QMx_w hw8 rfl⟩
          | (exfalso; omega)
        
  · exfalso; omega
theorem c_X10_joinB {d : Nat} {S : MC} {fz : Bool} {m : M1} {p : M2} (hd : 3 ≤ d) (a : Nat) (b x : Int) (k : Nat) (hP : PI p) (hk : m 261 0 = nF k) (hk12 : k ≤ 12) (ha : a < k) (hrb : (-2147483648 ≤ b ∧ b < 2147483648)) (h : ¬ (0 ≤ b ∧ b < k)) : Ct d k_X10_join S fz [.ref (261), .int (iI (((a : Nat) : Int))), .int (iI (b)), .int (iI (x))] m p (fun v m' p' => v = some (.int (iI (0))) ∧ p = p' ∧ QMx 1 m m') := by
  obtain ⟨d, rfl⟩ : ∃ e, d = e + 1 := ⟨d - 1, by omega⟩
  refine ct_go (lv := [some (.ref (261)), some (.int (iI (((a : Nat) : Int)))), some (.int (iI (b))), some (.int (iI (x))), none, none, none, none, none]) (Nat.le_of_ble_eq_true rfl) (okar_cons rfl (okar_cons rfl (okar_cons rfl (okar_cons rfl okar_nil)))) rfl (fun Qr hQ => ?_)
  refine rw_blk lk_X10_join_0 ?_
  refine rw_of (fun rr hrr => q_aload_n rfl (q_iload_n rfl hrr)) ?_
  obtain ⟨_, mm1, pp2, hV3, rfl, rfl, rfl⟩ := c_X10_isSystem1 (S := S) (fz := fz) (m := m) (p := p) (d := d) (by omega) (((a : Nat) : Int)) (k) hP hk (by omega) (by omega) (by omega)
  refine rw_of (fun rr hrr => q_invV hV3 (show SH 261 = (18, 0) from rfl) rfl rfl (okar_cons rfl okar_nil) (Nat.le_of_ble_eq_true rfl) hrr) ?_
  refine rw_if_eq ⟨by omega, by omega⟩ (t := 20) rfl (fun hc4 => ?_) (fun hc4 => ?_)
  · exfalso; omega
  · skip
    refine rw_of (fun rr hrr => q_aload_n rfl (q_iload_n rfl hrr)) ?_
    obtain ⟨_, mm5, pp6, hV7, rfl, rfl, rfl⟩ := c_X10_isSystem0 (S := S) (fz := fz) (m := m) (p := p) (d := d) (by omega) (b) (k) hP hk (by omega) (by omega) (h)
    refine rw_of (fun rr hrr => q_invV hV7 (show SH 261 = (18, 0) from rfl) rfl rfl (okar_cons rfl okar_nil) (Nat.le_of_ble_eq_true rfl) hrr) ?_
    refine rw_if_eq ⟨by omega, by omega⟩ (t := 20) rfl (fun hc8 => ?_) (fun hc8 => ?_)
    · skip
      refine rw_blk lk_X10_join_20 ?_
      refine rw_of (fun rr hrr => q_iconst hrr) ?_
      refine rw_blk lk_X10_join_21 ?_
      refine rw_of (fun rr hrr => q_istore (Nat.le_of_ble_eq_true rfl) rfl (q_aload_n rfl (q_iload rfl hrr))) ?_
      refine rw_if_ne ⟨by omega, by omega⟩ (t := 33) rfl (fun hc9 => ?_) (fun hc9 => ?_)
      · exfalso; omega
      · skip
        refine rw_of (fun rr hrr => q_iconst (q_goto (t := 65) rfl hrr)) ?_
        refine rw_blk lk_X10_join_65 ?_
        obtain ⟨_, mm10, pp11, hV12, rfl, rfl, hw12, hF12⟩ := c_X10_fails1 (S := S) (fz := fz) (m := m) (p := p) (d := d) (by omega) (1) hP (by omega)
        refine rw_of (fun rr hrr => q_invV hV12 (show SH 261 = (18, 0) from rfl) rfl rfl (okar_cons rfl okar_nil) (Nat.le_of_ble_eq_true rfl) hrr) ?_
        refine rw_if_eq ⟨by omega, by omega⟩ (t := 73) rfl (fun hc13 => ?_) (fun hc13 => ?_)
        · exfalso; omega
        · skip
          refine rw_of (fun rr hrr => q_iconst hrr) ?_
          refine rw_ret hQ (q_ireturn (Or.inl rfl)) ?_
          first
            | exact ⟨rfl, rfl, QMx_w hw12 rfl⟩
            | (exfalso; omega)
          
    · exfalso; omega
theorem c_X10_joinO {d : Nat} {S : MC} {fz : Bool} {m : M1} {p : M2} (hd : 3 ≤ d) (a b k n n2 : Nat) (x : Int) (hP : PI p) (hk : m 261 0 = nF k) (hk12 : k ≤ 12) (ha : a < k) (hb : b < k) (hma : m 262 a = nF n) (hmb : m 262 b = nF n2) (hn : 1 ≤ n ∧ n ≤ 8 ∧ 1 ≤ n2 ∧ n2 ≤ 8) (hs : 8 < n + n2) : Ct d k_X10_join S fz [.ref (261), .int (iI (((a : Nat) : Int))), .int (iI (((b : Nat) : Int))), .int (iI (x))] m p (fun v m' p' => v = some (.int (iI (0))) ∧ p = p' ∧ QMx 2 m m') := by
  obtain ⟨d, rfl⟩ : ∃ e, d = e + 1 := ⟨d - 1, by omega⟩
  refine ct_go (lv := [some (.ref (261)), some (.int (iI (((a : Nat) : Int)))), some (.int (iI (((b : Nat) : Int)))), some (.int (iI (x))), none, none, none, none, none]) (Nat.le_of_ble_eq_true rfl) (okar_cons rfl (okar_cons rfl (okar_cons rfl (okar_cons rfl okar_nil)))) rfl (fun Qr hQ => ?_)
  refine rw_blk lk_X10_join_0 ?_
  refine rw_of (fun rr hrr => q_aload_n rfl (q_iload_n rfl hrr)) ?_
  obtain ⟨_, mm1, pp2, hV3, rfl, rfl, rfl⟩ := c_X10_isSystem1 (S := S) (fz := fz) (m := m) (p := p) (d := d) (by omega) (((a : Nat) : Int)) (k) hP hk (by omega) (by omega) (by omega)
  refine rw_of (fun rr hrr => q_invV hV3 (show SH 261 = (18, 0) from rfl) rfl rfl (okar_cons rfl okar_nil) (Nat.le_of_ble_eq_true rfl) hrr) ?_
  refine rw_if_eq ⟨by omega, by omega⟩ (t := 20) rfl (fun hc4 => ?_) (fun hc4 => ?_)
  · exfalso; omega
  · skip
    refine rw_of (fun rr hrr => q_aload_n rfl (q_iload_n rfl hrr)) ?_
    obtain ⟨_, mm5, pp6, hV7, rfl, rfl, rfl⟩ := c_X10_isSystem1 (S := S) (fz := fz) (m := m) (p := p) (d := d) (by omega) (((b : Nat) : Int)) (k) hP hk (by omega) (by omega) (by omega)
    refine rw_of (fun rr hrr => q_invV hV7 (show SH 261 = (18, 0) from rfl) rfl rfl (okar_cons rfl okar_nil) (Nat.le_of_ble_eq_true rfl) hrr) ?_
    refine rw_if_eq ⟨by omega, by omega⟩ (t := 20) rfl (fun hc8 => ?_) (fun hc8 => ?_)
    · exfalso; omega
    · skip
      refine rw_of (fun rr hrr => q_iconst (q_goto (t := 21) rfl hrr)) ?_
      refine rw_blk lk_X10_join_21 ?_
      refine rw_of (fun rr hrr => q_istore (Nat.le_of_ble_eq_true rfl) rfl (q_aload_n rfl (q_iload rfl hrr))) ?_
      refine rw_if_ne ⟨by omega, by omega⟩ (t := 33) rfl (fun hc9 => ?_) (fun hc9 => ?_)
      · skip
        refine rw_blk lk_X10_join_33 ?_
        refine rw_of (fun rr hrr => q_aload_n rfl (q_getR (show SH 261 = (18, 0) from rfl) rfl (pt_261_1 hP) (q_iload_n rfl (q_iald (j := a) (show SH 262 = (1, 13) from rfl) rfl (by omega) (ki rfl hma (by omega)) (q_aload_n rfl (q_getR (show SH 261 = (18, 0) from rfl) rfl (pt_261_1 hP) (q_iload_n rfl (q_iald (j := b) (show SH 262 = (1, 13) from rfl) rfl (by omega) (ki rfl hmb (by omega)) (q_iadd (q_bipush rfl hrr)))))))))) ?_
        refine rw_icmp_gt ⟨by omega, by omega⟩ ⟨by omega, by omega⟩ (t := 60) rfl (fun hc10 => ?_) (fun hc10 => ?_)
        · skip
          refine rw_blk lk_X10_join_60 ?_
          refine rw_of (fun rr hrr => q_iconst (q_goto (t := 65) rfl hrr)) ?_
          refine rw_blk lk_X10_join_65 ?_
          obtain ⟨_, mm11, pp12, hV13, rfl, rfl, hw13, hF13⟩ := c_X10_fails1 (S := S) (fz := fz) (m := m) (p := p) (d := d) (by omega) (2) hP (by omega)
          refine rw_of (fun rr hrr => q_invV hV13 (show SH 261 = (18, 0) from rfl) rfl rfl (okar_cons rfl okar_nil) (Nat.le_of_ble_eq_true rfl) hrr) ?_
          refine rw_if_eq ⟨by omega, by omega⟩ (t := 73) rfl (fun hc14 => ?_) (fun hc14 => ?_)
          · exfalso; omega
          · skip
            refine rw_of (fun rr hrr => q_iconst hrr) ?_
            refine rw_ret hQ (q_ireturn (Or.inl rfl)) ?_
            first
              | exact ⟨rfl, rfl, QMx_w hw13 rfl⟩
              | (exfalso; omega)
            
        · exfalso; omega
      · exfalso; omega
theorem c_X10_joinF {d : Nat} {S : MC} {fz : Bool} {m : M1} {p : M2} (hd : 3 ≤ d) (a b k n n2 : Nat) (x : Int) (hP : PI p) (hk : m 261 0 = nF k) (hk12 : k ≤ 12) (ha : a < k) (hb : b < k) (hma : m 262 a = nF n) (hmb : m 262 b = nF n2) (hn : 1 ≤ n ∧ n ≤ 8 ∧ 1 ≤ n2 ∧ n2 ≤ 8) (hs : n + n2 ≤ 8) (hk1 : k = 12) : Ct d k_X10_join S fz [.ref (261), .int (iI (((a : Nat) : Int))), .int (iI (((b : Nat) : Int))), .int (iI (x))] m p (fun v m' p' => v = some (.int (iI (0))) ∧ p = p' ∧ QMx 2 m m') := by
  obtain ⟨d, rfl⟩ : ∃ e, d = e + 1 := ⟨d - 1, by omega⟩
  refine ct_go (lv := [some (.ref (261)), some (.int (iI (((a : Nat) : Int)))), some (.int (iI (((b : Nat) : Int)))), some (.int (iI (x))), none, none, none, none, none]) (Nat.le_of_ble_eq_true rfl) (okar_cons rfl (okar_cons rfl (okar_cons rfl (okar_cons rfl okar_nil)))) rfl (fun Qr hQ => ?_)
  refine rw_blk lk_X10_join_0 ?_
  refine rw_of (fun rr hrr => q_aload_n rfl (q_iload_n rfl hrr)) ?_
  obtain ⟨_, mm1, pp2, hV3, rfl, rfl, rfl⟩ := c_X10_isSystem1 (S := S) (fz := fz) (m := m) (p := p) (d := d) (by omega) (((a : Nat) : Int)) (k) hP hk (by omega) (by omega) (by omega)
  refine rw_of (fun rr hrr => q_invV hV3 (show SH 261 = (18, 0) from rfl) rfl rfl (okar_cons rfl okar_nil) (Nat.le_of_ble_eq_true rfl) hrr) ?_
  refine rw_if_eq ⟨by omega, by omega⟩ (t := 20) rfl (fun hc4 => ?_) (fun hc4 => ?_)
  · exfalso; omega
  · skip
    refine rw_of (fun rr hrr => q_aload_n rfl (q_iload_n rfl hrr)) ?_
    obtain ⟨_, mm5, pp6, hV7, rfl, rfl, rfl⟩ := c_X10_isSystem1 (S := S) (fz := fz) (m := m) (p := p) (d := d) (by omega) (((b : Nat) : Int)) (k) hP hk (by omega) (by omega) (by omega)
    refine rw_of (fun rr hrr => q_invV hV7 (show SH 261 = (18, 0) from rfl) rfl rfl (okar_cons rfl okar_nil) (Nat.le_of_ble_eq_true rfl) hrr) ?_
    refine rw_if_eq ⟨by omega, by omega⟩ (t := 20) rfl (fun hc8 => ?_) (fun hc8 => ?_)
    · exfalso; omega
    · skip
      refine rw_of (fun rr hrr => q_iconst (q_goto (t := 21) rfl hrr)) ?_
      refine rw_blk lk_X10_join_21 ?_
      refine rw_of (fun rr hrr => q_istore (Nat.le_of_ble_eq_true rfl) rfl (q_aload_n rfl (q_iload rfl hrr))) ?_
      refine rw_if_ne ⟨by omega, by omega⟩ (t := 33) rfl (fun hc9 => ?_) (fun hc9 => ?_)
      · skip
        refine rw_blk lk_X10_join_33 ?_
        refine rw_of (fun rr hrr => q_aload_n rfl (q_getR (show SH 261 = (18, 0) from rfl) rfl (pt_261_1 hP) (q_iload_n rfl (q_iald (j := a) (show SH 262 = (1, 13) from rfl) rfl (by omega) (ki rfl hma (by omega)) (q_aload_n rfl (q_getR (show SH 261 = (18, 0) from rfl) rfl (pt_261_1 hP) (q_iload_n rfl (q_iald (j := b) (show SH 262 = (1, 13) from rfl) rfl (by omega) (ki rfl hmb (by omega)) (q_iadd (q_bipush rfl hrr)))))))))) ?_
        refine rw_icmp_gt ⟨by omega, by omega⟩ ⟨by omega, by omega⟩ (t := 60) rfl (fun hc10 => ?_) (fun hc10 => ?_)
        · exfalso; omega
        · skip
          refine rw_of (fun rr hrr => q_aload_n rfl (q_getI (show SH 261 = (18, 0) from rfl) rfl (ki rfl hk (by omega)) (q_bipush rfl hrr))) ?_
          refine rw_icmp_ne ⟨by omega, by omega⟩ ⟨by omega, by omega⟩ (t := 64) rfl (fun hc11 => ?_) (fun hc11 => ?_)
          · exfalso; omega
          · skip
            refine rw_blk lk_X10_join_60 ?_
            refine rw_of (fun rr hrr => q_iconst (q_goto (t := 65) rfl hrr)) ?_
            refine rw_blk lk_X10_join_65 ?_
            obtain ⟨_, mm12, pp13, hV14, rfl, rfl, hw14, hF14⟩ := c_X10_fails1 (S := S) (fz := fz) (m := m) (p := p) (d := d) (by omega) (2) hP (by omega)
            refine rw_of (fun rr hrr => q_invV hV14 (show SH 261 = (18, 0) from rfl) rfl rfl (okar_cons rfl okar_nil) (Nat.le_of_ble_eq_true rfl) hrr) ?_
            refine rw_if_eq ⟨by omega, by omega⟩ (t := 73) rfl (fun hc15 => ?_) (fun hc15 => ?_)
            · exfalso; omega
            · skip
              refine rw_of (fun rr hrr => q_iconst hrr) ?_
              refine rw_ret hQ (q_ireturn (Or.inl rfl)) ?_
              first
                | exact ⟨rfl, rfl, QMx_w hw14 rfl⟩
                | (exfalso; omega)
              
      · exfalso; omega
