def ob1 (n : Nat) (A : Nat → Nat → F) (b kk : Nat → F) (u r c : Nat) : F := if r < u then (if c < n then A r c else if c < 2 * n then 0 - b r * kk (c - n) else 0) else if n ≤ r ∧ r < n + u then (if n ≤ c ∧ c < 2 * n then A (r - n) (c - n) - b (r - n) * kk (c - n) else 0) else 0
theorem ob1_s {n u r c : Nat} {A : Nat → Nat → F} {b kk : Nat → F} (hu : u < n) : ob1 n A b kk (u + 1) r c = if r = u then (if c < n then A u c else if c < 2 * n then 0 - b u * kk (c - n) else 0) else if r = n + u then (if n ≤ c ∧ c < 2 * n then A u (c - n) - b u * kk (c - n) else 0) else ob1 n A b kk u r c := by
  unfold ob1
  by_cases e : r = u
  · rw [if_pos e, e, if_pos (by omega)]
  · rw [if_neg e]
    by_cases e2 : r = n + u
    · rw [if_pos e2, e2, if_neg (by omega), if_pos (by omega), show n + u - n = u by omega]
    · rw [if_neg e2]
      by_cases q : r < u
      · rw [if_pos q, if_pos (by omega)]
      · rw [if_neg q, if_neg (by omega)]
        by_cases q2 : n ≤ r ∧ r < n + u
        · rw [if_pos q2, if_pos (by omega)]
        · rw [if_neg q2, if_neg (by omega)]
theorem ob1_u {n u c : Nat} {A : Nat → Nat → F} {b kk : Nat → F} (hu : u < n) : ob1 n A b kk u u c = 0 ∧ ob1 n A b kk u (n + u) c = 0 := by
  unfold ob1
  rw [if_neg (by omega), if_neg (by omega), if_neg (by omega), if_neg (by omega)]
  exact ⟨rfl, rfl⟩
def ob2 (n : Nat) (A : Nat → Nat → F) (b cc kk ll : Nat → F) (u r c : Nat) : F := if n ≤ r ∧ r < n + u then (if c < n then ll (r - n) * cc c else if c < 2 * n then ob1 n A b kk n r c - ll (r - n) * cc (c - n) else ob1 n A b kk n r c) else ob1 n A b kk n r c
theorem ob2_s {n u r c : Nat} {A : Nat → Nat → F} {b cc kk ll : Nat → F} : ob2 n A b cc kk ll (u + 1) r c = if r = n + u then (if c < n then ll u * cc c else if c < 2 * n then ob1 n A b kk n r c - ll u * cc (c - n) else ob1 n A b kk n r c) else ob2 n A b cc kk ll u r c := by
  unfold ob2
  by_cases e : r = n + u
  · rw [if_pos e, if_pos (by omega), show r - n = u by omega]
  · rw [if_neg e]
    by_cases q : n ≤ r ∧ r < n + u
    · rw [if_pos q, if_pos (by omega)]
    · rw [if_neg q, if_neg (by omega)]
theorem ob2_u {n u c : Nat} {A : Nat → Nat → F} {b cc kk ll : Nat → F} : ob2 n A b cc kk ll u (n + u) c = ob1 n A b kk n (n + u) c := if_neg (by omega)
theorem ob2_obA {n r c : Nat} {A : Nat → Nat → F} {b cc kk ll : Nat → F} (hr : r < 2 * n) (hc : c < 2 * n) : ob2 n A b cc kk ll n r c = obA n A b cc kk ll r c := by
  unfold ob2 obA ob1
  by_cases q : r < n
  · rw [if_neg (by omega), if_pos q, if_pos q]
    by_cases q2 : c < n
    · rw [if_pos q2, if_pos q2]
    · rw [if_neg q2, if_neg q2, if_pos hc]
  · have q3 : n ≤ r ∧ r < n + n := by omega
    simp only [if_neg q, if_pos q3]
    by_cases q2 : c < n
    · simp only [if_pos q2]
    · have q4 : n ≤ c ∧ c < 2 * n := by omega
      simp only [if_neg q2, if_pos hc, if_pos q4]
theorem c_X10_joined1 {d : Nat} {S : MC} {fz : Bool} {m : M1} {p : M2} (hd : 7 ≤ d) (s k n cp : Nat) (hP : PI p) (hk : m 261 0 = nF k) (hk12 : k ≤ 12) (hsk : s < k) (hm : m 262 s = nF n) (hn0 : 1 ≤ n) (hn : n ≤ 8) (hcp : m 261 6 = nF cp) (hcpl : cp ≤ 16) (hn4 : n ≤ 4) (hd0 : m 266 s = 0) (h : n ≤ cp ∧ rk n (kr n (fun z w => m 263 (64 * s + 8 * z + w)) (fun z => m 264 (8 * s + z))) = n) (h2 : 2 * n ≤ cp ∧ rk n (kr n (fun z w => m 263 (64 * s + 8 * w + z)) (fun z => m 265 (8 * s + z))) = n) (hk1 : k < 12) : Ct d k_X10_joined S fz [.ref (261), .int (iI (((s : Nat) : Int)))] m p (fun v m' p' => ∃ x y, v = some (.int (iI ((k : Nat) : Int))) ∧ p = p' ∧ (∀ i, i < n → dot n ((kr n (fun z w => m 263 (64 * s + 8 * z + w)) (fun z => m 264 (8 * s + z))) i) x = if i + 1 = n then 1 else 0) ∧ (∀ i, i < n → dot n ((kr n (fun z w => m 263 (64 * s + 8 * w + z)) (fun z => m 265 (8 * s + z))) i) y = if i + 1 = n then 1 else 0) ∧ MK k (2 * n) (fun z w => obA n (fun z w => m 263 (64 * s + 8 * z + w)) (fun z => m 264 (8 * s + z)) (fun z => m 265 (8 * s + z)) (fun z => av n (fun z w => m 263 (64 * s + 8 * z + w)) (fun z => m 267 (0 + z)) x n z) (fun z => av n (fun z w => m 263 (64 * s + 8 * w + z)) (fun z => m 267 (n + z)) y n z) z w) (fun z => if z < n then m 264 (8 * s + z) else m 264 (8 * s + (z - n))) (fun z => if z < n then m 265 (8 * s + z) else 0) 0 m m') := by
  obtain ⟨d, rfl⟩ : ∃ e, d = e + 1 := ⟨d - 1, by omega⟩
  refine ct_go (lv := [some (.ref (261)), some (.int (iI (((s : Nat) : Int)))), none, none, none, none, none, none]) (Nat.le_of_ble_eq_true rfl) (okar_cons rfl (okar_cons rfl okar_nil)) rfl (fun Qr hQ => ?_)
  refine rw_blk lk_X10_joined_0 ?_
  refine rw_of (fun rr hrr => q_aload_n rfl (q_iload_n rfl hrr)) ?_
  obtain ⟨_, mm1, pp2, hV3, rfl, rfl, rfl⟩ := c_X10_isSystem1 (S := S) (fz := fz) (m := m) (p := p) (d := d) (by omega) (((s : Nat) : Int)) (k) hP hk (by omega) (by omega) (by omega)
  refine rw_of (fun rr hrr => q_invV hV3 (show SH 261 = (18, 0) from rfl) rfl rfl (okar_cons rfl okar_nil) (Nat.le_of_ble_eq_true rfl) hrr) ?_
  refine rw_if_eq ⟨by omega, by omega⟩ (t := 56) rfl (fun hc4 => ?_) (fun hc4 => ?_)
  · exfalso; omega
  · skip
    refine rw_of (fun rr hrr => q_aload_n rfl (q_getR (show SH 261 = (18, 0) from rfl) rfl (pt_261_1 hP) (q_iload_n rfl (q_iald (j := s) (show SH 262 = (1, 13) from rfl) rfl (by omega) (ki rfl hm (by omega)) (q_iconst hrr))))) ?_
    refine rw_icmp_ge ⟨by omega, by omega⟩ ⟨by omega, by omega⟩ (t := 56) rfl (fun hc5 => ?_) (fun hc5 => ?_)
    · exfalso; omega
    · skip
      refine rw_of (fun rr hrr => q_aload_n rfl (q_getR (show SH 261 = (18, 0) from rfl) rfl (pt_261_5 hP) (q_iload_n rfl (q_iald (j := s) (show SH 266 = (1, 13) from rfl) rfl (by omega) rfl hrr)))) ?_
      refine rw_if_ne (rg_vF _) (t := 56) rfl (fun hc6 => ?_) (fun hc6 => ?_)
      · exact absurd (vF_eq0.mpr hd0) hc6
      · skip
        refine rw_of (fun rr hrr => q_aload_n rfl (q_iload_n rfl hrr)) ?_
        obtain ⟨_, mm7, pp8, hV9, rfl, rfl, hF9⟩ := c_X10_canPlace1 (S := S) (fz := fz) (m := m) (p := p) (d := d) (by omega) (s) (n) (cp) hP hm (by omega) (by omega) (by omega) hcp (by omega) (h)
        refine rw_of (fun rr hrr => q_invV hV9 (show SH 261 = (18, 0) from rfl) rfl rfl (okar_cons rfl okar_nil) (Nat.le_of_ble_eq_true rfl) hrr) ?_
        refine rw_if_eq ⟨by omega, by omega⟩ (t := 56) rfl (fun hc10 => ?_) (fun hc10 => ?_)
        · exfalso; omega
        · skip
          refine rw_of (fun rr hrr => q_aload_n rfl (q_iload_n rfl hrr)) ?_
          obtain ⟨_, mm11, pp12, hV13, rfl, rfl, hF13⟩ := c_X10_canSee1 (S := S) (fz := fz) (m := mm7) (p := p) (d := d) (by omega) (s) (n) (cp) hP ((congrFun (hF9 262 (by show ¬ (271 ≤ 262 ∧ 262 < 274); omega)) s).trans hm) (by omega) (by omega) (by omega) ((congrFun (hF9 261 (by show ¬ (271 ≤ 261 ∧ 261 < 274); omega)) 6).trans hcp) (by omega) (by rw [hF9 263 (by omega), hF9 265 (by omega)]; exact h2)
          refine rw_of (fun rr hrr => q_invV hV13 (show SH 261 = (18, 0) from rfl) rfl rfl (okar_cons rfl okar_nil) (Nat.le_of_ble_eq_true rfl) hrr) ?_
          refine rw_if_eq ⟨by omega, by omega⟩ (t := 56) rfl (fun hc14 => ?_) (fun hc14 => ?_)
          · exfalso; omega
          · skip
            refine rw_of (fun rr hrr => q_aload_n rfl (q_getI (show SH 261 = (18, 0) from rfl) rfl (ki ((hF13 261 (by show ¬ (271 ≤ 261 ∧ 261 < 274); omega)).trans (hF9 261 (by show ¬ (271 ≤ 261 ∧ 261 < 274); omega))) hk (by omega)) (q_bipush rfl hrr))) ?_
            refine rw_icmp_ge ⟨by omega, by omega⟩ ⟨by omega, by omega⟩ (t := 56) rfl (fun hc15 => ?_) (fun hc15 => ?_)
            · exfalso; omega
            · skip
              refine rw_of (fun rr hrr => q_iconst (q_goto (t := 57) rfl hrr)) ?_
              refine rw_blk lk_X10_joined_57 ?_
              refine rw_of (fun rr hrr => q_istore_n (Nat.le_of_ble_eq_true rfl) rfl (q_aload_n rfl (q_aload_n rfl (q_iload_n rfl hrr)))) ?_
              obtain ⟨_, mm16, pp17, hV18, rfl, rfl, rfl⟩ := c_X10_isSystem1 (S := S) (fz := fz) (m := mm11) (p := p) (d := d) (by omega) (((s : Nat) : Int)) (k) hP ((congrFun ((hF13 261 (by show ¬ (271 ≤ 261 ∧ 261 < 274); omega)).trans (hF9 261 (by show ¬ (271 ≤ 261 ∧ 261 < 274); omega))) 0).trans hk) (by omega) (by omega) (by omega)
              refine rw_of (fun rr hrr => q_invV hV18 (show SH 261 = (18, 0) from rfl) rfl rfl (okar_cons rfl okar_nil) (Nat.le_of_ble_eq_true rfl) hrr) ?_
              refine rw_if_ne ⟨by omega, by omega⟩ (t := 71) rfl (fun hc19 => ?_) (fun hc19 => ?_)
              · skip
                refine rw_blk lk_X10_joined_71 ?_
                refine rw_of (fun rr hrr => q_iload_n rfl hrr) ?_
                refine rw_if_eq ⟨by omega, by omega⟩ (t := 79) rfl (fun hc20 => ?_) (fun hc20 => ?_)
                · exfalso; omega
                · skip
                  refine rw_of (fun rr hrr => q_iconst (q_goto (t := 80) rfl hrr)) ?_
                  refine rw_blk lk_X10_joined_80 ?_
                  obtain ⟨_, mm21, pp22, hV23, rfl, rfl, hw23, hF23⟩ := c_X10_fails0 (S := S) (fz := fz) (m := mm11) (p := p) (d := d) (by omega) hP
                  refine rw_of (fun rr hrr => q_invV hV23 (show SH 261 = (18, 0) from rfl) rfl rfl (okar_cons rfl okar_nil) (Nat.le_of_ble_eq_true rfl) hrr) ?_
                  refine rw_if_eq ⟨by omega, by omega⟩ (t := 88) rfl (fun hc24 => ?_) (fun hc24 => ?_)
                  · skip
                    refine rw_blk lk_X10_joined_88 ?_
                    refine rw_of (fun rr hrr => q_aload_n rfl (q_getI (show SH 261 = (18, 0) from rfl) rfl (by rw [(show mm21 261 0 = mm11 261 0 from by rw [← hw23, w1_ne (by omega)]), (show mm11 261 0 = mm7 261 0 from congrFun (hF13 261 (by show ¬ (271 ≤ 261 ∧ 261 < 274); omega)) 0), (show mm7 261 0 = m 261 0 from congrFun (hF9 261 (by show ¬ (271 ≤ 261 ∧ 261 < 274); omega)) 0), hk, vF_nF (by omega)]) (q_istore_n (Nat.le_of_ble_eq_true rfl) rfl (q_aload_n rfl (q_getR (show SH 261 = (18, 0) from rfl) rfl (pt_261_1 hP) (q_iload_n rfl (q_iald (j := s) (show SH 262 = (1, 13) from rfl) rfl (by omega) (ki ((kw hw23 (by omega)).trans ((hF13 262 (by show ¬ (271 ≤ 262 ∧ 262 < 274); omega)).trans (hF9 262 (by show ¬ (271 ≤ 262 ∧ 262 < 274); omega)))) hm (by omega)) (q_istore (Nat.le_of_ble_eq_true rfl) rfl (q_aload_n rfl (q_iload_n rfl (q_iconst (q_iload rfl (q_imul hrr))))))))))))) ?_
                    obtain ⟨_, mm25, pp26, hV27, rfl, rfl, hF27, ho27, hd27, hA27, hb27, hc27⟩ := c_X10_begins (S := S) (fz := fz) (m := mm21) (p := p) (d := d) (by omega) (k) (2 * n) hP (by omega) (by omega)
                    refine rw_of (fun rr hrr => q_invV hV27 (show SH 261 = (18, 0) from rfl) rfl rfl (okar_cons rfl (okar_cons rfl okar_nil)) (Nat.le_of_ble_eq_true rfl) hrr) ?_
                    have hot := Ot_of ho27 hd27 hA27 hb27 hc27
                    have eF : ∀ a, a ≠ 261 → a < 269 ∨ 280 ≤ a → mm21 a = m a := fun a h1 h2 => (hF23 a h1).trans ((hF13 a (by omega)).trans (hF9 a (by omega)))
                    have e3 : mm21 263 = m 263 := eF 263 (by omega) (by omega)
                    have e4 : mm21 264 = m 264 := eF 264 (by omega) (by omega)
                    have e5 : mm21 265 = m 265 := eF 265 (by omega) (by omega)
                    have e6 : mm21 266 = m 266 := eF 266 (by omega) (by omega)
                    have e7 : mm25 267 = m 267 := (hF27 267 (by omega)).trans (eF 267 (by omega) (by omega))
                    have hsn : mm25 262 s = nF n := by rw [(hot.2.2 s hsk).1, eF 262 (by omega) (by omega)]; exact hm
                    have eAA : ∀ i, i < n → ∀ j, j < n → mm25 263 (64 * s + 8 * i + j) = m 263 (64 * s + 8 * i + j) := fun i hi j hj => by rw [hot.1 _ (by omega), e3]
                    have eBB : ∀ i, i < n → mm25 264 (8 * s + i) = m 264 (8 * s + i) := fun i hi => by rw [(hot.2.1 _ (by omega)).1, e4]
                    refine rw_of (fun rr hrr => q_aload_n rfl (q_iload_n rfl (q_iconst (q_iconst hrr)))) ?_
                    obtain ⟨_, mm28, pp29, hV30, x30, rfl, rfl, hF30, hx30, hv30⟩ := c_X10_places0 (S := S) (fz := fz) (m := mm25) (p := p) (d := d) (by omega) (s) (n) (0) hP (hsn) (by omega) (by omega) (by omega) (by omega) ((rk_congr (fun i hi c hc => kr_congr eAA eBB i c hc)).trans h.2)
                    refine rw_of (fun rr hrr => q_invV hV30 (show SH 261 = (18, 0) from rfl) rfl rfl (okar_cons rfl (okar_cons rfl (okar_cons rfl okar_nil))) (Nat.le_of_ble_eq_true rfl) hrr) ?_
                    have hx9 : ∀ i, i < n → dot n ((kr n (fun z w => m 263 (64 * s + 8 * z + w)) (fun z => m 264 (8 * s + z))) i) x30 = if i + 1 = n then 1 else 0 := fun i hi => (dot_congr (fun c hc => (kr_congr eAA eBB i c hc).symm) (fun _ _ => rfl)).trans (hx30 i hi)
                    have hv9 : ∀ w, w < n → mm28 275 w = av n (fun z w => m 263 (64 * s + 8 * z + w)) (fun z => m 267 (0 + z)) x30 n w := fun w hw => (hv30 w hw).trans (av_congr eAA (fun i => congrFun e7 _) n w hw)
                    have hop : Ot k mm25 mm28 := Ot_fr hF30 (fun a ha => by omega)
                    generalize x30 = x at hx9 hv9
                    refine rw_of (fun rr hrr => q_iconst (q_istore (Nat.le_of_ble_eq_true rfl) rfl hrr)) ?_
                    have hL120 : ∀ i, i ≤ n → ∀ (m1 : M1) (x120_6 : Option Value) (x120_7 : Option Value), (Fr (fun a_ => a_ = 263 ∨ a_ = 264 ∨ a_ = 265) mm28 m1 ∧ Ot k mm28 m1 ∧ (∀ r, r < 8 → ∀ c, c < 8 → m1 263 (64 * k + 8 * r + c) = ob1 n (fun z w => m 263 (64 * s + 8 * z + w)) (fun z => m 264 (8 * s + z)) (fun z => av n (fun z w => m 263 (64 * s + 8 * z + w)) (fun z => m 267 (0 + z)) x n z) (i) r c) ∧ ∀ r, r < 8 → m1 264 (8 * k + r) = (if r < i then m 264 (8 * s + r) else if n ≤ r ∧ r < n + i then m 264 (8 * s + (r - n)) else 0) ∧ m1 265 (8 * k + r) = if r < i then m 265 (8 * s + r) else 0) → Rw (Ev d) k_X10_joined (120, [], [some (.ref (261)), some (.int (iI (((s : Nat) : Int)))), some (.int (iI (1))), some (.int (iI (((k : Nat) : Int)))), some (.int (iI (((n : Nat) : Int)))), some (.int (iI (((i : Nat) : Int)))), x120_6, x120_7], [], hpM S fz (m1, p), 0, 0) Qr := by
                      refine loop_any (fun i hi120 ih120 => ?_)
                      intro m1 x120_6 x120_7
                      intro hI120
                      obtain ⟨hF1, hO1, hA1, hV1⟩ := hI120
                      have ho_m1 : Ot k mm21 m1 := Ot_trans hot (Ot_trans hop hO1)
                      have eb_m1 : ∀ z, z < 8 → m1 264 (8 * s + z) = m 264 (8 * s + z) := fun z hz => by rw [(ho_m1.2.1 (8 * s + z) (by omega)).1, e4]
                      have ec_m1 : ∀ z, z < 8 → m1 265 (8 * s + z) = m 265 (8 * s + z) := fun z hz => by rw [(ho_m1.2.1 (8 * s + z) (by omega)).2, e5]
                      have eA_m1 : ∀ z w, z < 8 → w < 8 → m1 263 (64 * s + 8 * z + w) = m 263 (64 * s + 8 * z + w) := fun z w hz hw => by rw [ho_m1.1 (64 * s + 8 * z + w) (by omega), e3]
                      have en_m1 : m1 262 s = nF n := by rw [(ho_m1.2.2 s hsk).1, eF 262 (by omega) (by omega)]; exact hm
                      refine rw_blk lk_X10_joined_120 ?_
                      refine rw_of (fun rr hrr => q_iload rfl (q_iload rfl hrr)) ?_
                      refine rw_icmp_ge ⟨by omega, by omega⟩ ⟨by omega, by omega⟩ (t := 342) rfl (fun hc31 => ?_) (fun hc31 => ?_)
                      · skip
                        refine rw_blk lk_X10_joined_342 ?_
                        have e19 : n = i := (by omega)
                        have e7q : m1 267 = m 267 := (hF1 267 (by omega)).trans ((hF30 267 (by omega)).trans e7)
                        refine rw_of (fun rr hrr => q_aload_n rfl (q_iload_n rfl (q_iconst (q_iload rfl hrr)))) ?_
                        obtain ⟨_, mm32, pp33, hV34, x34, rfl, rfl, hF34, hx34, hv34⟩ := c_X10_places1 (S := S) (fz := fz) (m := m1) (p := p) (d := d) (by omega) (s) (n) (n) hP (en_m1) (by omega) (by omega) (by omega) (by omega) ((rk_congr (fun i hi c hc => kr_congr (fun i hi j hj => eA_m1 j i (by omega) (by omega)) (fun i hi => ec_m1 i (by omega)) i c hc)).trans h2.2)
                        refine rw_of (fun rr hrr => q_invV hV34 (show SH 261 = (18, 0) from rfl) rfl rfl (okar_cons rfl (okar_cons rfl (okar_cons rfl okar_nil))) (Nat.le_of_ble_eq_true rfl) hrr) ?_
                        have hy9 : ∀ i, i < n → dot n ((kr n (fun z w => m 263 (64 * s + 8 * w + z)) (fun z => m 265 (8 * s + z))) i) x34 = if i + 1 = n then 1 else 0 := fun i hi => (dot_congr (fun c hc => (kr_congr (fun i hi j hj => eA_m1 j i (by omega) (by omega)) (fun i hi => ec_m1 i (by omega)) i c hc).symm) (fun _ _ => rfl)).trans (hx34 i hi)
                        have hw9 : ∀ w, w < n → mm32 275 w = av n (fun z w => m 263 (64 * s + 8 * w + z)) (fun z => m 267 (n + z)) x34 n w := fun w hw => (hv34 w hw).trans (av_congr (fun i hi j hj => eA_m1 j i (by omega) (by omega)) (fun i => congrFun e7q _) n w hw)
                        have hoq : Ot k m1 mm32 := Ot_fr hF34 (fun a ha => by omega)
                        generalize x34 = y at hy9 hw9
                        refine rw_of (fun rr hrr => q_iconst (q_istore (Nat.le_of_ble_eq_true rfl) rfl hrr)) ?_
                        have hL353 : ∀ u, u ≤ n → ∀ (m6 : M1) (x353_6 : Option Value) (x353_7 : Option Value), (Fr (fun a_ => a_ = 263) mm32 m6 ∧ Ot k mm32 m6 ∧ ∀ r, r < 8 → ∀ c, c < 8 → m6 263 (64 * k + 8 * r + c) = ob2 n (fun z w => m 263 (64 * s + 8 * z + w)) (fun z => m 264 (8 * s + z)) (fun z => m 265 (8 * s + z)) (fun z => av n (fun z w => m 263 (64 * s + 8 * z + w)) (fun z => m 267 (0 + z)) x n z) (fun z => av n (fun z w => m 263 (64 * s + 8 * w + z)) (fun z => m 267 (n + z)) y n z) (u) r c) → Rw (Ev d) k_X10_joined (353, [], [some (.ref (261)), some (.int (iI (((s : Nat) : Int)))), some (.int (iI (1))), some (.int (iI (((k : Nat) : Int)))), some (.int (iI (((n : Nat) : Int)))), some (.int (iI (((u : Nat) : Int)))), x353_6, x353_7], [], hpM S fz (m6, p), 0, 0) Qr := by
                          refine loop_any (fun u hi353 ih353 => ?_)
                          intro m6 x353_6 x353_7
                          intro hI353
                          obtain ⟨hF6, hO6, hA6⟩ := hI353
                          have ho_m6 : Ot k mm21 m6 := Ot_trans ho_m1 (Ot_trans hoq hO6)
                          have eb_m6 : ∀ z, z < 8 → m6 264 (8 * s + z) = m 264 (8 * s + z) := fun z hz => by rw [(ho_m6.2.1 (8 * s + z) (by omega)).1, e4]
                          have ec_m6 : ∀ z, z < 8 → m6 265 (8 * s + z) = m 265 (8 * s + z) := fun z hz => by rw [(ho_m6.2.1 (8 * s + z) (by omega)).2, e5]
                          have eA_m6 : ∀ z w, z < 8 → w < 8 → m6 263 (64 * s + 8 * z + w) = m 263 (64 * s + 8 * z + w) := fun z w hz hw => by rw [ho_m6.1 (64 * s + 8 * z + w) (by omega), e3]
                          have en_m6 : m6 262 s = nF n := by rw [(ho_m6.2.2 s hsk).1, eF 262 (by omega) (by omega)]; exact hm
                          refine rw_blk lk_X10_joined_353 ?_
                          refine rw_of (fun rr hrr => q_iload rfl (q_iload rfl hrr)) ?_
                          refine rw_icmp_ge ⟨by omega, by omega⟩ ⟨by omega, by omega⟩ (t := 474) rfl (fun hc35 => ?_) (fun hc35 => ?_)
                          · skip
                            refine rw_blk lk_X10_joined_474 ?_
                            refine rw_of (fun rr hrr => q_aload_n rfl (q_dup rfl (q_getI (show SH 261 = (18, 0) from rfl) rfl (by rw [(show m6 261 0 = mm32 261 0 from congrFun (hF6 261 (by show ¬ (261 = 263); omega)) 0), (show mm32 261 0 = m1 261 0 from congrFun (hF34 261 (by show ¬ (261 = 278 ∨ (271 ≤ 261 ∧ 261 < 276)); omega)) 0), (show m1 261 0 = mm28 261 0 from congrFun (hF1 261 (by show ¬ (261 = 263 ∨ 261 = 264 ∨ 261 = 265); omega)) 0), (show mm28 261 0 = mm25 261 0 from congrFun (hF30 261 (by show ¬ (261 = 278 ∨ (271 ≤ 261 ∧ 261 < 276)); omega)) 0), (show mm25 261 0 = mm21 261 0 from congrFun (hF27 261 (by show ¬ (262 ≤ 261 ∧ 261 ≤ 266); omega)) 0), (show mm21 261 0 = mm11 261 0 from by rw [← hw23, w1_ne (by omega)]), (show mm11 261 0 = mm7 261 0 from congrFun (hF13 261 (by show ¬ (271 ≤ 261 ∧ 261 < 274); omega)) 0), (show mm7 261 0 = m 261 0 from congrFun (hF9 261 (by show ¬ (271 ≤ 261 ∧ 261 < 274); omega)) 0), hk, vF_nF (by omega)]) (q_iconst (q_iadd (q_putI (xx := nF (k + 1)) (show SH 261 = (18, 0) from rfl) rfl rfl ((show _ = ((k + 1 : Nat) : Int) by omega).trans (vF_nF (by omega)).symm) hrr)))))) ?_
                            generalize hm37 : w1 m6 261 0 (nF (k + 1)) = mm36
                            refine rw_of (fun rr hrr => q_iload_n rfl hrr) ?_
                            refine rw_ret hQ (q_ireturn (Or.inl rfl)) ?_
                            
                            have e29 : n = u := (by omega)
                            have fC : ∀ a, 262 ≤ a → a ≤ 266 → a ≠ 263 → m6 a = m1 a := fun a h1 h2 h3 => (hF6 a h3).trans (hF34 a (by omega))
                            have fG : ∀ a, a = 262 ∨ a = 266 → m6 a = mm25 a := fun a h1 => (fC a (by omega) (by omega) (by omega)).trans ((hF1 a (by omega)).trans (hF30 a (by omega)))
                            refine ⟨x, y, rfl, rfl, hx9, hy9, MK_end (MKb_of (Fr_trans hF9 hF13) (fun a (ha : 271 ≤ a ∧ a < 274) => by omega) hw23 (Fr_trans (Fr_mono hF27 (fun a ha => Or.inl ha)) (Fr_trans (Fr_mono hF30 (fun a ha => Or.inr (by omega))) (Fr_trans (Fr_mono hF1 (fun a ha => Or.inl (by omega))) (Fr_trans (Fr_mono hF34 (fun a ha => Or.inr (by omega))) (Fr_mono hF6 (fun a ha => Or.inl (by omega))))))) (fun a (ha : (262 ≤ a ∧ a ≤ 266) ∨ (269 ≤ a ∧ a < 280)) => ha) (Ot_trans hot (Ot_trans hop (Ot_trans hO1 (Ot_trans hoq hO6)))) ?_ ?_ ?_ ?_) hm37⟩
                            · rw [fG 262 (by omega), ho27, if_pos rfl]
                            · intro z hz w hw
                              rw [hA6 z (by omega) w (by omega), ← e29]
                              exact ob2_obA hz hw
                            · intro z hz
                              have h9 := hV1 z (by omega)
                              rw [fC 264 (by omega) (by omega) (by omega), fC 265 (by omega) (by omega) (by omega), h9.1, h9.2, ← e19]
                              refine ⟨?_, rfl⟩
                              show _ = if z < n then _ else _
                              by_cases q : z < n
                              · rw [if_pos q, if_pos q]
                              · rw [if_neg q, if_neg q, if_pos (by omega)]
                            · rw [fG 266 (by omega), hd27, if_pos rfl]
                            
                          · skip
                            refine rw_of (fun rr hrr => q_iconst (q_istore (Nat.le_of_ble_eq_true rfl) rfl hrr)) ?_
                            have hL363 : ∀ j, j ≤ n → ∀ (m7 : M1) (x363_7 : Option Value), (Fr (fun a_ => a_ = 263) m6 m7 ∧ Ot k m6 m7 ∧ ∀ r, r < 8 → ∀ c, c < 8 → m7 263 (64 * k + 8 * r + c) = if r = n + u ∧ c < j then (fun z => av n (fun z w => m 263 (64 * s + 8 * w + z)) (fun z => m 267 (n + z)) y n z) u * m 265 (8 * s + c) else if r = n + u ∧ n ≤ c ∧ c < n + j then m6 263 (64 * k + 8 * r + c) - (fun z => av n (fun z w => m 263 (64 * s + 8 * w + z)) (fun z => m 267 (n + z)) y n z) u * m 265 (8 * s + (c - n)) else m6 263 (64 * k + 8 * r + c)) → Rw (Ev d) k_X10_joined (363, [], [some (.ref (261)), some (.int (iI (((s : Nat) : Int)))), some (.int (iI (1))), some (.int (iI (((k : Nat) : Int)))), some (.int (iI (((n : Nat) : Int)))), some (.int (iI (((u : Nat) : Int)))), some (.int (iI (((j : Nat) : Int)))), x363_7], [], hpM S fz (m7, p), 0, 0) Qr := by
                              refine loop_any (fun j hi363 ih363 => ?_)
                              intro m7 x363_7
                              intro hI363
                              obtain ⟨hF7, hO7, hA7⟩ := hI363
                              refine rw_blk lk_X10_joined_363 ?_
                              refine rw_of (fun rr hrr => q_iload rfl (q_iload rfl hrr)) ?_
                              refine rw_icmp_ge ⟨by omega, by omega⟩ ⟨by omega, by omega⟩ (t := 468) rfl (fun hc38 => ?_) (fun hc38 => ?_)
                              · skip
                                refine rw_blk lk_X10_joined_468 ?_
                                refine rw_of (fun rr hrr => q_iinc rfl rfl (q_goto (t := 353) rfl hrr)) ?_
                                have hA39 : Fr (fun a_ => a_ = 263) mm32 m7 ∧ Ot k mm32 m7 ∧ ∀ r, r < 8 → ∀ c, c < 8 → m7 263 (64 * k + 8 * r + c) = ob2 n (fun z w => m 263 (64 * s + 8 * z + w)) (fun z => m 264 (8 * s + z)) (fun z => m 265 (8 * s + z)) (fun z => av n (fun z w => m 263 (64 * s + 8 * z + w)) (fun z => m 267 (0 + z)) x n z) (fun z => av n (fun z w => m 263 (64 * s + 8 * w + z)) (fun z => m 267 (n + z)) y n z) ((u + 1)) r c := by
                                  refine ⟨Fr_trans hF6 hF7, Ot_trans hO6 hO7, fun r hr c hc => ?_⟩
                                  rw [hA7 r hr c hc, ob2_s]
                                  by_cases q : r = n + u
                                  · rw [if_pos q]
                                    by_cases q2 : c < n
                                    · rw [if_pos ⟨q, by omega⟩, if_pos q2]
                                    · rw [if_neg (by omega), if_neg q2]
                                      by_cases q3 : c < 2 * n
                                      · rw [if_pos (by omega), if_pos q3, hA6 r hr c hc, q, ob2_u]
                                      · rw [if_neg (by omega), if_neg q3, hA6 r hr c hc, q, ob2_u]
                                  · rw [if_neg q, if_neg (fun z => q z.1), if_neg (fun z => q z.1), hA6 r hr c hc]
                                exact rw_cast (ih353 (by omega) m7 (some (.int (iI (((j : Nat) : Int))))) x363_7 hA39) (lcons rfl (lcons rfl (lcons rfl (lcons rfl (lcons rfl (lcons (lvI (by omega)) (lcons rfl (lcons rfl rfl)))))))) rfl
                              · skip
                                refine rw_of (fun rr hrr => q_aload_n rfl (q_getR (show SH 261 = (18, 0) from rfl) rfl (pt_261_16 hP) (q_iload rfl (q_iald (j := u) (show SH 275 = (1, 8) from rfl) rfl (by omega) rfl (q_aload_n rfl (q_getR (show SH 261 = (18, 0) from rfl) rfl (pt_261_4 hP) (q_bipush rfl (q_iload_n rfl (q_imul (q_iload rfl (q_iadd (q_iald (j := 8 * s + j) (show SH 265 = (1, 104) from rfl) (by omega) (by omega) rfl hrr)))))))))))) ?_
                                obtain ⟨_, mm40, pp41, hV42, rfl, rfl, rfl⟩ := c_X10_times (S := S) (fz := fz) (m := m7) (p := p) (d := d) (by omega) (m7 275 u) (m7 265 (8 * s + j))
                                refine rw_of (fun rr hrr => q_invS hV42 rfl rfl (okar_cons rfl (okar_cons rfl okar_nil)) (Nat.le_of_ble_eq_true rfl) (q_istore (Nat.le_of_ble_eq_true rfl) rfl (q_aload_n rfl (q_getR (show SH 261 = (18, 0) from rfl) rfl (pt_261_2 hP) (q_bipush rfl (q_iload_n rfl (q_imul (q_bipush rfl (q_iload rfl (q_iload rfl (q_iadd (q_imul (q_iadd (q_iload rfl (q_iadd (q_iload rfl (q_iast (j := 64 * k + (8 * (n + u)) + j) (xx := (m7 275 u) * (m7 265 (8 * s + j))) (show SH 263 = (1, 832) from rfl) (by omega) (by omega) rfl hrr))))))))))))))))) ?_
                                generalize hm44 : w1 m7 263 (64 * k + (8 * (n + u)) + j) ((m7 275 u) * (m7 265 (8 * s + j))) = mm43
                                refine rw_of (fun rr hrr => q_aload_n rfl (q_getR (show SH 261 = (18, 0) from rfl) rfl (pt_261_2 hP) (q_bipush rfl (q_iload_n rfl (q_imul (q_bipush rfl (q_iload rfl (q_iload rfl (q_iadd (q_imul (q_iadd (q_iload rfl (q_iadd (q_iload rfl (q_iadd (q_aload_n rfl (q_iload_n rfl (q_iload rfl (q_iload rfl (q_iadd (q_iload rfl (q_iload rfl (q_iadd hrr))))))))))))))))))))))) ?_
                                obtain ⟨_, mm45, pp46, hV47, rfl, rfl, rfl⟩ := c_X10_square (S := S) (fz := fz) (m := mm43) (p := p) (d := d) (by omega) (k) (n + u) (n + j) hP (by omega) (by omega) (by omega)
                                refine rw_of (fun rr hrr => q_invV hV47 (show SH 261 = (18, 0) from rfl) rfl rfl (okar_cons rfl (okar_cons rfl (okar_cons rfl okar_nil))) (Nat.le_of_ble_eq_true rfl) (q_iload rfl (q_isub hrr))) ?_
                                obtain ⟨_, mm48, pp49, hV50, rfl, rfl, rfl⟩ := c_X10_rest (S := S) (fz := fz) (m := mm43) (p := p) (d := d) (by omega) ((vF (mm43 263 (64 * k + 8 * (n + u) + (n + j))) - vF ((m7 275 u) * (m7 265 (8 * s + j))))) (by have := vF_ge (mm43 263 (64 * k + 8 * (n + u) + (n + j))); have := vF_lt (mm43 263 (64 * k + 8 * (n + u) + (n + j))); have := vF_ge ((m7 275 u) * (m7 265 (8 * s + j))); have := vF_lt ((m7 275 u) * (m7 265 (8 * s + j))); omega)
                                refine rw_of (fun rr hrr => q_invS hV50 rfl rfl (okar_cons rfl okar_nil) (Nat.le_of_ble_eq_true rfl) (q_iast (j := 64 * k + (8 * (n + u)) + n + j) (xx := toF ((vF (mm43 263 (64 * k + 8 * (n + u) + (n + j))) - vF ((m7 275 u) * (m7 265 (8 * s + j)))))) (show SH 263 = (1, 832) from rfl) (by omega) (by omega) rfl hrr)) ?_
                                generalize hm52 : w1 mm43 263 (64 * k + (8 * (n + u)) + n + j) (toF ((vF (mm43 263 (64 * k + 8 * (n + u) + (n + j))) - vF ((m7 275 u) * (m7 265 (8 * s + j)))))) = mm51
                                refine rw_of (fun rr hrr => q_iinc rfl rfl (q_goto (t := 363) rfl hrr)) ?_
                                have hA53 : Fr (fun a_ => a_ = 263) m6 mm51 ∧ Ot k m6 mm51 ∧ ∀ r, r < 8 → ∀ c, c < 8 → mm51 263 (64 * k + 8 * r + c) = if r = n + u ∧ c < (j + 1) then (fun z => av n (fun z w => m 263 (64 * s + 8 * w + z)) (fun z => m 267 (n + z)) y n z) u * m 265 (8 * s + c) else if r = n + u ∧ n ≤ c ∧ c < n + (j + 1) then m6 263 (64 * k + 8 * r + c) - (fun z => av n (fun z w => m 263 (64 * s + 8 * w + z)) (fun z => m 267 (n + z)) y n z) u * m 265 (8 * s + (c - n)) else m6 263 (64 * k + 8 * r + c) := by
                                  have rB : m7 275 u * m7 265 (8 * s + j) = av n (fun z w => m 263 (64 * s + 8 * w + z)) (fun z => m 267 (n + z)) y n u * m 265 (8 * s + j) := by rw [hF7 275 (by omega), hF7 265 (by omega), hF6 275 (by omega), ec_m6 j (by omega), hw9 u (by omega)]
                                  refine ⟨fr_w hm52 (fr_w hm44 hF7 (by omega)) (by omega), Ot_w hm52 (Ot_w hm44 hO7 (by omega)) (by omega), fun r hr c hc => ?_⟩
                                  rw [← hm52]
                                  by_cases q2 : r = n + u ∧ c = n + j
                                  · rw [q2.1, q2.2, show 64 * k + 8 * (n + u) + (n + j) = 64 * k + 8 * (n + u) + n + j by omega, w1_at, if_neg (by omega), if_pos (by omega), toF_sub, toF_vF, toF_vF, rB, ← hm44, w1_ne (by omega), show n + j - n = j by omega]
                                    have h9 := hA7 (n + u) (by omega) (n + j) (by omega)
                                    rw [if_neg (by omega), if_neg (by omega), show 64 * k + 8 * (n + u) + (n + j) = 64 * k + 8 * (n + u) + n + j by omega] at h9
                                    rw [h9]
                                  · rw [w1_ne (by omega), ← hm44]
                                    by_cases q1 : r = n + u ∧ c = j
                                    · rw [q1.1, q1.2, w1_at, if_pos (by omega), rB]
                                    · rw [w1_ne (by omega), hA7 r hr c hc]
                                      by_cases p1 : r = n + u ∧ c < j
                                      · rw [if_pos p1, if_pos (show r = n + u ∧ c < j + 1 by omega)]
                                      · have p1' : ¬ (r = n + u ∧ c < j + 1) := by omega
                                        rw [if_neg p1, if_neg p1']
                                        by_cases p2 : r = n + u ∧ n ≤ c ∧ c < n + j
                                        · rw [if_pos p2, if_pos (show r = n + u ∧ n ≤ c ∧ c < n + (j + 1) by omega)]
                                        · have p2' : ¬ (r = n + u ∧ n ≤ c ∧ c < n + (j + 1)) := by omega
                                          rw [if_neg p2, if_neg p2']
                                exact rw_cast (ih363 (by omega) mm51 (some (.int (iI (vF ((m7 275 u) * (m7 265 (8 * s + j))))))) hA53) (lcons rfl (lcons rfl (lcons rfl (lcons rfl (lcons rfl (lcons rfl (lcons (lvI (by omega)) (lcons rfl rfl)))))))) rfl
                            exact rw_cast (hL363 0 (by omega) m6 x353_7 (by exact ⟨Fr_rfl, Ot_rfl, fun r hr c hc => by rw [if_neg (by omega), if_neg (by omega)]⟩)) (lcons rfl (lcons rfl (lcons rfl (lcons rfl (lcons rfl (lcons rfl (lcons (lvI (by omega)) (lcons rfl rfl)))))))) rfl
                        have hA54 : Fr (fun a_ => a_ = 263) mm32 mm32 ∧ Ot k mm32 mm32 ∧ ∀ r, r < 8 → ∀ c, c < 8 → mm32 263 (64 * k + 8 * r + c) = ob2 n (fun z w => m 263 (64 * s + 8 * z + w)) (fun z => m 264 (8 * s + z)) (fun z => m 265 (8 * s + z)) (fun z => av n (fun z w => m 263 (64 * s + 8 * z + w)) (fun z => m 267 (0 + z)) x n z) (fun z => av n (fun z w => m 263 (64 * s + 8 * w + z)) (fun z => m 267 (n + z)) y n z) (0) r c := by
                          refine ⟨Fr_rfl, Ot_rfl, fun r hr c hc => ?_⟩
                          rw [hF34 263 (by omega), hA1 r hr c hc, ← e19]
                          exact (if_neg (by omega)).symm
                        exact rw_cast (hL353 0 (by omega) mm32 x120_6 x120_7 hA54) (lcons rfl (lcons rfl (lcons rfl (lcons rfl (lcons rfl (lcons (lvI (by omega)) (lcons rfl (lcons rfl rfl)))))))) rfl
                      · skip
                        refine rw_of (fun rr hrr => q_iconst (q_istore (Nat.le_of_ble_eq_true rfl) rfl hrr)) ?_
                        have hL130 : ∀ j, j ≤ n → ∀ (m2 : M1) (x130_7 : Option Value), (Fr (fun a_ => a_ = 263) m1 m2 ∧ Ot k m1 m2 ∧ ∀ r, r < 8 → ∀ c, c < 8 → m2 263 (64 * k + 8 * r + c) = if r = i ∧ c < j then m 263 (64 * s + 8 * i + c) else if r = i ∧ n ≤ c ∧ c < n + j then 0 - m 264 (8 * s + i) * (fun z => av n (fun z w => m 263 (64 * s + 8 * z + w)) (fun z => m 267 (0 + z)) x n z) (c - n) else if r = n + i ∧ n ≤ c ∧ c < n + j then m 263 (64 * s + 8 * i + (c - n)) - m 264 (8 * s + i) * (fun z => av n (fun z w => m 263 (64 * s + 8 * z + w)) (fun z => m 267 (0 + z)) x n z) (c - n) else m1 263 (64 * k + 8 * r + c)) → Rw (Ev d) k_X10_joined (130, [], [some (.ref (261)), some (.int (iI (((s : Nat) : Int)))), some (.int (iI (1))), some (.int (iI (((k : Nat) : Int)))), some (.int (iI (((n : Nat) : Int)))), some (.int (iI (((i : Nat) : Int)))), some (.int (iI (((j : Nat) : Int)))), x130_7], [], hpM S fz (m2, p), 0, 0) Qr := by
                          refine loop_any (fun j hi130 ih130 => ?_)
                          intro m2 x130_7
                          intro hI130
                          obtain ⟨hF2, hO2, hA2⟩ := hI130
                          refine rw_blk lk_X10_joined_130 ?_
                          refine rw_of (fun rr hrr => q_iload rfl (q_iload rfl hrr)) ?_
                          refine rw_icmp_ge ⟨by omega, by omega⟩ ⟨by omega, by omega⟩ (t := 261) rfl (fun hc55 => ?_) (fun hc55 => ?_)
                          · skip
                            refine rw_blk lk_X10_joined_261 ?_
                            refine rw_of (fun rr hrr => q_aload_n rfl (q_getR (show SH 261 = (18, 0) from rfl) rfl (pt_261_3 hP) (q_bipush rfl (q_iload_n rfl (q_imul (q_iload rfl (q_iadd (q_aload_n rfl (q_getR (show SH 261 = (18, 0) from rfl) rfl (pt_261_3 hP) (q_bipush rfl (q_iload_n rfl (q_imul (q_iload rfl (q_iadd (q_iald (j := 8 * s + i) (show SH 264 = (1, 104) from rfl) (by omega) (by omega) rfl (q_iast (j := 8 * k + i) (xx := m2 264 (8 * s + i)) (show SH 264 = (1, 104) from rfl) (by omega) (by omega) rfl hrr)))))))))))))))) ?_
                            generalize hm57 : w1 m2 264 (8 * k + i) (m2 264 (8 * s + i)) = mm56
                            refine rw_of (fun rr hrr => q_aload_n rfl (q_getR (show SH 261 = (18, 0) from rfl) rfl (pt_261_3 hP) (q_bipush rfl (q_iload_n rfl (q_imul (q_iload rfl (q_iadd (q_iload rfl (q_iadd (q_aload_n rfl (q_getR (show SH 261 = (18, 0) from rfl) rfl (pt_261_3 hP) (q_bipush rfl (q_iload_n rfl (q_imul (q_iload rfl (q_iadd (q_iald (j := 8 * s + i) (show SH 264 = (1, 104) from rfl) (by omega) (by omega) rfl (q_iast (j := 8 * k + n + i) (xx := mm56 264 (8 * s + i)) (show SH 264 = (1, 104) from rfl) (by omega) (by omega) rfl hrr)))))))))))))))))) ?_
                            generalize hm59 : w1 mm56 264 (8 * k + n + i) (mm56 264 (8 * s + i)) = mm58
                            refine rw_of (fun rr hrr => q_aload_n rfl (q_getR (show SH 261 = (18, 0) from rfl) rfl (pt_261_4 hP) (q_bipush rfl (q_iload_n rfl (q_imul (q_iload rfl (q_iadd (q_aload_n rfl (q_getR (show SH 261 = (18, 0) from rfl) rfl (pt_261_4 hP) (q_bipush rfl (q_iload_n rfl (q_imul (q_iload rfl (q_iadd (q_iald (j := 8 * s + i) (show SH 265 = (1, 104) from rfl) (by omega) (by omega) rfl (q_iast (j := 8 * k + i) (xx := mm58 265 (8 * s + i)) (show SH 265 = (1, 104) from rfl) (by omega) (by omega) rfl hrr)))))))))))))))) ?_
                            generalize hm61 : w1 mm58 265 (8 * k + i) (mm58 265 (8 * s + i)) = mm60
                            refine rw_of (fun rr hrr => q_iinc rfl rfl (q_goto (t := 120) rfl hrr)) ?_
                            have hA62 : Fr (fun a_ => a_ = 263 ∨ a_ = 264 ∨ a_ = 265) mm28 mm60 ∧ Ot k mm28 mm60 ∧ (∀ r, r < 8 → ∀ c, c < 8 → mm60 263 (64 * k + 8 * r + c) = ob1 n (fun z w => m 263 (64 * s + 8 * z + w)) (fun z => m 264 (8 * s + z)) (fun z => av n (fun z w => m 263 (64 * s + 8 * z + w)) (fun z => m 267 (0 + z)) x n z) ((i + 1)) r c) ∧ ∀ r, r < 8 → mm60 264 (8 * k + r) = (if r < (i + 1) then m 264 (8 * s + r) else if n ≤ r ∧ r < n + (i + 1) then m 264 (8 * s + (r - n)) else 0) ∧ mm60 265 (8 * k + r) = if r < (i + 1) then m 265 (8 * s + r) else 0 := by
                              refine ⟨fr_w hm61 (fr_w hm59 (fr_w hm57 (Fr_trans hF1 (Fr_mono hF2 (fun a ha => by omega))) (by omega)) (by omega)) (by omega), Ot_w hm61 (Ot_w hm59 (Ot_w hm57 (Ot_trans hO1 hO2) (by omega)) (by omega)) (by omega), fun r hr c hc => ?_, fun r hr => ?_⟩
                              · rw [← hm61, w1_a (by omega), ← hm59, w1_a (by omega), ← hm57, w1_a (by omega), hA2 r hr c hc, ob1_s (by omega)]
                                by_cases q : r = i
                                · rw [if_pos q]
                                  by_cases q2 : c < n
                                  · rw [if_pos ⟨q, by omega⟩, if_pos q2]
                                  · rw [if_neg (by omega), if_neg q2]
                                    by_cases q3 : c < 2 * n
                                    · rw [if_pos (by omega), if_pos q3]
                                    · rw [if_neg (by omega), if_neg q3, if_neg (by omega), hA1 r hr c hc, q, (ob1_u (by omega)).1]
                                · rw [if_neg q, if_neg (fun z => q z.1), if_neg (fun z => q z.1)]
                                  by_cases q2 : r = n + i
                                  · rw [if_pos q2]
                                    by_cases q3 : n ≤ c ∧ c < 2 * n
                                    · rw [if_pos (by omega), if_pos q3]
                                    · rw [if_neg (by omega), if_neg q3, hA1 r hr c hc, q2, (ob1_u (by omega)).2]
                                  · rw [if_neg q2, if_neg (fun z => q2 z.1), hA1 r hr c hc]
                              · have h9 := hV1 r hr
                                have g4 : ∀ z, z < 8 → m2 264 (8 * s + z) = m 264 (8 * s + z) := fun z hz => by rw [hF2 264 (by omega)]; exact eb_m1 z hz
                                have g5 : ∀ z, z < 8 → m2 265 (8 * s + z) = m 265 (8 * s + z) := fun z hz => by rw [hF2 265 (by omega)]; exact ec_m1 z hz
                                refine ⟨?_, ?_⟩
                                · rw [← hm61, w1_a (by omega), ← hm59]
                                  by_cases q : r = n + i
                                  · rw [q, show 8 * k + (n + i) = 8 * k + n + i by omega, w1_at, if_neg (by omega), if_pos (by omega), ← hm57, w1_ne (by omega), g4 i (by omega), show n + i - n = i by omega]
                                  · rw [w1_ne (by omega), ← hm57]
                                    by_cases q2 : r = i
                                    · rw [q2, w1_at, if_pos (by omega), g4 i (by omega)]
                                    · rw [w1_ne (by omega), hF2 264 (by omega), h9.1]
                                      by_cases q3 : r < i
                                      · rw [if_pos q3, if_pos (show r < i + 1 by omega)]
                                      · have q3' : ¬ r < i + 1 := by omega
                                        rw [if_neg q3, if_neg q3']
                                        by_cases q4 : n ≤ r ∧ r < n + i
                                        · rw [if_pos q4, if_pos (show n ≤ r ∧ r < n + (i + 1) by omega)]
                                        · have q4' : ¬ (n ≤ r ∧ r < n + (i + 1)) := by omega
                                          rw [if_neg q4, if_neg q4']
                                · rw [← hm61]
                                  by_cases q2 : r = i
                                  · rw [q2, w1_at, if_pos (by omega), ← hm59, w1_a (by omega), ← hm57, w1_a (by omega), g5 i (by omega)]
                                  · rw [w1_ne (by omega), ← hm59, w1_a (by omega), ← hm57, w1_a (by omega), hF2 265 (by omega), h9.2]
                                    by_cases q3 : r < i
                                    · rw [if_pos q3, if_pos (by omega)]
                                    · rw [if_neg q3, if_neg (by omega)]
                            exact rw_cast (ih120 (by omega) mm60 (some (.int (iI (((j : Nat) : Int))))) x130_7 hA62) (lcons rfl (lcons rfl (lcons rfl (lcons rfl (lcons rfl (lcons (lvI (by omega)) (lcons rfl (lcons rfl rfl)))))))) rfl
                          · skip
                            refine rw_of (fun rr hrr => q_aload_n rfl (q_getR (show SH 261 = (18, 0) from rfl) rfl (pt_261_3 hP) (q_bipush rfl (q_iload_n rfl (q_imul (q_iload rfl (q_iadd (q_iald (j := 8 * s + i) (show SH 264 = (1, 104) from rfl) (by omega) (by omega) rfl (q_aload_n rfl (q_getR (show SH 261 = (18, 0) from rfl) rfl (pt_261_16 hP) (q_iload rfl (q_iald (j := j) (show SH 275 = (1, 8) from rfl) rfl (by omega) rfl hrr)))))))))))) ?_
                            obtain ⟨_, mm63, pp64, hV65, rfl, rfl, rfl⟩ := c_X10_times (S := S) (fz := fz) (m := m2) (p := p) (d := d) (by omega) (m2 264 (8 * s + i)) (m2 275 j)
                            refine rw_of (fun rr hrr => q_invS hV65 rfl rfl (okar_cons rfl (okar_cons rfl okar_nil)) (Nat.le_of_ble_eq_true rfl) (q_ineg hrr)) ?_
                            obtain ⟨_, mm66, pp67, hV68, rfl, rfl, rfl⟩ := c_X10_rest (S := S) (fz := fz) (m := m2) (p := p) (d := d) (by omega) ((-vF ((m2 264 (8 * s + i)) * (m2 275 j)))) (by have := vF_ge ((m2 264 (8 * s + i)) * (m2 275 j)); have := vF_lt ((m2 264 (8 * s + i)) * (m2 275 j)); omega)
                            refine rw_of (fun rr hrr => q_invS hV68 rfl rfl (okar_cons rfl okar_nil) (Nat.le_of_ble_eq_true rfl) (q_istore (Nat.le_of_ble_eq_true rfl) rfl (q_aload_n rfl (q_getR (show SH 261 = (18, 0) from rfl) rfl (pt_261_2 hP) (q_bipush rfl (q_iload_n rfl (q_imul (q_bipush rfl (q_iload rfl (q_imul (q_iadd (q_iload rfl (q_iadd (q_aload_n rfl (q_iload_n rfl (q_iload rfl (q_iload rfl hrr))))))))))))))))) ?_
                            obtain ⟨_, mm69, pp70, hV71, rfl, rfl, rfl⟩ := c_X10_square (S := S) (fz := fz) (m := m2) (p := p) (d := d) (by omega) (s) (i) (j) hP (by omega) (by omega) (by omega)
                            refine rw_of (fun rr hrr => q_invV hV71 (show SH 261 = (18, 0) from rfl) rfl rfl (okar_cons rfl (okar_cons rfl (okar_cons rfl okar_nil))) (Nat.le_of_ble_eq_true rfl) (q_iast (j := 64 * k + (8 * i) + j) (xx := m2 263 (64 * s + 8 * i + j)) (show SH 263 = (1, 832) from rfl) (by omega) (by omega) rfl hrr)) ?_
                            generalize hm73 : w1 m2 263 (64 * k + (8 * i) + j) (m2 263 (64 * s + 8 * i + j)) = mm72
                            refine rw_of (fun rr hrr => q_aload_n rfl (q_getR (show SH 261 = (18, 0) from rfl) rfl (pt_261_2 hP) (q_bipush rfl (q_iload_n rfl (q_imul (q_bipush rfl (q_iload rfl (q_imul (q_iadd (q_iload rfl (q_iadd (q_iload rfl (q_iadd (q_iload rfl (q_iast (j := 64 * k + (8 * i) + n + j) (xx := toF ((-vF ((m2 264 (8 * s + i)) * (m2 275 j))))) (show SH 263 = (1, 832) from rfl) (by omega) (by omega) rfl hrr))))))))))))))) ?_
                            generalize hm75 : w1 mm72 263 (64 * k + (8 * i) + n + j) (toF ((-vF ((m2 264 (8 * s + i)) * (m2 275 j))))) = mm74
                            refine rw_of (fun rr hrr => q_aload_n rfl (q_getR (show SH 261 = (18, 0) from rfl) rfl (pt_261_2 hP) (q_bipush rfl (q_iload_n rfl (q_imul (q_bipush rfl (q_iload rfl (q_iload rfl (q_iadd (q_imul (q_iadd (q_iload rfl (q_iadd (q_iload rfl (q_iadd (q_aload_n rfl (q_iload_n rfl (q_iload rfl (q_iload rfl hrr))))))))))))))))))) ?_
                            obtain ⟨_, mm76, pp77, hV78, rfl, rfl, rfl⟩ := c_X10_square (S := S) (fz := fz) (m := mm74) (p := p) (d := d) (by omega) (s) (i) (j) hP (by omega) (by omega) (by omega)
                            refine rw_of (fun rr hrr => q_invV hV78 (show SH 261 = (18, 0) from rfl) rfl rfl (okar_cons rfl (okar_cons rfl (okar_cons rfl okar_nil))) (Nat.le_of_ble_eq_true rfl) (q_iload rfl (q_iadd (q_sipush rfl (q_irem (by have := vF_ge (mm74 263 (64 * s + 8 * i + j)); have := vF_lt (mm74 263 (64 * s + 8 * i + j)); have := vF_ge (toF ((-vF ((m2 264 (8 * s + i)) * (m2 275 j))))); have := vF_lt (toF ((-vF ((m2 264 (8 * s + i)) * (m2 275 j))))); exact ⟨by omega, by omega⟩) ⟨by omega, by omega⟩ (by omega) (remF (by have := vF_ge (mm74 263 (64 * s + 8 * i + j)); have := vF_lt (mm74 263 (64 * s + 8 * i + j)); have := vF_ge (toF ((-vF ((m2 264 (8 * s + i)) * (m2 275 j))))); have := vF_lt (toF ((-vF ((m2 264 (8 * s + i)) * (m2 275 j))))); omega) (show toF ((vF (mm74 263 (64 * s + 8 * i + j)) + vF (toF ((-vF ((m2 264 (8 * s + i)) * (m2 275 j))))))) = ((mm74 263 (64 * s + 8 * i + j)) + (toF ((-vF ((m2 264 (8 * s + i)) * (m2 275 j)))))) by simp only [toF_add, toF_mul, toF_sub, toF_neg, toF_vF, toF_0, toF_1, toF_M, F_add0, F_0sub])) (q_iast (j := 64 * k + (8 * (n + i)) + n + j) (xx := ((mm74 263 (64 * s + 8 * i + j)) + (toF ((-vF ((m2 264 (8 * s + i)) * (m2 275 j))))))) (show SH 263 = (1, 832) from rfl) (by omega) (by omega) rfl hrr)))))) ?_
                            generalize hm80 : w1 mm74 263 (64 * k + (8 * (n + i)) + n + j) (((mm74 263 (64 * s + 8 * i + j)) + (toF ((-vF ((m2 264 (8 * s + i)) * (m2 275 j))))))) = mm79
                            refine rw_of (fun rr hrr => q_iinc rfl rfl (q_goto (t := 130) rfl hrr)) ?_
                            have hA81 : Fr (fun a_ => a_ = 263) m1 mm79 ∧ Ot k m1 mm79 ∧ ∀ r, r < 8 → ∀ c, c < 8 → mm79 263 (64 * k + 8 * r + c) = if r = i ∧ c < (j + 1) then m 263 (64 * s + 8 * i + c) else if r = i ∧ n ≤ c ∧ c < n + (j + 1) then 0 - m 264 (8 * s + i) * (fun z => av n (fun z w => m 263 (64 * s + 8 * z + w)) (fun z => m 267 (0 + z)) x n z) (c - n) else if r = n + i ∧ n ≤ c ∧ c < n + (j + 1) then m 263 (64 * s + 8 * i + (c - n)) - m 264 (8 * s + i) * (fun z => av n (fun z w => m 263 (64 * s + 8 * z + w)) (fun z => m 267 (0 + z)) x n z) (c - n) else m1 263 (64 * k + 8 * r + c) := by
                              have rA : m2 263 (64 * s + 8 * i + j) = m 263 (64 * s + 8 * i + j) := by rw [hO2.1 (64 * s + 8 * i + j) (by omega)]; exact eA_m1 i j (by omega) (by omega)
                              have rB : m2 264 (8 * s + i) * m2 275 j = m 264 (8 * s + i) * av n (fun z w => m 263 (64 * s + 8 * z + w)) (fun z => m 267 (0 + z)) x n j := by rw [hF2 264 (by omega), hF2 275 (by omega), hF1 275 (by omega), eb_m1 i (by omega), hv9 j (by omega)]
                              refine ⟨fr_w hm80 (fr_w hm75 (fr_w hm73 hF2 (by omega)) (by omega)) (by omega), Ot_w hm80 (Ot_w hm75 (Ot_w hm73 hO2 (by omega)) (by omega)) (by omega), fun r hr c hc => ?_⟩
                              rw [← hm80]
                              by_cases q3 : r = n + i ∧ c = n + j
                              · rw [q3.1, q3.2, show 64 * k + 8 * (n + i) + (n + j) = 64 * k + 8 * (n + i) + n + j by omega, w1_at, if_neg (by omega), if_neg (by omega), if_pos (by omega), ← hm75, w1_ne (by omega), ← hm73, w1_ne (by omega), rA, rB, toF_neg, toF_vF, show n + j - n = j by omega]
                                show _ = _ - _ * av n (fun z w => m 263 (64 * s + 8 * z + w)) (fun z => m 267 (0 + z)) x n j
                                grind
                              · rw [w1_ne (by omega), ← hm75]
                                by_cases q2 : r = i ∧ c = n + j
                                · rw [q2.1, q2.2, show 64 * k + 8 * i + (n + j) = 64 * k + 8 * i + n + j by omega, w1_at, if_neg (by omega), if_pos (by omega), rB, toF_neg, toF_vF, show n + j - n = j by omega]
                                  show _ = 0 - _ * av n (fun z w => m 263 (64 * s + 8 * z + w)) (fun z => m 267 (0 + z)) x n j
                                  grind
                                · rw [w1_ne (by omega), ← hm73]
                                  by_cases q1 : r = i ∧ c = j
                                  · rw [q1.1, q1.2, w1_at, if_pos (by omega), rA]
                                  · rw [w1_ne (by omega), hA2 r hr c hc]
                                    by_cases p1 : r = i ∧ c < j
                                    · rw [if_pos p1, if_pos (show r = i ∧ c < j + 1 by omega)]
                                    · have p1' : ¬ (r = i ∧ c < j + 1) := by omega
                                      rw [if_neg p1, if_neg p1']
                                      by_cases p2 : r = i ∧ n ≤ c ∧ c < n + j
                                      · rw [if_pos p2, if_pos (show r = i ∧ n ≤ c ∧ c < n + (j + 1) by omega)]
                                      · have p2' : ¬ (r = i ∧ n ≤ c ∧ c < n + (j + 1)) := by omega
                                        rw [if_neg p2, if_neg p2']
                                        by_cases p3 : r = n + i ∧ n ≤ c ∧ c < n + j
                                        · rw [if_pos p3, if_pos (show r = n + i ∧ n ≤ c ∧ c < n + (j + 1) by omega)]
                                        · have p3' : ¬ (r = n + i ∧ n ≤ c ∧ c < n + (j + 1)) := by omega
                                          rw [if_neg p3, if_neg p3']
                            exact rw_cast (ih130 (by omega) mm79 (some (.int (iI (vF (toF ((-vF ((m2 264 (8 * s + i)) * (m2 275 j))))))))) hA81) (lcons rfl (lcons rfl (lcons rfl (lcons rfl (lcons rfl (lcons rfl (lcons (lvI (by omega)) (lcons rfl rfl)))))))) rfl
                        exact rw_cast (hL130 0 (by omega) m1 x120_7 (by exact ⟨Fr_rfl, Ot_rfl, fun r hr c hc => by rw [if_neg (by omega), if_neg (by omega), if_neg (by omega)]⟩)) (lcons rfl (lcons rfl (lcons rfl (lcons rfl (lcons rfl (lcons rfl (lcons (lvI (by omega)) (lcons rfl rfl)))))))) rfl
                    have hA82 : Fr (fun a_ => a_ = 263 ∨ a_ = 264 ∨ a_ = 265) mm28 mm28 ∧ Ot k mm28 mm28 ∧ (∀ r, r < 8 → ∀ c, c < 8 → mm28 263 (64 * k + 8 * r + c) = ob1 n (fun z w => m 263 (64 * s + 8 * z + w)) (fun z => m 264 (8 * s + z)) (fun z => av n (fun z w => m 263 (64 * s + 8 * z + w)) (fun z => m 267 (0 + z)) x n z) (0) r c) ∧ ∀ r, r < 8 → mm28 264 (8 * k + r) = (if r < 0 then m 264 (8 * s + r) else if n ≤ r ∧ r < n + 0 then m 264 (8 * s + (r - n)) else 0) ∧ mm28 265 (8 * k + r) = if r < 0 then m 265 (8 * s + r) else 0 := by
                      refine ⟨Fr_rfl, Ot_rfl, fun r hr c hc => ?_, fun r hr => ?_⟩
                      · rw [hF30 263 (by omega), hA27, if_pos (by omega)]
                        unfold ob1
                        rw [if_neg (by omega), if_neg (by omega)]
                      · refine ⟨?_, ?_⟩
                        · rw [hF30 264 (by omega), hb27, if_pos (by omega), if_neg (by omega), if_neg (by omega)]
                        · rw [hF30 265 (by omega), hc27, if_pos (by omega), if_neg (by omega)]
                    exact rw_cast (hL120 0 (by omega) mm28 none none hA82) (lcons rfl (lcons rfl (lcons rfl (lcons rfl (lcons rfl (lcons (lvI (by omega)) (lcons rfl (lcons rfl rfl)))))))) rfl
                  · exfalso; omega
              · exfalso; omega
theorem c_X10_joinedS {d : Nat} {S : MC} {fz : Bool} {m : M1} {p : M2} (hd : 7 ≤ d) (s : Int) (k : Nat) (hP : PI p) (hk : m 261 0 = nF k) (hk12 : k ≤ 12) (hr : (-2147483648 ≤ s ∧ s < 2147483648)) (h : ¬ (0 ≤ s ∧ s < k)) : Ct d k_X10_joined S fz [.ref (261), .int (iI (s))] m p (fun v m' p' => v = some (.int (iI (0))) ∧ p = p' ∧ QMx 1 m m') := by
  obtain ⟨d, rfl⟩ : ∃ e, d = e + 1 := ⟨d - 1, by omega⟩
  refine ct_go (lv := [some (.ref (261)), some (.int (iI (s))), none, none, none, none, none, none]) (Nat.le_of_ble_eq_true rfl) (okar_cons rfl (okar_cons rfl okar_nil)) rfl (fun Qr hQ => ?_)
  refine rw_blk lk_X10_joined_0 ?_
  refine rw_of (fun rr hrr => q_aload_n rfl (q_iload_n rfl hrr)) ?_
  obtain ⟨_, mm1, pp2, hV3, rfl, rfl, rfl⟩ := c_X10_isSystem0 (S := S) (fz := fz) (m := m) (p := p) (d := d) (by omega) (s) (k) hP hk (by omega) (by omega) (by omega)
  refine rw_of (fun rr hrr => q_invV hV3 (show SH 261 = (18, 0) from rfl) rfl rfl (okar_cons rfl okar_nil) (Nat.le_of_ble_eq_true rfl) hrr) ?_
  refine rw_if_eq ⟨by omega, by omega⟩ (t := 56) rfl (fun hc4 => ?_) (fun hc4 => ?_)
  · skip
    refine rw_blk lk_X10_joined_56 ?_
    refine rw_of (fun rr hrr => q_iconst hrr) ?_
    refine rw_blk lk_X10_joined_57 ?_
    refine rw_of (fun rr hrr => q_istore_n (Nat.le_of_ble_eq_true rfl) rfl (q_aload_n rfl (q_aload_n rfl (q_iload_n rfl hrr)))) ?_
    obtain ⟨_, mm5, pp6, hV7, rfl, rfl, rfl⟩ := c_X10_isSystem0 (S := S) (fz := fz) (m := m) (p := p) (d := d) (by omega) (s) (k) hP hk (by omega) (by omega) (by omega)
    refine rw_of (fun rr hrr => q_invV hV7 (show SH 261 = (18, 0) from rfl) rfl rfl (okar_cons rfl okar_nil) (Nat.le_of_ble_eq_true rfl) hrr) ?_
    refine rw_if_ne ⟨by omega, by omega⟩ (t := 71) rfl (fun hc8 => ?_) (fun hc8 => ?_)
    · exfalso; omega
    · skip
      refine rw_of (fun rr hrr => q_iconst (q_goto (t := 80) rfl hrr)) ?_
      refine rw_blk lk_X10_joined_80 ?_
      obtain ⟨_, mm9, pp10, hV11, rfl, rfl, hw11, hF11⟩ := c_X10_fails1 (S := S) (fz := fz) (m := m) (p := p) (d := d) (by omega) (1) hP (by omega)
      refine rw_of (fun rr hrr => q_invV hV11 (show SH 261 = (18, 0) from rfl) rfl rfl (okar_cons rfl okar_nil) (Nat.le_of_ble_eq_true rfl) hrr) ?_
      refine rw_if_eq ⟨by omega, by omega⟩ (t := 88) rfl (fun hc12 => ?_) (fun hc12 => ?_)
      · exfalso; omega
      · skip
        refine rw_of (fun rr hrr => q_iconst hrr) ?_
        refine rw_ret hQ (q_ireturn (Or.inl rfl)) ?_
        first
          | exact ⟨rfl, rfl, QMx_w hw11 rfl⟩
          | (exfalso; omega)
        
  · exfalso; omega
theorem c_X10_joinedO {d : Nat} {S : MC} {fz : Bool} {m : M1} {p : M2} (hd : 7 ≤ d) (s k n : Nat) (hP : PI p) (hk : m 261 0 = nF k) (hk12 : k ≤ 12) (hsk : s < k) (hm : m 262 s = nF n) (hn0 : 1 ≤ n) (hn : n ≤ 8) (hn4 : 4 < n) : Ct d k_X10_joined S fz [.ref (261), .int (iI (((s : Nat) : Int)))] m p (fun v m' p' => v = some (.int (iI (0))) ∧ p = p' ∧ QMx 2 m m') := by
  obtain ⟨d, rfl⟩ : ∃ e, d = e + 1 := ⟨d - 1, by omega⟩
  refine ct_go (lv := [some (.ref (261)), some (.int (iI (((s : Nat) : Int)))), none, none, none, none, none, none]) (Nat.le_of_ble_eq_true rfl) (okar_cons rfl (okar_cons rfl okar_nil)) rfl (fun Qr hQ => ?_)
  refine rw_blk lk_X10_joined_0 ?_
  refine rw_of (fun rr hrr => q_aload_n rfl (q_iload_n rfl hrr)) ?_
  obtain ⟨_, mm1, pp2, hV3, rfl, rfl, rfl⟩ := c_X10_isSystem1 (S := S) (fz := fz) (m := m) (p := p) (d := d) (by omega) (((s : Nat) : Int)) (k) hP hk (by omega) (by omega) (by omega)
  refine rw_of (fun rr hrr => q_invV hV3 (show SH 261 = (18, 0) from rfl) rfl rfl (okar_cons rfl okar_nil) (Nat.le_of_ble_eq_true rfl) hrr) ?_
  refine rw_if_eq ⟨by omega, by omega⟩ (t := 56) rfl (fun hc4 => ?_) (fun hc4 => ?_)
  · exfalso; omega
  · skip
    refine rw_of (fun rr hrr => q_aload_n rfl (q_getR (show SH 261 = (18, 0) from rfl) rfl (pt_261_1 hP) (q_iload_n rfl (q_iald (j := s) (show SH 262 = (1, 13) from rfl) rfl (by omega) (ki rfl hm (by omega)) (q_iconst hrr))))) ?_
    refine rw_icmp_ge ⟨by omega, by omega⟩ ⟨by omega, by omega⟩ (t := 56) rfl (fun hc5 => ?_) (fun hc5 => ?_)
    · skip
      refine rw_blk lk_X10_joined_56 ?_
      refine rw_of (fun rr hrr => q_iconst hrr) ?_
      refine rw_blk lk_X10_joined_57 ?_
      refine rw_of (fun rr hrr => q_istore_n (Nat.le_of_ble_eq_true rfl) rfl (q_aload_n rfl (q_aload_n rfl (q_iload_n rfl hrr)))) ?_
      obtain ⟨_, mm6, pp7, hV8, rfl, rfl, rfl⟩ := c_X10_isSystem1 (S := S) (fz := fz) (m := m) (p := p) (d := d) (by omega) (((s : Nat) : Int)) (k) hP hk (by omega) (by omega) (by omega)
      refine rw_of (fun rr hrr => q_invV hV8 (show SH 261 = (18, 0) from rfl) rfl rfl (okar_cons rfl okar_nil) (Nat.le_of_ble_eq_true rfl) hrr) ?_
      refine rw_if_ne ⟨by omega, by omega⟩ (t := 71) rfl (fun hc9 => ?_) (fun hc9 => ?_)
      · skip
        refine rw_blk lk_X10_joined_71 ?_
        refine rw_of (fun rr hrr => q_iload_n rfl hrr) ?_
        refine rw_if_eq ⟨by omega, by omega⟩ (t := 79) rfl (fun hc10 => ?_) (fun hc10 => ?_)
        · skip
          refine rw_blk lk_X10_joined_79 ?_
          refine rw_of (fun rr hrr => q_iconst hrr) ?_
          refine rw_blk lk_X10_joined_80 ?_
          obtain ⟨_, mm11, pp12, hV13, rfl, rfl, hw13, hF13⟩ := c_X10_fails1 (S := S) (fz := fz) (m := m) (p := p) (d := d) (by omega) (2) hP (by omega)
          refine rw_of (fun rr hrr => q_invV hV13 (show SH 261 = (18, 0) from rfl) rfl rfl (okar_cons rfl okar_nil) (Nat.le_of_ble_eq_true rfl) hrr) ?_
          refine rw_if_eq ⟨by omega, by omega⟩ (t := 88) rfl (fun hc14 => ?_) (fun hc14 => ?_)
          · exfalso; omega
          · skip
            refine rw_of (fun rr hrr => q_iconst hrr) ?_
            refine rw_ret hQ (q_ireturn (Or.inl rfl)) ?_
            first
              | exact ⟨rfl, rfl, QMx_w hw13 rfl⟩
              | (exfalso; omega)
            
        · exfalso; omega
      · exfalso; omega
    · exfalso; omega
theorem c_X10_joinedD {d : Nat} {S : MC} {fz : Bool} {m : M1} {p : M2} (hd : 7 ≤ d) (s k n : Nat) (hP : PI p) (hk : m 261 0 = nF k) (hk12 : k ≤ 12) (hsk : s < k) (hm : m 262 s = nF n) (hn0 : 1 ≤ n) (hn : n ≤ 8) (hn4 : n ≤ 4) (hd0 : m 266 s ≠ 0) : Ct d k_X10_joined S fz [.ref (261), .int (iI (((s : Nat) : Int)))] m p (fun v m' p' => v = some (.int (iI (0))) ∧ p = p' ∧ QMx 2 m m') := by
  obtain ⟨d, rfl⟩ : ∃ e, d = e + 1 := ⟨d - 1, by omega⟩
  refine ct_go (lv := [some (.ref (261)), some (.int (iI (((s : Nat) : Int)))), none, none, none, none, none, none]) (Nat.le_of_ble_eq_true rfl) (okar_cons rfl (okar_cons rfl okar_nil)) rfl (fun Qr hQ => ?_)
  refine rw_blk lk_X10_joined_0 ?_
  refine rw_of (fun rr hrr => q_aload_n rfl (q_iload_n rfl hrr)) ?_
  obtain ⟨_, mm1, pp2, hV3, rfl, rfl, rfl⟩ := c_X10_isSystem1 (S := S) (fz := fz) (m := m) (p := p) (d := d) (by omega) (((s : Nat) : Int)) (k) hP hk (by omega) (by omega) (by omega)
  refine rw_of (fun rr hrr => q_invV hV3 (show SH 261 = (18, 0) from rfl) rfl rfl (okar_cons rfl okar_nil) (Nat.le_of_ble_eq_true rfl) hrr) ?_
  refine rw_if_eq ⟨by omega, by omega⟩ (t := 56) rfl (fun hc4 => ?_) (fun hc4 => ?_)
  · exfalso; omega
  · skip
    refine rw_of (fun rr hrr => q_aload_n rfl (q_getR (show SH 261 = (18, 0) from rfl) rfl (pt_261_1 hP) (q_iload_n rfl (q_iald (j := s) (show SH 262 = (1, 13) from rfl) rfl (by omega) (ki rfl hm (by omega)) (q_iconst hrr))))) ?_
    refine rw_icmp_ge ⟨by omega, by omega⟩ ⟨by omega, by omega⟩ (t := 56) rfl (fun hc5 => ?_) (fun hc5 => ?_)
    · exfalso; omega
    · skip
      refine rw_of (fun rr hrr => q_aload_n rfl (q_getR (show SH 261 = (18, 0) from rfl) rfl (pt_261_5 hP) (q_iload_n rfl (q_iald (j := s) (show SH 266 = (1, 13) from rfl) rfl (by omega) rfl hrr)))) ?_
      refine rw_if_ne (rg_vF _) (t := 56) rfl (fun hc6 => ?_) (fun hc6 => ?_)
      · skip
        refine rw_blk lk_X10_joined_56 ?_
        refine rw_of (fun rr hrr => q_iconst hrr) ?_
        refine rw_blk lk_X10_joined_57 ?_
        refine rw_of (fun rr hrr => q_istore_n (Nat.le_of_ble_eq_true rfl) rfl (q_aload_n rfl (q_aload_n rfl (q_iload_n rfl hrr)))) ?_
        obtain ⟨_, mm7, pp8, hV9, rfl, rfl, rfl⟩ := c_X10_isSystem1 (S := S) (fz := fz) (m := m) (p := p) (d := d) (by omega) (((s : Nat) : Int)) (k) hP hk (by omega) (by omega) (by omega)
        refine rw_of (fun rr hrr => q_invV hV9 (show SH 261 = (18, 0) from rfl) rfl rfl (okar_cons rfl okar_nil) (Nat.le_of_ble_eq_true rfl) hrr) ?_
        refine rw_if_ne ⟨by omega, by omega⟩ (t := 71) rfl (fun hc10 => ?_) (fun hc10 => ?_)
        · skip
          refine rw_blk lk_X10_joined_71 ?_
          refine rw_of (fun rr hrr => q_iload_n rfl hrr) ?_
          refine rw_if_eq ⟨by omega, by omega⟩ (t := 79) rfl (fun hc11 => ?_) (fun hc11 => ?_)
          · skip
            refine rw_blk lk_X10_joined_79 ?_
            refine rw_of (fun rr hrr => q_iconst hrr) ?_
            refine rw_blk lk_X10_joined_80 ?_
            obtain ⟨_, mm12, pp13, hV14, rfl, rfl, hw14, hF14⟩ := c_X10_fails1 (S := S) (fz := fz) (m := m) (p := p) (d := d) (by omega) (2) hP (by omega)
            refine rw_of (fun rr hrr => q_invV hV14 (show SH 261 = (18, 0) from rfl) rfl rfl (okar_cons rfl okar_nil) (Nat.le_of_ble_eq_true rfl) hrr) ?_
            refine rw_if_eq ⟨by omega, by omega⟩ (t := 88) rfl (fun hc15 => ?_) (fun hc15 => ?_)
            · exfalso; omega
            · skip
              refine rw_of (fun rr hrr => q_iconst hrr) ?_
              refine rw_ret hQ (q_ireturn (Or.inl rfl)) ?_
              first
                | exact ⟨rfl, rfl, QMx_w hw14 rfl⟩
                | (exfalso; omega)
              
          · exfalso; omega
        · exfalso; omega
      · exact absurd (vF_eq0.mp hc6) hd0
theorem c_X10_joinedC {d : Nat} {S : MC} {fz : Bool} {m : M1} {p : M2} (hd : 7 ≤ d) (s k n cp : Nat) (hP : PI p) (hk : m 261 0 = nF k) (hk12 : k ≤ 12) (hsk : s < k) (hm : m 262 s = nF n) (hn0 : 1 ≤ n) (hn : n ≤ 8) (hcp : m 261 6 = nF cp) (hcpl : cp ≤ 16) (hn4 : n ≤ 4) (hd0 : m 266 s = 0) (h : cp < n ∨ rk n (kr n (fun z w => m 263 (64 * s + 8 * z + w)) (fun z => m 264 (8 * s + z))) ≠ n) : Ct d k_X10_joined S fz [.ref (261), .int (iI (((s : Nat) : Int)))] m p (fun v m' p' => v = some (.int (iI (0))) ∧ p = p' ∧ QMx 2 m m') := by
  obtain ⟨d, rfl⟩ : ∃ e, d = e + 1 := ⟨d - 1, by omega⟩
  refine ct_go (lv := [some (.ref (261)), some (.int (iI (((s : Nat) : Int)))), none, none, none, none, none, none]) (Nat.le_of_ble_eq_true rfl) (okar_cons rfl (okar_cons rfl okar_nil)) rfl (fun Qr hQ => ?_)
  refine rw_blk lk_X10_joined_0 ?_
  refine rw_of (fun rr hrr => q_aload_n rfl (q_iload_n rfl hrr)) ?_
  obtain ⟨_, mm1, pp2, hV3, rfl, rfl, rfl⟩ := c_X10_isSystem1 (S := S) (fz := fz) (m := m) (p := p) (d := d) (by omega) (((s : Nat) : Int)) (k) hP hk (by omega) (by omega) (by omega)
  refine rw_of (fun rr hrr => q_invV hV3 (show SH 261 = (18, 0) from rfl) rfl rfl (okar_cons rfl okar_nil) (Nat.le_of_ble_eq_true rfl) hrr) ?_
  refine rw_if_eq ⟨by omega, by omega⟩ (t := 56) rfl (fun hc4 => ?_) (fun hc4 => ?_)
  · exfalso; omega
  · skip
    refine rw_of (fun rr hrr => q_aload_n rfl (q_getR (show SH 261 = (18, 0) from rfl) rfl (pt_261_1 hP) (q_iload_n rfl (q_iald (j := s) (show SH 262 = (1, 13) from rfl) rfl (by omega) (ki rfl hm (by omega)) (q_iconst hrr))))) ?_
    refine rw_icmp_ge ⟨by omega, by omega⟩ ⟨by omega, by omega⟩ (t := 56) rfl (fun hc5 => ?_) (fun hc5 => ?_)
    · exfalso; omega
    · skip
      refine rw_of (fun rr hrr => q_aload_n rfl (q_getR (show SH 261 = (18, 0) from rfl) rfl (pt_261_5 hP) (q_iload_n rfl (q_iald (j := s) (show SH 266 = (1, 13) from rfl) rfl (by omega) rfl hrr)))) ?_
      refine rw_if_ne (rg_vF _) (t := 56) rfl (fun hc6 => ?_) (fun hc6 => ?_)
      · exact absurd (vF_eq0.mpr hd0) hc6
      · skip
        refine rw_of (fun rr hrr => q_aload_n rfl (q_iload_n rfl hrr)) ?_
        obtain ⟨_, mm7, pp8, hV9, rfl, rfl, hF9⟩ := c_X10_canPlace0 (S := S) (fz := fz) (m := m) (p := p) (d := d) (by omega) (s) (n) (cp) hP hm (by omega) (by omega) (by omega) hcp (by omega) (h)
        refine rw_of (fun rr hrr => q_invV hV9 (show SH 261 = (18, 0) from rfl) rfl rfl (okar_cons rfl okar_nil) (Nat.le_of_ble_eq_true rfl) hrr) ?_
        refine rw_if_eq ⟨by omega, by omega⟩ (t := 56) rfl (fun hc10 => ?_) (fun hc10 => ?_)
        · skip
          refine rw_blk lk_X10_joined_56 ?_
          refine rw_of (fun rr hrr => q_iconst hrr) ?_
          refine rw_blk lk_X10_joined_57 ?_
          refine rw_of (fun rr hrr => q_istore_n (Nat.le_of_ble_eq_true rfl) rfl (q_aload_n rfl (q_aload_n rfl (q_iload_n rfl hrr)))) ?_
          obtain ⟨_, mm11, pp12, hV13, rfl, rfl, rfl⟩ := c_X10_isSystem1 (S := S) (fz := fz) (m := mm7) (p := p) (d := d) (by omega) (((s : Nat) : Int)) (k) hP ((congrFun (hF9 261 (by show ¬ (271 ≤ 261 ∧ 261 < 274); omega)) 0).trans hk) (by omega) (by omega) (by omega)
          refine rw_of (fun rr hrr => q_invV hV13 (show SH 261 = (18, 0) from rfl) rfl rfl (okar_cons rfl okar_nil) (Nat.le_of_ble_eq_true rfl) hrr) ?_
          refine rw_if_ne ⟨by omega, by omega⟩ (t := 71) rfl (fun hc14 => ?_) (fun hc14 => ?_)
          · skip
            refine rw_blk lk_X10_joined_71 ?_
            refine rw_of (fun rr hrr => q_iload_n rfl hrr) ?_
            refine rw_if_eq ⟨by omega, by omega⟩ (t := 79) rfl (fun hc15 => ?_) (fun hc15 => ?_)
            · skip
              refine rw_blk lk_X10_joined_79 ?_
              refine rw_of (fun rr hrr => q_iconst hrr) ?_
              refine rw_blk lk_X10_joined_80 ?_
              obtain ⟨_, mm16, pp17, hV18, rfl, rfl, hw18, hF18⟩ := c_X10_fails1 (S := S) (fz := fz) (m := mm7) (p := p) (d := d) (by omega) (2) hP (by omega)
              refine rw_of (fun rr hrr => q_invV hV18 (show SH 261 = (18, 0) from rfl) rfl rfl (okar_cons rfl okar_nil) (Nat.le_of_ble_eq_true rfl) hrr) ?_
              refine rw_if_eq ⟨by omega, by omega⟩ (t := 88) rfl (fun hc19 => ?_) (fun hc19 => ?_)
              · exfalso; omega
              · skip
                refine rw_of (fun rr hrr => q_iconst hrr) ?_
                exact rw_ret hQ (q_ireturn (Or.inl rfl)) (by exact ⟨rfl, rfl, QMx_pre hF9 (fun a ha => by omega) (QMx_w hw18 rfl)⟩)
            · exfalso; omega
          · exfalso; omega
        · exfalso; omega
theorem c_X10_joinedE {d : Nat} {S : MC} {fz : Bool} {m : M1} {p : M2} (hd : 7 ≤ d) (s k n cp : Nat) (hP : PI p) (hk : m 261 0 = nF k) (hk12 : k ≤ 12) (hsk : s < k) (hm : m 262 s = nF n) (hn0 : 1 ≤ n) (hn : n ≤ 8) (hcp : m 261 6 = nF cp) (hcpl : cp ≤ 16) (hn4 : n ≤ 4) (hd0 : m 266 s = 0) (h : n ≤ cp ∧ rk n (kr n (fun z w => m 263 (64 * s + 8 * z + w)) (fun z => m 264 (8 * s + z))) = n) (h2 : cp < 2 * n ∨ rk n (kr n (fun z w => m 263 (64 * s + 8 * w + z)) (fun z => m 265 (8 * s + z))) ≠ n) : Ct d k_X10_joined S fz [.ref (261), .int (iI (((s : Nat) : Int)))] m p (fun v m' p' => v = some (.int (iI (0))) ∧ p = p' ∧ QMx 2 m m') := by
  obtain ⟨d, rfl⟩ : ∃ e, d = e + 1 := ⟨d - 1, by omega⟩
  refine ct_go (lv := [some (.ref (261)), some (.int (iI (((s : Nat) : Int)))), none, none, none, none, none, none]) (Nat.le_of_ble_eq_true rfl) (okar_cons rfl (okar_cons rfl okar_nil)) rfl (fun Qr hQ => ?_)
  refine rw_blk lk_X10_joined_0 ?_
  refine rw_of (fun rr hrr => q_aload_n rfl (q_iload_n rfl hrr)) ?_
  obtain ⟨_, mm1, pp2, hV3, rfl, rfl, rfl⟩ := c_X10_isSystem1 (S := S) (fz := fz) (m := m) (p := p) (d := d) (by omega) (((s : Nat) : Int)) (k) hP hk (by omega) (by omega) (by omega)
  refine rw_of (fun rr hrr => q_invV hV3 (show SH 261 = (18, 0) from rfl) rfl rfl (okar_cons rfl okar_nil) (Nat.le_of_ble_eq_true rfl) hrr) ?_
  refine rw_if_eq ⟨by omega, by omega⟩ (t := 56) rfl (fun hc4 => ?_) (fun hc4 => ?_)
  · exfalso; omega
  · skip
    refine rw_of (fun rr hrr => q_aload_n rfl (q_getR (show SH 261 = (18, 0) from rfl) rfl (pt_261_1 hP) (q_iload_n rfl (q_iald (j := s) (show SH 262 = (1, 13) from rfl) rfl (by omega) (ki rfl hm (by omega)) (q_iconst hrr))))) ?_
    refine rw_icmp_ge ⟨by omega, by omega⟩ ⟨by omega, by omega⟩ (t := 56) rfl (fun hc5 => ?_) (fun hc5 => ?_)
    · exfalso; omega
    · skip
      refine rw_of (fun rr hrr => q_aload_n rfl (q_getR (show SH 261 = (18, 0) from rfl) rfl (pt_261_5 hP) (q_iload_n rfl (q_iald (j := s) (show SH 266 = (1, 13) from rfl) rfl (by omega) rfl hrr)))) ?_
      refine rw_if_ne (rg_vF _) (t := 56) rfl (fun hc6 => ?_) (fun hc6 => ?_)
      · exact absurd (vF_eq0.mpr hd0) hc6
      · skip
        refine rw_of (fun rr hrr => q_aload_n rfl (q_iload_n rfl hrr)) ?_
        obtain ⟨_, mm7, pp8, hV9, rfl, rfl, hF9⟩ := c_X10_canPlace1 (S := S) (fz := fz) (m := m) (p := p) (d := d) (by omega) (s) (n) (cp) hP hm (by omega) (by omega) (by omega) hcp (by omega) (h)
        refine rw_of (fun rr hrr => q_invV hV9 (show SH 261 = (18, 0) from rfl) rfl rfl (okar_cons rfl okar_nil) (Nat.le_of_ble_eq_true rfl) hrr) ?_
        refine rw_if_eq ⟨by omega, by omega⟩ (t := 56) rfl (fun hc10 => ?_) (fun hc10 => ?_)
        · exfalso; omega
        · skip
          refine rw_of (fun rr hrr => q_aload_n rfl (q_iload_n rfl hrr)) ?_
          obtain ⟨_, mm11, pp12, hV13, rfl, rfl, hF13⟩ := c_X10_canSee0 (S := S) (fz := fz) (m := mm7) (p := p) (d := d) (by omega) (s) (n) (cp) hP ((congrFun (hF9 262 (by show ¬ (271 ≤ 262 ∧ 262 < 274); omega)) s).trans hm) (by omega) (by omega) (by omega) ((congrFun (hF9 261 (by show ¬ (271 ≤ 261 ∧ 261 < 274); omega)) 6).trans hcp) (by omega) (by rw [hF9 263 (by omega), hF9 265 (by omega)]; exact h2)
          refine rw_of (fun rr hrr => q_invV hV13 (show SH 261 = (18, 0) from rfl) rfl rfl (okar_cons rfl okar_nil) (Nat.le_of_ble_eq_true rfl) hrr) ?_
          refine rw_if_eq ⟨by omega, by omega⟩ (t := 56) rfl (fun hc14 => ?_) (fun hc14 => ?_)
          · skip
            refine rw_blk lk_X10_joined_56 ?_
            refine rw_of (fun rr hrr => q_iconst hrr) ?_
            refine rw_blk lk_X10_joined_57 ?_
            refine rw_of (fun rr hrr => q_istore_n (Nat.le_of_ble_eq_true rfl) rfl (q_aload_n rfl (q_aload_n rfl (q_iload_n rfl hrr)))) ?_
            obtain ⟨_, mm15, pp16, hV17, rfl, rfl, rfl⟩ := c_X10_isSystem1 (S := S) (fz := fz) (m := mm11) (p := p) (d := d) (by omega) (((s : Nat) : Int)) (k) hP ((congrFun ((hF13 261 (by show ¬ (271 ≤ 261 ∧ 261 < 274); omega)).trans (hF9 261 (by show ¬ (271 ≤ 261 ∧ 261 < 274); omega))) 0).trans hk) (by omega) (by omega) (by omega)
            refine rw_of (fun rr hrr => q_invV hV17 (show SH 261 = (18, 0) from rfl) rfl rfl (okar_cons rfl okar_nil) (Nat.le_of_ble_eq_true rfl) hrr) ?_
            refine rw_if_ne ⟨by omega, by omega⟩ (t := 71) rfl (fun hc18 => ?_) (fun hc18 => ?_)
            · skip
              refine rw_blk lk_X10_joined_71 ?_
              refine rw_of (fun rr hrr => q_iload_n rfl hrr) ?_
              refine rw_if_eq ⟨by omega, by omega⟩ (t := 79) rfl (fun hc19 => ?_) (fun hc19 => ?_)
              · skip
                refine rw_blk lk_X10_joined_79 ?_
                refine rw_of (fun rr hrr => q_iconst hrr) ?_
                refine rw_blk lk_X10_joined_80 ?_
                obtain ⟨_, mm20, pp21, hV22, rfl, rfl, hw22, hF22⟩ := c_X10_fails1 (S := S) (fz := fz) (m := mm11) (p := p) (d := d) (by omega) (2) hP (by omega)
                refine rw_of (fun rr hrr => q_invV hV22 (show SH 261 = (18, 0) from rfl) rfl rfl (okar_cons rfl okar_nil) (Nat.le_of_ble_eq_true rfl) hrr) ?_
                refine rw_if_eq ⟨by omega, by omega⟩ (t := 88) rfl (fun hc23 => ?_) (fun hc23 => ?_)
                · exfalso; omega
                · skip
                  refine rw_of (fun rr hrr => q_iconst hrr) ?_
                  exact rw_ret hQ (q_ireturn (Or.inl rfl)) (by exact ⟨rfl, rfl, QMx_pre (Fr_trans hF9 hF13) (fun a (ha : 271 ≤ a ∧ a < 274) => by omega) (QMx_w hw22 rfl)⟩)
              · exfalso; omega
            · exfalso; omega
          · exfalso; omega
theorem c_X10_joinedF {d : Nat} {S : MC} {fz : Bool} {m : M1} {p : M2} (hd : 7 ≤ d) (s k n cp : Nat) (hP : PI p) (hk : m 261 0 = nF k) (hk12 : k ≤ 12) (hsk : s < k) (hm : m 262 s = nF n) (hn0 : 1 ≤ n) (hn : n ≤ 8) (hcp : m 261 6 = nF cp) (hcpl : cp ≤ 16) (hn4 : n ≤ 4) (hd0 : m 266 s = 0) (h : n ≤ cp ∧ rk n (kr n (fun z w => m 263 (64 * s + 8 * z + w)) (fun z => m 264 (8 * s + z))) = n) (h2 : 2 * n ≤ cp ∧ rk n (kr n (fun z w => m 263 (64 * s + 8 * w + z)) (fun z => m 265 (8 * s + z))) = n) (hk1 : k = 12) : Ct d k_X10_joined S fz [.ref (261), .int (iI (((s : Nat) : Int)))] m p (fun v m' p' => v = some (.int (iI (0))) ∧ p = p' ∧ QMx 2 m m') := by
  obtain ⟨d, rfl⟩ : ∃ e, d = e + 1 := ⟨d - 1, by omega⟩
  refine ct_go (lv := [some (.ref (261)), some (.int (iI (((s : Nat) : Int)))), none, none, none, none, none, none]) (Nat.le_of_ble_eq_true rfl) (okar_cons rfl (okar_cons rfl okar_nil)) rfl (fun Qr hQ => ?_)
  refine rw_blk lk_X10_joined_0 ?_
  refine rw_of (fun rr hrr => q_aload_n rfl (q_iload_n rfl hrr)) ?_
  obtain ⟨_, mm1, pp2, hV3, rfl, rfl, rfl⟩ := c_X10_isSystem1 (S := S) (fz := fz) (m := m) (p := p) (d := d) (by omega) (((s : Nat) : Int)) (k) hP hk (by omega) (by omega) (by omega)
  refine rw_of (fun rr hrr => q_invV hV3 (show SH 261 = (18, 0) from rfl) rfl rfl (okar_cons rfl okar_nil) (Nat.le_of_ble_eq_true rfl) hrr) ?_
  refine rw_if_eq ⟨by omega, by omega⟩ (t := 56) rfl (fun hc4 => ?_) (fun hc4 => ?_)
  · exfalso; omega
  · skip
    refine rw_of (fun rr hrr => q_aload_n rfl (q_getR (show SH 261 = (18, 0) from rfl) rfl (pt_261_1 hP) (q_iload_n rfl (q_iald (j := s) (show SH 262 = (1, 13) from rfl) rfl (by omega) (ki rfl hm (by omega)) (q_iconst hrr))))) ?_
    refine rw_icmp_ge ⟨by omega, by omega⟩ ⟨by omega, by omega⟩ (t := 56) rfl (fun hc5 => ?_) (fun hc5 => ?_)
    · exfalso; omega
    · skip
      refine rw_of (fun rr hrr => q_aload_n rfl (q_getR (show SH 261 = (18, 0) from rfl) rfl (pt_261_5 hP) (q_iload_n rfl (q_iald (j := s) (show SH 266 = (1, 13) from rfl) rfl (by omega) rfl hrr)))) ?_
      refine rw_if_ne (rg_vF _) (t := 56) rfl (fun hc6 => ?_) (fun hc6 => ?_)
      · exact absurd (vF_eq0.mpr hd0) hc6
      · skip
        refine rw_of (fun rr hrr => q_aload_n rfl (q_iload_n rfl hrr)) ?_
        obtain ⟨_, mm7, pp8, hV9, rfl, rfl, hF9⟩ := c_X10_canPlace1 (S := S) (fz := fz) (m := m) (p := p) (d := d) (by omega) (s) (n) (cp) hP hm (by omega) (by omega) (by omega) hcp (by omega) (h)
        refine rw_of (fun rr hrr => q_invV hV9 (show SH 261 = (18, 0) from rfl) rfl rfl (okar_cons rfl okar_nil) (Nat.le_of_ble_eq_true rfl) hrr) ?_
        refine rw_if_eq ⟨by omega, by omega⟩ (t := 56) rfl (fun hc10 => ?_) (fun hc10 => ?_)
        · exfalso; omega
        · skip
          refine rw_of (fun rr hrr => q_aload_n rfl (q_iload_n rfl hrr)) ?_
          obtain ⟨_, mm11, pp12, hV13, rfl, rfl, hF13⟩ := c_X10_canSee1 (S := S) (fz := fz) (m := mm7) (p := p) (d := d) (by omega) (s) (n) (cp) hP ((congrFun (hF9 262 (by show ¬ (271 ≤ 262 ∧ 262 < 274); omega)) s).trans hm) (by omega) (by omega) (by omega) ((congrFun (hF9 261 (by show ¬ (271 ≤ 261 ∧ 261 < 274); omega)) 6).trans hcp) (by omega) (by rw [hF9 263 (by omega), hF9 265 (by omega)]; exact h2)
          refine rw_of (fun rr hrr => q_invV hV13 (show SH 261 = (18, 0) from rfl) rfl rfl (okar_cons rfl okar_nil) (Nat.le_of_ble_eq_true rfl) hrr) ?_
          refine rw_if_eq ⟨by omega, by omega⟩ (t := 56) rfl (fun hc14 => ?_) (fun hc14 => ?_)
          · exfalso; omega
          · skip
            refine rw_of (fun rr hrr => q_aload_n rfl (q_getI (show SH 261 = (18, 0) from rfl) rfl (ki ((hF13 261 (by show ¬ (271 ≤ 261 ∧ 261 < 274); omega)).trans (hF9 261 (by show ¬ (271 ≤ 261 ∧ 261 < 274); omega))) hk (by omega)) (q_bipush rfl hrr))) ?_
            refine rw_icmp_ge ⟨by omega, by omega⟩ ⟨by omega, by omega⟩ (t := 56) rfl (fun hc15 => ?_) (fun hc15 => ?_)
            · skip
              refine rw_blk lk_X10_joined_56 ?_
              refine rw_of (fun rr hrr => q_iconst hrr) ?_
              refine rw_blk lk_X10_joined_57 ?_
              refine rw_of (fun rr hrr => q_istore_n (Nat.le_of_ble_eq_true rfl) rfl (q_aload_n rfl (q_aload_n rfl (q_iload_n rfl hrr)))) ?_
              obtain ⟨_, mm16, pp17, hV18, rfl, rfl, rfl⟩ := c_X10_isSystem1 (S := S) (fz := fz) (m := mm11) (p := p) (d := d) (by omega) (((s : Nat) : Int)) (k) hP ((congrFun ((hF13 261 (by show ¬ (271 ≤ 261 ∧ 261 < 274); omega)).trans (hF9 261 (by show ¬ (271 ≤ 261 ∧ 261 < 274); omega))) 0).trans hk) (by omega) (by omega) (by omega)
              refine rw_of (fun rr hrr => q_invV hV18 (show SH 261 = (18, 0) from rfl) rfl rfl (okar_cons rfl okar_nil) (Nat.le_of_ble_eq_true rfl) hrr) ?_
              refine rw_if_ne ⟨by omega, by omega⟩ (t := 71) rfl (fun hc19 => ?_) (fun hc19 => ?_)
              · skip
                refine rw_blk lk_X10_joined_71 ?_
                refine rw_of (fun rr hrr => q_iload_n rfl hrr) ?_
                refine rw_if_eq ⟨by omega, by omega⟩ (t := 79) rfl (fun hc20 => ?_) (fun hc20 => ?_)
                · skip
                  refine rw_blk lk_X10_joined_79 ?_
                  refine rw_of (fun rr hrr => q_iconst hrr) ?_
                  refine rw_blk lk_X10_joined_80 ?_
                  obtain ⟨_, mm21, pp22, hV23, rfl, rfl, hw23, hF23⟩ := c_X10_fails1 (S := S) (fz := fz) (m := mm11) (p := p) (d := d) (by omega) (2) hP (by omega)
                  refine rw_of (fun rr hrr => q_invV hV23 (show SH 261 = (18, 0) from rfl) rfl rfl (okar_cons rfl okar_nil) (Nat.le_of_ble_eq_true rfl) hrr) ?_
                  refine rw_if_eq ⟨by omega, by omega⟩ (t := 88) rfl (fun hc24 => ?_) (fun hc24 => ?_)
                  · exfalso; omega
                  · skip
                    refine rw_of (fun rr hrr => q_iconst hrr) ?_
                    exact rw_ret hQ (q_ireturn (Or.inl rfl)) (by exact ⟨rfl, rfl, QMx_pre (Fr_trans hF9 hF13) (fun a (ha : 271 ≤ a ∧ a < 274) => by omega) (QMx_w hw23 rfl)⟩)
                · exfalso; omega
              · exfalso; omega
            · exfalso; omega
