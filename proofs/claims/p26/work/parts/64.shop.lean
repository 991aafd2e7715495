theorem c_X9_joined {d : Nat} {S : Env} {fz : Bool} {m : M1} {p : M2} (hd : 8 ≤ d) (s k n cp : Nat) (hP : PI p) (hk : m 1 1 = nF k) (hk12 : k ≤ 12) (hsk : s < k) (hm : m (117 + 12 * s) 0 = nF n) (hn0 : 1 ≤ n) (hn : n ≤ 8) (hn4 : n ≤ 4) (hd0 : m (117 + 12 * s) 4 = 0) (hcp : m 3 1 = nF cp) (hcpl : cp ≤ 16) (h : 2 * n ≤ cp) (hr : rk n (kr n (fun z => m (117 + 12 * s + 2 + z)) (m (117 + 12 * s + 10))) = n) (hr2 : rk n (kr n (fun z c => m (117 + 12 * s + 2 + c) z) (m (117 + 12 * s + 11))) = n) (hk1 : k < 12) (hz : ∀ c, 117 + 12 * k ≤ c → c < 117 + 12 * k + 12 → ∀ j, m c j = 0) : Ct d k_X9_joined S fz [.ref (1), .int (iI (((s : Nat) : Int)))] m p (fun v m' p' => ∃ x y, v = some (.int (iI ((k : Nat) : Int))) ∧ PI p' ∧ Fr (fun a_ => (7 ≤ a_ ∧ a_ < 117) ∨ a_ = 1 ∨ (117 + 12 * k ≤ a_ ∧ a_ < 117 + 12 * k + 12)) m m' ∧ m' 1 1 = nF (k + 1) ∧ m' (117 + 12 * k) 0 = nF (2 * n) ∧ (∀ r, r < 2 * n → ∀ c, c < 2 * n → m' (117 + 12 * k + 2 + r) c = obA n (fun z => m (117 + 12 * s + 2 + z)) (m (117 + 12 * s + 10)) (m (117 + 12 * s + 11)) (fun z => av n (fun z => m (117 + 12 * s + 2 + z)) (m 4) x n z) (fun z => av n (fun z c => m (117 + 12 * s + 2 + c) z) (fun i => m 4 (n + i)) y n z) r c) ∧ (∀ r, r < n → m' (117 + 12 * k + 10) r = m (117 + 12 * s + 10) r ∧ m' (117 + 12 * k + 10) (n + r) = m (117 + 12 * s + 10) r) ∧ (∀ r, m' (117 + 12 * k + 11) r = if r < n then m (117 + 12 * s + 11) r else 0) ∧ m' (117 + 12 * k) 4 = 0 ∧ (∀ i, i < n → dot n ((kr n (fun z => m (117 + 12 * s + 2 + z)) (m (117 + 12 * s + 10))) i) x = if i + 1 = n then 1 else 0) ∧ (∀ i, i < n → dot n ((kr n (fun z c => m (117 + 12 * s + 2 + c) z) (m (117 + 12 * s + 11))) i) y = if i + 1 = n then 1 else 0)) := by
  obtain ⟨d, rfl⟩ : ∃ e, d = e + 1 := ⟨d - 1, by omega⟩
  refine ct_go (lv := [some (.ref (1)), some (.int (iI (((s : Nat) : Int)))), none]) (Nat.le_of_ble_eq_true rfl) (okar_cons rfl (okar_cons rfl okar_nil)) rfl (fun Qr hQ => ?_)
  refine rw_blk lk_X9_joined_0 ?_
  refine rw_of (fun rr hrr => q_aload_n rfl (q_iload_n rfl hrr)) ?_
  obtain ⟨_, mm1, pp2, hV3, rfl, rfl, rfl⟩ := c_X9_plantOf (S := S) (fz := fz) (m := m) (p := p) (d := d) (by omega) (s) (k) hP hk (by omega) (by omega)
  refine rw_of (fun rr hrr => q_invV hV3 (show SH 1 = (17, 0) from rfl) rfl rfl (okar_cons rfl okar_nil) (Nat.le_of_ble_eq_true rfl) (q_astore_n (Nat.le_of_ble_eq_true rfl) rfl (q_aload_n rfl (q_getI (PI_pl hP (Or.inr ⟨s, by omega, rfl⟩)).1 rfl (ki rfl hm (by omega)) (q_iconst hrr))))) ?_
  refine rw_icmp_gt ⟨by omega, by omega⟩ ⟨by omega, by omega⟩ (t := 21) rfl (fun hc4 => ?_) (fun hc4 => ?_)
  · exfalso; omega
  · skip
    refine rw_of (fun rr hrr => q_aload_n rfl (q_getI (PI_pl hP (Or.inr ⟨s, by omega, rfl⟩)).1 rfl rfl hrr)) ?_
    refine rw_if_eq (rg_vF _) (t := 31) rfl (fun hc5 => ?_) (fun hc5 => ?_)
    · skip
      refine rw_blk lk_X9_joined_31 ?_
      refine rw_of (fun rr hrr => q_aload_n rfl (q_aload_n rfl hrr)) ?_
      obtain ⟨_, mm6, pp7, hV8, x8, rfl, hP8, hF8, hx8, hv8⟩ := c_X9_findGains (S := S) (fz := fz) (m := m) (p := p) (d := d) (by omega) (117 + 12 * s) (n) (cp) hP (Or.inr ⟨s, by omega, rfl⟩) hm (by omega) (by omega) hcp (by omega) (by omega) (hr)
      refine rw_of (fun rr hrr => q_invV hV8 (show SH 1 = (17, 0) from rfl) rfl rfl (okar_cons rfl okar_nil) (Nat.le_of_ble_eq_true rfl) hrr) ?_
      have eA : (fun z c => mm6 (117 + 12 * s + 2 + c) z) = (fun z c => m (117 + 12 * s + 2 + c) z) := funext fun z => funext fun c => congrFun (hF8 _ (by omega)) z
      have ec : mm6 (117 + 12 * s + 11) = m (117 + 12 * s + 11) := hF8 _ (by omega)
      refine rw_of (fun rr hrr => q_aload_n rfl (q_aload_n rfl hrr)) ?_
      obtain ⟨_, mm9, pp10, hV11, x11, rfl, hP11, hF11, hx11, hv11⟩ := c_X9_findWatch (S := S) (fz := fz) (m := mm6) (p := pp7) (d := d) (by omega) (117 + 12 * s) (n) (cp) hP8 (Or.inr ⟨s, by omega, rfl⟩) ((congrFun (hF8 (117 + 12 * s) (by show ¬ (7 ≤ (117 + 12 * s) ∧ (117 + 12 * s) < 117); omega)) 0).trans hm) (by omega) (by omega) (by omega) ((congrFun (hF8 3 (by show ¬ (7 ≤ 3 ∧ 3 < 117); omega)) 1).trans hcp) (by omega) (by omega) (by rw [eA, ec]; exact hr2)
      refine rw_of (fun rr hrr => q_invV hV11 (show SH 1 = (17, 0) from rfl) rfl rfl (okar_cons rfl okar_nil) (Nat.le_of_ble_eq_true rfl) (q_aload_n rfl (q_iconst (q_aload_n rfl (q_getI (PI_pl hP11 (Or.inr ⟨s, by omega, rfl⟩)).1 rfl (ki ((hF11 (117 + 12 * s) (by show ¬ ((7 ≤ (117 + 12 * s) ∧ (117 + 12 * s) < 33) ∨ (117 + 12 * s) = 34); omega)).trans (hF8 (117 + 12 * s) (by show ¬ (7 ≤ (117 + 12 * s) ∧ (117 + 12 * s) < 117); omega))) hm (by omega)) (q_imul hrr)))))) ?_
      obtain ⟨_, mm12, pp13, hV14, rfl, rfl, hw14, hF14⟩ := c_X9_newPlant (S := S) (fz := fz) (m := mm9) (p := pp10) (d := d) (by omega) (2 * n) (k) hP11 ((congrFun ((hF11 1 (by show ¬ ((7 ≤ 1 ∧ 1 < 33) ∨ 1 = 34); omega)).trans (hF8 1 (by show ¬ (7 ≤ 1 ∧ 1 < 117); omega))) 1).trans hk) (by omega) (by omega) (by omega)
      refine rw_of (fun rr hrr => q_invV hV14 (show SH 1 = (17, 0) from rfl) rfl rfl (okar_cons rfl okar_nil) (Nat.le_of_ble_eq_true rfl) (q_aload_n rfl (q_aload_n rfl (q_getR (show SH 1 = (17, 0) from rfl) rfl (pt_1_6 hP11) (q_aload_n rfl (q_getR (show SH 1 = (17, 0) from rfl) rfl (pt_1_7 hP11) hrr)))))) ?_
      obtain ⟨_, mm15, pp16, hV17, rfl, rfl, hF17, hv17, hb17, hc17⟩ := c_X4_beObserved (S := S) (fz := fz) (m := mm12) (p := pp10) (d := d) (by omega) (117 + 12 * k) (117 + 12 * s) (n) hP11 (Or.inr ⟨k, by omega, rfl⟩) (Or.inr ⟨s, by omega, rfl⟩) (by omega) ((congrFun ((hF14 (117 + 12 * s) (by show ¬ ((117 + 12 * s) = 1 ∨ (117 + 12 * s) = 117 + 12 * k); omega)).trans ((hF11 (117 + 12 * s) (by show ¬ ((7 ≤ (117 + 12 * s) ∧ (117 + 12 * s) < 33) ∨ (117 + 12 * s) = 34); omega)).trans (hF8 (117 + 12 * s) (by show ¬ (7 ≤ (117 + 12 * s) ∧ (117 + 12 * s) < 117); omega)))) 0).trans hm) (by omega) (by intro r; rw [hF14 _ (by omega), hF11 _ (by omega), hF8 _ (by omega)]; exact hz _ (by omega) (by omega) r)
      refine rw_of (fun rr hrr => q_invV hV17 (PI_pl hP11 (Or.inr ⟨k, by omega, rfl⟩)).1 rfl rfl (okar_cons rfl (okar_cons rfl (okar_cons rfl okar_nil))) (Nat.le_of_ble_eq_true rfl) (q_aload_n rfl (q_getI (show SH 1 = (17, 0) from rfl) rfl (ki (hF17 1 (by show ¬ ((117 + 12 * k) + 2 ≤ 1 ∧ 1 < (117 + 12 * k) + 12); omega)) (by rw [← hw14, w1_at]) (by omega)) (q_iconst (q_isub hrr))))) ?_
      refine rw_ret hQ (q_ireturn (Or.inl rfl)) ?_
      
      have f0 := hF8
      have f1 := hF11
      have f2 := hF14
      have g : ∀ c, 117 ≤ c → c ≠ 117 + 12 * k → mm12 c = m c := fun c h1 h2 => by rw [f2 _ (by omega), f1 _ (by omega), f0 _ (by omega)]
      have gA : ∀ z, z < 8 → ∀ c, mm12 (117 + 12 * s + 2 + z) c = m (117 + 12 * s + 2 + z) c := fun z hz c => congrFun (g _ (by omega) (by omega)) c
      have g10 : mm12 (117 + 12 * s + 10) = m (117 + 12 * s + 10) := g _ (by omega) (by omega)
      have g11 : mm12 (117 + 12 * s + 11) = m (117 + 12 * s + 11) := g _ (by omega) (by omega)
      have g4 : mm6 4 = m 4 := f0 _ (by omega)
      have g33 : ∀ j, j < n → mm12 33 j = av n (fun z => m (117 + 12 * s + 2 + z)) (m 4) x8 n j := fun j hj => by
        rw [f2 _ (by omega), f1 _ (by omega), hv8 j hj]
      have g34 : ∀ j, j < n → mm12 34 j = av n (fun z c => m (117 + 12 * s + 2 + c) z) (fun i => m 4 (n + i)) x11 n j := fun j hj => by
        rw [f2 _ (by omega), hv11 j hj, eA, g4]
      refine ⟨x8, x11, lvI (by omega), hP11, Fr_trans (Fr_mono f0 (fun c hc => by omega)) (Fr_trans (Fr_mono f1 (fun c hc => by omega)) (Fr_trans (Fr_mono f2 (fun c hc => by omega)) (Fr_mono hF17 (fun c hc => by omega)))), ?_, ?_, fun r hr c hc => ?_, fun r hr => ?_, fun r => ?_, ?_, hx8, fun i hi => ?_⟩
      · rw [hF17 1 (by omega), ← hw14, w1_at]
      · rw [hF17 (117 + 12 * k) (by omega), ← hw14, w1_ne (by omega), w1_at]
      · rw [hv17 r hr c hc]
        unfold obA
        rw [g10, g11]
        by_cases q1 : r < n
        · rw [if_pos q1, if_pos q1]
          by_cases q2 : c < n
          · rw [if_pos q2, if_pos q2]
            exact gA r (by omega) c
          · rw [if_neg q2, if_neg q2, g33 (c - n) (by omega)]
        · rw [if_neg q1, if_neg q1]
          by_cases q2 : c < n
          · rw [if_pos q2, if_pos q2, g34 (r - n) (by omega)]
          · rw [if_neg q2, if_neg q2, g33 (c - n) (by omega), g34 (r - n) (by omega)]
            exact congrArg (fun z => z - _ - _) (gA (r - n) (by omega) (c - n))
      · rw [(hb17 r hr).1, (hb17 r hr).2, g10]
        exact ⟨rfl, rfl⟩
      · rw [hc17 r, g11]
      · rw [hF17 (117 + 12 * k) (by omega), ← hw14, w1_ne (by omega), w1_ne (by omega), f1 _ (by omega), f0 _ (by omega)]
        exact hz _ (by omega) (by omega) 4
      · have h9 := hx11 i hi
        rw [eA, ec] at h9
        exact h9
      
    · exact absurd (vF_eq0.mpr hd0) hc5
theorem t_X9_joinedO {d : Nat} {S : Env} {fz : Bool} {m : M1} {p : M2} (hd : 8 ≤ d) (s k n cp : Nat) (hP : PI p) (hk : m 1 1 = nF k) (hk12 : k ≤ 12) (hsk : s < k) (hm : m (117 + 12 * s) 0 = nF n) (hn0 : 1 ≤ n) (hn : n ≤ 8) (hcp : m 3 1 = nF cp) (hcpl : cp ≤ 16) (h : 4 < n) : Tx d k_X9_joined S fz [.ref (1), .int (iI (((s : Nat) : Int)))] m p 2 (fun m' p' => m = m' ∧ p = p') := by
  obtain ⟨d, rfl⟩ : ∃ e, d = e + 1 := ⟨d - 1, by omega⟩
  refine tx_go (lv := [some (.ref (1)), some (.int (iI (((s : Nat) : Int)))), none]) (Nat.le_of_ble_eq_true rfl) (okar_cons rfl (okar_cons rfl okar_nil)) (by decide) (by omega) rfl (fun Qr hQ => ?_)
  refine rw_blk lk_X9_joined_0 ?_
  refine rw_of (fun rr hrr => q_aload_n rfl (q_iload_n rfl hrr)) ?_
  obtain ⟨_, mm1, pp2, hV3, rfl, rfl, rfl⟩ := c_X9_plantOf (S := S) (fz := fz) (m := m) (p := p) (d := d) (by omega) (s) (k) hP hk (by omega) (by omega)
  refine rw_of (fun rr hrr => q_invV hV3 (show SH 1 = (17, 0) from rfl) rfl rfl (okar_cons rfl okar_nil) (Nat.le_of_ble_eq_true rfl) (q_astore_n (Nat.le_of_ble_eq_true rfl) rfl (q_aload_n rfl (q_getI (PI_pl hP (Or.inr ⟨s, by omega, rfl⟩)).1 rfl (ki rfl hm (by omega)) (q_iconst hrr))))) ?_
  refine rw_icmp_gt ⟨by omega, by omega⟩ ⟨by omega, by omega⟩ (t := 21) rfl (fun hc4 => ?_) (fun hc4 => ?_)
  · skip
    refine rw_blk lk_X9_joined_21 ?_
    refine rw_end (q_throw (by decide) (by decide +kernel) rfl) ?_
    rw [hQ]
    refine ⟨_, _, rfl, ?_⟩
    exact ⟨rfl, rfl⟩
  · skip
    refine rw_of (fun rr hrr => q_aload_n rfl (q_getI (PI_pl hP (Or.inr ⟨s, by omega, rfl⟩)).1 rfl rfl hrr)) ?_
    refine rw_if_eq (rg_vF _) (t := 31) rfl (fun hc5 => ?_) (fun hc5 => ?_)
    · skip
      refine rw_blk lk_X9_joined_31 ?_
      refine rw_of (fun rr hrr => q_aload_n rfl (q_aload_n rfl hrr)) ?_
      exfalso; omega
    · skip
      refine rw_blk lk_X9_joined_21 ?_
      refine rw_end (q_throw (by decide) (by decide +kernel) rfl) ?_
      rw [hQ]
      refine ⟨_, _, rfl, ?_⟩
      exact ⟨rfl, rfl⟩
theorem t_X9_joinedD {d : Nat} {S : Env} {fz : Bool} {m : M1} {p : M2} (hd : 8 ≤ d) (s k n cp : Nat) (hP : PI p) (hk : m 1 1 = nF k) (hk12 : k ≤ 12) (hsk : s < k) (hm : m (117 + 12 * s) 0 = nF n) (hn0 : 1 ≤ n) (hn : n ≤ 8) (hcp : m 3 1 = nF cp) (hcpl : cp ≤ 16) (hn4 : n ≤ 4) (hd0 : m (117 + 12 * s) 4 ≠ 0) : Tx d k_X9_joined S fz [.ref (1), .int (iI (((s : Nat) : Int)))] m p 2 (fun m' p' => m = m' ∧ p = p') := by
  obtain ⟨d, rfl⟩ : ∃ e, d = e + 1 := ⟨d - 1, by omega⟩
  refine tx_go (lv := [some (.ref (1)), some (.int (iI (((s : Nat) : Int)))), none]) (Nat.le_of_ble_eq_true rfl) (okar_cons rfl (okar_cons rfl okar_nil)) (by decide) (by omega) rfl (fun Qr hQ => ?_)
  refine rw_blk lk_X9_joined_0 ?_
  refine rw_of (fun rr hrr => q_aload_n rfl (q_iload_n rfl hrr)) ?_
  obtain ⟨_, mm1, pp2, hV3, rfl, rfl, rfl⟩ := c_X9_plantOf (S := S) (fz := fz) (m := m) (p := p) (d := d) (by omega) (s) (k) hP hk (by omega) (by omega)
  refine rw_of (fun rr hrr => q_invV hV3 (show SH 1 = (17, 0) from rfl) rfl rfl (okar_cons rfl okar_nil) (Nat.le_of_ble_eq_true rfl) (q_astore_n (Nat.le_of_ble_eq_true rfl) rfl (q_aload_n rfl (q_getI (PI_pl hP (Or.inr ⟨s, by omega, rfl⟩)).1 rfl (ki rfl hm (by omega)) (q_iconst hrr))))) ?_
  refine rw_icmp_gt ⟨by omega, by omega⟩ ⟨by omega, by omega⟩ (t := 21) rfl (fun hc4 => ?_) (fun hc4 => ?_)
  · exfalso; omega
  · skip
    refine rw_of (fun rr hrr => q_aload_n rfl (q_getI (PI_pl hP (Or.inr ⟨s, by omega, rfl⟩)).1 rfl rfl hrr)) ?_
    refine rw_if_eq (rg_vF _) (t := 31) rfl (fun hc5 => ?_) (fun hc5 => ?_)
    · exact absurd (vF_eq0.mp hc5) hd0
    · skip
      refine rw_blk lk_X9_joined_21 ?_
      refine rw_end (q_throw (by decide) (by decide +kernel) rfl) ?_
      rw [hQ]
      refine ⟨_, _, rfl, ?_⟩
      exact ⟨rfl, rfl⟩
theorem t_X9_joinedC {d : Nat} {S : Env} {fz : Bool} {m : M1} {p : M2} (hd : 8 ≤ d) (s k n cp : Nat) (hP : PI p) (hk : m 1 1 = nF k) (hk12 : k ≤ 12) (hsk : s < k) (hm : m (117 + 12 * s) 0 = nF n) (hn0 : 1 ≤ n) (hn : n ≤ 8) (hn4 : n ≤ 4) (hd0 : m (117 + 12 * s) 4 = 0) (hcp : m 3 1 = nF cp) (hcpl : cp ≤ 16) (h : cp < n) : Tx d k_X9_joined S fz [.ref (1), .int (iI (((s : Nat) : Int)))] m p 2 (fun m' p' => m = m' ∧ p = p') := by
  obtain ⟨d, rfl⟩ : ∃ e, d = e + 1 := ⟨d - 1, by omega⟩
  refine tx_go (lv := [some (.ref (1)), some (.int (iI (((s : Nat) : Int)))), none]) (Nat.le_of_ble_eq_true rfl) (okar_cons rfl (okar_cons rfl okar_nil)) (by decide) (by omega) rfl (fun Qr hQ => ?_)
  refine rw_blk lk_X9_joined_0 ?_
  refine rw_of (fun rr hrr => q_aload_n rfl (q_iload_n rfl hrr)) ?_
  obtain ⟨_, mm1, pp2, hV3, rfl, rfl, rfl⟩ := c_X9_plantOf (S := S) (fz := fz) (m := m) (p := p) (d := d) (by omega) (s) (k) hP hk (by omega) (by omega)
  refine rw_of (fun rr hrr => q_invV hV3 (show SH 1 = (17, 0) from rfl) rfl rfl (okar_cons rfl okar_nil) (Nat.le_of_ble_eq_true rfl) (q_astore_n (Nat.le_of_ble_eq_true rfl) rfl (q_aload_n rfl (q_getI (PI_pl hP (Or.inr ⟨s, by omega, rfl⟩)).1 rfl (ki rfl hm (by omega)) (q_iconst hrr))))) ?_
  refine rw_icmp_gt ⟨by omega, by omega⟩ ⟨by omega, by omega⟩ (t := 21) rfl (fun hc4 => ?_) (fun hc4 => ?_)
  · exfalso; omega
  · skip
    refine rw_of (fun rr hrr => q_aload_n rfl (q_getI (PI_pl hP (Or.inr ⟨s, by omega, rfl⟩)).1 rfl rfl hrr)) ?_
    refine rw_if_eq (rg_vF _) (t := 31) rfl (fun hc5 => ?_) (fun hc5 => ?_)
    · skip
      refine rw_blk lk_X9_joined_31 ?_
      refine rw_of (fun rr hrr => q_aload_n rfl (q_aload_n rfl hrr)) ?_
      obtain ⟨mm6, pp7, hV8, rfl, rfl⟩ := t_X9_findGains (S := S) (fz := fz) (m := m) (p := p) (d := d) (by omega) (117 + 12 * s) (n) (cp) hP (Or.inr ⟨s, by omega, rfl⟩) hm (by omega) (by omega) hcp (by omega) (by omega)
      refine rw_end (q_invVx hV8 (by decide) (show SH 1 = (17, 0) from rfl) rfl rfl (okar_cons rfl okar_nil) (Nat.le_of_ble_eq_true rfl)) ?_
      rw [hQ]
      refine ⟨_, _, rfl, ?_⟩
      exact ⟨rfl, rfl⟩
    · exact absurd (vF_eq0.mpr hd0) hc5
theorem t_X9_joinedR {d : Nat} {S : Env} {fz : Bool} {m : M1} {p : M2} (hd : 8 ≤ d) (s k n cp : Nat) (hP : PI p) (hk : m 1 1 = nF k) (hk12 : k ≤ 12) (hsk : s < k) (hm : m (117 + 12 * s) 0 = nF n) (hn0 : 1 ≤ n) (hn : n ≤ 8) (hn4 : n ≤ 4) (hd0 : m (117 + 12 * s) 4 = 0) (hcp : m 3 1 = nF cp) (hcpl : cp ≤ 16) (h : n ≤ cp) (hr : rk n (kr n (fun z => m (117 + 12 * s + 2 + z)) (m (117 + 12 * s + 10))) ≠ n) : Tx d k_X9_joined S fz [.ref (1), .int (iI (((s : Nat) : Int)))] m p 2 (fun m' p' => PI p' ∧ Fr (fun a_ => 7 ≤ a_ ∧ a_ < 117) m m') := by
  obtain ⟨d, rfl⟩ : ∃ e, d = e + 1 := ⟨d - 1, by omega⟩
  refine tx_go (lv := [some (.ref (1)), some (.int (iI (((s : Nat) : Int)))), none]) (Nat.le_of_ble_eq_true rfl) (okar_cons rfl (okar_cons rfl okar_nil)) (by decide) (by omega) rfl (fun Qr hQ => ?_)
  refine rw_blk lk_X9_joined_0 ?_
  refine rw_of (fun rr hrr => q_aload_n rfl (q_iload_n rfl hrr)) ?_
  obtain ⟨_, mm1, pp2, hV3, rfl, rfl, rfl⟩ := c_X9_plantOf (S := S) (fz := fz) (m := m) (p := p) (d := d) (by omega) (s) (k) hP hk (by omega) (by omega)
  refine rw_of (fun rr hrr => q_invV hV3 (show SH 1 = (17, 0) from rfl) rfl rfl (okar_cons rfl okar_nil) (Nat.le_of_ble_eq_true rfl) (q_astore_n (Nat.le_of_ble_eq_true rfl) rfl (q_aload_n rfl (q_getI (PI_pl hP (Or.inr ⟨s, by omega, rfl⟩)).1 rfl (ki rfl hm (by omega)) (q_iconst hrr))))) ?_
  refine rw_icmp_gt ⟨by omega, by omega⟩ ⟨by omega, by omega⟩ (t := 21) rfl (fun hc4 => ?_) (fun hc4 => ?_)
  · exfalso; omega
  · skip
    refine rw_of (fun rr hrr => q_aload_n rfl (q_getI (PI_pl hP (Or.inr ⟨s, by omega, rfl⟩)).1 rfl rfl hrr)) ?_
    refine rw_if_eq (rg_vF _) (t := 31) rfl (fun hc5 => ?_) (fun hc5 => ?_)
    · skip
      refine rw_blk lk_X9_joined_31 ?_
      refine rw_of (fun rr hrr => q_aload_n rfl (q_aload_n rfl hrr)) ?_
      obtain ⟨mm6, pp7, hV8, hP8, hF8⟩ := t_X9_findGainsR (S := S) (fz := fz) (m := m) (p := p) (d := d) (by omega) (117 + 12 * s) (n) (cp) hP (Or.inr ⟨s, by omega, rfl⟩) hm (by omega) (by omega) hcp (by omega) (by omega) (hr)
      refine rw_end (q_invVx hV8 (by decide) (show SH 1 = (17, 0) from rfl) rfl rfl (okar_cons rfl okar_nil) (Nat.le_of_ble_eq_true rfl)) ?_
      rw [hQ]
      refine ⟨_, _, rfl, ?_⟩
      exact ⟨hP8, hF8⟩
    · exact absurd (vF_eq0.mpr hd0) hc5
theorem t_X9_joinedE {d : Nat} {S : Env} {fz : Bool} {m : M1} {p : M2} (hd : 8 ≤ d) (s k n cp : Nat) (hP : PI p) (hk : m 1 1 = nF k) (hk12 : k ≤ 12) (hsk : s < k) (hm : m (117 + 12 * s) 0 = nF n) (hn0 : 1 ≤ n) (hn : n ≤ 8) (hn4 : n ≤ 4) (hd0 : m (117 + 12 * s) 4 = 0) (hcp : m 3 1 = nF cp) (hcpl : cp ≤ 16) (h : n ≤ cp ∧ cp < 2 * n) (hr : rk n (kr n (fun z => m (117 + 12 * s + 2 + z)) (m (117 + 12 * s + 10))) = n) : Tx d k_X9_joined S fz [.ref (1), .int (iI (((s : Nat) : Int)))] m p 2 (fun m' p' => PI p' ∧ Fr (fun a_ => 7 ≤ a_ ∧ a_ < 117) m m') := by
  obtain ⟨d, rfl⟩ : ∃ e, d = e + 1 := ⟨d - 1, by omega⟩
  refine tx_go (lv := [some (.ref (1)), some (.int (iI (((s : Nat) : Int)))), none]) (Nat.le_of_ble_eq_true rfl) (okar_cons rfl (okar_cons rfl okar_nil)) (by decide) (by omega) rfl (fun Qr hQ => ?_)
  refine rw_blk lk_X9_joined_0 ?_
  refine rw_of (fun rr hrr => q_aload_n rfl (q_iload_n rfl hrr)) ?_
  obtain ⟨_, mm1, pp2, hV3, rfl, rfl, rfl⟩ := c_X9_plantOf (S := S) (fz := fz) (m := m) (p := p) (d := d) (by omega) (s) (k) hP hk (by omega) (by omega)
  refine rw_of (fun rr hrr => q_invV hV3 (show SH 1 = (17, 0) from rfl) rfl rfl (okar_cons rfl okar_nil) (Nat.le_of_ble_eq_true rfl) (q_astore_n (Nat.le_of_ble_eq_true rfl) rfl (q_aload_n rfl (q_getI (PI_pl hP (Or.inr ⟨s, by omega, rfl⟩)).1 rfl (ki rfl hm (by omega)) (q_iconst hrr))))) ?_
  refine rw_icmp_gt ⟨by omega, by omega⟩ ⟨by omega, by omega⟩ (t := 21) rfl (fun hc4 => ?_) (fun hc4 => ?_)
  · exfalso; omega
  · skip
    refine rw_of (fun rr hrr => q_aload_n rfl (q_getI (PI_pl hP (Or.inr ⟨s, by omega, rfl⟩)).1 rfl rfl hrr)) ?_
    refine rw_if_eq (rg_vF _) (t := 31) rfl (fun hc5 => ?_) (fun hc5 => ?_)
    · skip
      refine rw_blk lk_X9_joined_31 ?_
      refine rw_of (fun rr hrr => q_aload_n rfl (q_aload_n rfl hrr)) ?_
      obtain ⟨_, mm6, pp7, hV8, x8, rfl, hP8, hF8, hx8, hv8⟩ := c_X9_findGains (S := S) (fz := fz) (m := m) (p := p) (d := d) (by omega) (117 + 12 * s) (n) (cp) hP (Or.inr ⟨s, by omega, rfl⟩) hm (by omega) (by omega) hcp (by omega) (by omega) (hr)
      refine rw_of (fun rr hrr => q_invV hV8 (show SH 1 = (17, 0) from rfl) rfl rfl (okar_cons rfl okar_nil) (Nat.le_of_ble_eq_true rfl) (q_aload_n rfl (q_aload_n rfl hrr))) ?_
      obtain ⟨mm9, pp10, hV11, rfl, rfl⟩ := t_X9_findWatch (S := S) (fz := fz) (m := mm6) (p := pp7) (d := d) (by omega) (117 + 12 * s) (n) (cp) hP8 (Or.inr ⟨s, by omega, rfl⟩) ((congrFun (hF8 (117 + 12 * s) (by show ¬ (7 ≤ (117 + 12 * s) ∧ (117 + 12 * s) < 117); omega)) 0).trans hm) (by omega) (by omega) ((congrFun (hF8 3 (by show ¬ (7 ≤ 3 ∧ 3 < 117); omega)) 1).trans hcp) (by omega) (by omega)
      refine rw_end (q_invVx hV11 (by decide) (show SH 1 = (17, 0) from rfl) rfl rfl (okar_cons rfl okar_nil) (Nat.le_of_ble_eq_true rfl)) ?_
      rw [hQ]
      refine ⟨_, _, rfl, ?_⟩
      exact ⟨hP8, hF8⟩
    · exact absurd (vF_eq0.mpr hd0) hc5
theorem t_X9_joinedW {d : Nat} {S : Env} {fz : Bool} {m : M1} {p : M2} (hd : 8 ≤ d) (s k n cp : Nat) (hP : PI p) (hk : m 1 1 = nF k) (hk12 : k ≤ 12) (hsk : s < k) (hm : m (117 + 12 * s) 0 = nF n) (hn0 : 1 ≤ n) (hn : n ≤ 8) (hn4 : n ≤ 4) (hd0 : m (117 + 12 * s) 4 = 0) (hcp : m 3 1 = nF cp) (hcpl : cp ≤ 16) (h : 2 * n ≤ cp) (hr : rk n (kr n (fun z => m (117 + 12 * s + 2 + z)) (m (117 + 12 * s + 10))) = n) (hr2 : rk n (kr n (fun z c => m (117 + 12 * s + 2 + c) z) (m (117 + 12 * s + 11))) ≠ n) : Tx d k_X9_joined S fz [.ref (1), .int (iI (((s : Nat) : Int)))] m p 2 (fun m' p' => PI p' ∧ Fr (fun a_ => 7 ≤ a_ ∧ a_ < 117) m m') := by
  obtain ⟨d, rfl⟩ : ∃ e, d = e + 1 := ⟨d - 1, by omega⟩
  refine tx_go (lv := [some (.ref (1)), some (.int (iI (((s : Nat) : Int)))), none]) (Nat.le_of_ble_eq_true rfl) (okar_cons rfl (okar_cons rfl okar_nil)) (by decide) (by omega) rfl (fun Qr hQ => ?_)
  refine rw_blk lk_X9_joined_0 ?_
  refine rw_of (fun rr hrr => q_aload_n rfl (q_iload_n rfl hrr)) ?_
  obtain ⟨_, mm1, pp2, hV3, rfl, rfl, rfl⟩ := c_X9_plantOf (S := S) (fz := fz) (m := m) (p := p) (d := d) (by omega) (s) (k) hP hk (by omega) (by omega)
  refine rw_of (fun rr hrr => q_invV hV3 (show SH 1 = (17, 0) from rfl) rfl rfl (okar_cons rfl okar_nil) (Nat.le_of_ble_eq_true rfl) (q_astore_n (Nat.le_of_ble_eq_true rfl) rfl (q_aload_n rfl (q_getI (PI_pl hP (Or.inr ⟨s, by omega, rfl⟩)).1 rfl (ki rfl hm (by omega)) (q_iconst hrr))))) ?_
  refine rw_icmp_gt ⟨by omega, by omega⟩ ⟨by omega, by omega⟩ (t := 21) rfl (fun hc4 => ?_) (fun hc4 => ?_)
  · exfalso; omega
  · skip
    refine rw_of (fun rr hrr => q_aload_n rfl (q_getI (PI_pl hP (Or.inr ⟨s, by omega, rfl⟩)).1 rfl rfl hrr)) ?_
    refine rw_if_eq (rg_vF _) (t := 31) rfl (fun hc5 => ?_) (fun hc5 => ?_)
    · skip
      refine rw_blk lk_X9_joined_31 ?_
      refine rw_of (fun rr hrr => q_aload_n rfl (q_aload_n rfl hrr)) ?_
      obtain ⟨_, mm6, pp7, hV8, x8, rfl, hP8, hF8, hx8, hv8⟩ := c_X9_findGains (S := S) (fz := fz) (m := m) (p := p) (d := d) (by omega) (117 + 12 * s) (n) (cp) hP (Or.inr ⟨s, by omega, rfl⟩) hm (by omega) (by omega) hcp (by omega) (by omega) (hr)
      refine rw_of (fun rr hrr => q_invV hV8 (show SH 1 = (17, 0) from rfl) rfl rfl (okar_cons rfl okar_nil) (Nat.le_of_ble_eq_true rfl) hrr) ?_
      have eA : (fun z c => mm6 (117 + 12 * s + 2 + c) z) = (fun z c => m (117 + 12 * s + 2 + c) z) := funext fun z => funext fun c => congrFun (hF8 _ (by omega)) z
      have ec : mm6 (117 + 12 * s + 11) = m (117 + 12 * s + 11) := hF8 _ (by omega)
      refine rw_of (fun rr hrr => q_aload_n rfl (q_aload_n rfl hrr)) ?_
      obtain ⟨mm9, pp10, hV11, hP11, hF11⟩ := t_X9_findWatchR (S := S) (fz := fz) (m := mm6) (p := pp7) (d := d) (by omega) (117 + 12 * s) (n) (cp) hP8 (Or.inr ⟨s, by omega, rfl⟩) ((congrFun (hF8 (117 + 12 * s) (by show ¬ (7 ≤ (117 + 12 * s) ∧ (117 + 12 * s) < 117); omega)) 0).trans hm) (by omega) (by omega) (by omega) ((congrFun (hF8 3 (by show ¬ (7 ≤ 3 ∧ 3 < 117); omega)) 1).trans hcp) (by omega) (by omega) (by rw [eA, ec]; exact hr2)
      refine rw_end (q_invVx hV11 (by decide) (show SH 1 = (17, 0) from rfl) rfl rfl (okar_cons rfl okar_nil) (Nat.le_of_ble_eq_true rfl)) ?_
      rw [hQ]
      refine ⟨_, _, rfl, ?_⟩
      exact ⟨hP11, Fr_trans hF8 hF11⟩
    · exact absurd (vF_eq0.mpr hd0) hc5
theorem t_X9_joinedF {d : Nat} {S : Env} {fz : Bool} {m : M1} {p : M2} (hd : 8 ≤ d) (s k n cp : Nat) (hP : PI p) (hk : m 1 1 = nF k) (hk12 : k ≤ 12) (hsk : s < k) (hm : m (117 + 12 * s) 0 = nF n) (hn0 : 1 ≤ n) (hn : n ≤ 8) (hn4 : n ≤ 4) (hd0 : m (117 + 12 * s) 4 = 0) (hcp : m 3 1 = nF cp) (hcpl : cp ≤ 16) (h : 2 * n ≤ cp) (hr : rk n (kr n (fun z => m (117 + 12 * s + 2 + z)) (m (117 + 12 * s + 10))) = n) (hr2 : rk n (kr n (fun z c => m (117 + 12 * s + 2 + c) z) (m (117 + 12 * s + 11))) = n) (hk1 : 12 ≤ k) : Tx d k_X9_joined S fz [.ref (1), .int (iI (((s : Nat) : Int)))] m p 2 (fun m' p' => PI p' ∧ Fr (fun a_ => 7 ≤ a_ ∧ a_ < 117) m m') := by
  obtain ⟨d, rfl⟩ : ∃ e, d = e + 1 := ⟨d - 1, by omega⟩
  refine tx_go (lv := [some (.ref (1)), some (.int (iI (((s : Nat) : Int)))), none]) (Nat.le_of_ble_eq_true rfl) (okar_cons rfl (okar_cons rfl okar_nil)) (by decide) (by omega) rfl (fun Qr hQ => ?_)
  refine rw_blk lk_X9_joined_0 ?_
  refine rw_of (fun rr hrr => q_aload_n rfl (q_iload_n rfl hrr)) ?_
  obtain ⟨_, mm1, pp2, hV3, rfl, rfl, rfl⟩ := c_X9_plantOf (S := S) (fz := fz) (m := m) (p := p) (d := d) (by omega) (s) (k) hP hk (by omega) (by omega)
  refine rw_of (fun rr hrr => q_invV hV3 (show SH 1 = (17, 0) from rfl) rfl rfl (okar_cons rfl okar_nil) (Nat.le_of_ble_eq_true rfl) (q_astore_n (Nat.le_of_ble_eq_true rfl) rfl (q_aload_n rfl (q_getI (PI_pl hP (Or.inr ⟨s, by omega, rfl⟩)).1 rfl (ki rfl hm (by omega)) (q_iconst hrr))))) ?_
  refine rw_icmp_gt ⟨by omega, by omega⟩ ⟨by omega, by omega⟩ (t := 21) rfl (fun hc4 => ?_) (fun hc4 => ?_)
  · exfalso; omega
  · skip
    refine rw_of (fun rr hrr => q_aload_n rfl (q_getI (PI_pl hP (Or.inr ⟨s, by omega, rfl⟩)).1 rfl rfl hrr)) ?_
    refine rw_if_eq (rg_vF _) (t := 31) rfl (fun hc5 => ?_) (fun hc5 => ?_)
    · skip
      refine rw_blk lk_X9_joined_31 ?_
      refine rw_of (fun rr hrr => q_aload_n rfl (q_aload_n rfl hrr)) ?_
      obtain ⟨_, mm6, pp7, hV8, x8, rfl, hP8, hF8, hx8, hv8⟩ := c_X9_findGains (S := S) (fz := fz) (m := m) (p := p) (d := d) (by omega) (117 + 12 * s) (n) (cp) hP (Or.inr ⟨s, by omega, rfl⟩) hm (by omega) (by omega) hcp (by omega) (by omega) (hr)
      refine rw_of (fun rr hrr => q_invV hV8 (show SH 1 = (17, 0) from rfl) rfl rfl (okar_cons rfl okar_nil) (Nat.le_of_ble_eq_true rfl) hrr) ?_
      have eA : (fun z c => mm6 (117 + 12 * s + 2 + c) z) = (fun z c => m (117 + 12 * s + 2 + c) z) := funext fun z => funext fun c => congrFun (hF8 _ (by omega)) z
      have ec : mm6 (117 + 12 * s + 11) = m (117 + 12 * s + 11) := hF8 _ (by omega)
      refine rw_of (fun rr hrr => q_aload_n rfl (q_aload_n rfl hrr)) ?_
      obtain ⟨_, mm9, pp10, hV11, x11, rfl, hP11, hF11, hx11, hv11⟩ := c_X9_findWatch (S := S) (fz := fz) (m := mm6) (p := pp7) (d := d) (by omega) (117 + 12 * s) (n) (cp) hP8 (Or.inr ⟨s, by omega, rfl⟩) ((congrFun (hF8 (117 + 12 * s) (by show ¬ (7 ≤ (117 + 12 * s) ∧ (117 + 12 * s) < 117); omega)) 0).trans hm) (by omega) (by omega) (by omega) ((congrFun (hF8 3 (by show ¬ (7 ≤ 3 ∧ 3 < 117); omega)) 1).trans hcp) (by omega) (by omega) (by rw [eA, ec]; exact hr2)
      refine rw_of (fun rr hrr => q_invV hV11 (show SH 1 = (17, 0) from rfl) rfl rfl (okar_cons rfl okar_nil) (Nat.le_of_ble_eq_true rfl) (q_aload_n rfl (q_iconst (q_aload_n rfl (q_getI (PI_pl hP11 (Or.inr ⟨s, by omega, rfl⟩)).1 rfl (ki ((hF11 (117 + 12 * s) (by show ¬ ((7 ≤ (117 + 12 * s) ∧ (117 + 12 * s) < 33) ∨ (117 + 12 * s) = 34); omega)).trans (hF8 (117 + 12 * s) (by show ¬ (7 ≤ (117 + 12 * s) ∧ (117 + 12 * s) < 117); omega))) hm (by omega)) (q_imul hrr)))))) ?_
      obtain ⟨mm12, pp13, hV14, rfl, rfl⟩ := t_X9_newPlant (S := S) (fz := fz) (m := mm9) (p := pp10) (d := d) (by omega) (2 * n) (k) hP11 ((congrFun ((hF11 1 (by show ¬ ((7 ≤ 1 ∧ 1 < 33) ∨ 1 = 34); omega)).trans (hF8 1 (by show ¬ (7 ≤ 1 ∧ 1 < 117); omega))) 1).trans hk) (by omega) (by omega)
      refine rw_end (q_invVx hV14 (by decide) (show SH 1 = (17, 0) from rfl) rfl rfl (okar_cons rfl okar_nil) (Nat.le_of_ble_eq_true rfl)) ?_
      rw [hQ]
      refine ⟨_, _, rfl, ?_⟩
      exact ⟨hP11, Fr_trans hF8 (Fr_mono hF11 (fun c hc => by omega))⟩
    · exact absurd (vF_eq0.mpr hd0) hc5
