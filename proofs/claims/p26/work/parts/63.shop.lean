theorem c_X9_join1 {d : Nat} {S : Env} {fz : Bool} {m : M1} {p : M2} (hd : 7 ≤ d) (a b k n n2 : Nat) (x : Int) (hP : PI p) (hk : m 1 1 = nF k) (hk12 : k ≤ 12) (ha : a < k) (hb : b < k) (hma : m (117 + 12 * a) 0 = nF n) (hmb : m (117 + 12 * b) 0 = nF n2) (hn : 1 ≤ n ∧ n ≤ 8 ∧ 1 ≤ n2 ∧ n2 ≤ 8) (hs : n + n2 ≤ 8) (hk1 : k < 12) (hz : ∀ c, 117 + 12 * k ≤ c → c < 117 + 12 * k + 12 → ∀ j, m c j = 0) (hx : (-2147483648 ≤ x ∧ x < 2147483648) ∧ x ≠ 0) : Ct d k_X9_join S fz [.ref (1), .int (iI (((a : Nat) : Int))), .int (iI (((b : Nat) : Int))), .int (iI (x))] m p (fun v m' p' => v = some (.int (iI ((k : Nat) : Int))) ∧ p = p' ∧ Fr (fun a_ => a_ = 1 ∨ (117 + 12 * k ≤ a_ ∧ a_ < 117 + 12 * k + 12)) m m' ∧ m' 1 1 = nF (k + 1) ∧ m' (117 + 12 * k) 0 = nF (n + n2) ∧ (∀ r, r < n + n2 → ∀ c, c < n + n2 → m' (117 + 12 * k + 2 + r) c = serA n (fun z => m (117 + 12 * a + 2 + z)) (m (117 + 12 * b + 10)) (m (117 + 12 * a + 11)) (fun z => m (117 + 12 * b + 2 + z)) r c) ∧ (∀ r, r < n + n2 → m' (117 + 12 * k + 10) r = twob n 1 (m (117 + 12 * a + 10)) (m (117 + 12 * a) 4) (m (117 + 12 * b + 10)) r) ∧ (∀ r, r < n + n2 → m' (117 + 12 * k + 11) r = twob n (m (117 + 12 * b) 4) (m (117 + 12 * a + 11)) 1 (m (117 + 12 * b + 11)) r) ∧ m' (117 + 12 * k) 4 = m (117 + 12 * b) 4 * m (117 + 12 * a) 4) := by
  obtain ⟨d, rfl⟩ : ∃ e, d = e + 1 := ⟨d - 1, by omega⟩
  refine ct_go (lv := [some (.ref (1)), some (.int (iI (((a : Nat) : Int)))), some (.int (iI (((b : Nat) : Int)))), some (.int (iI (x))), none, none, none, none]) (Nat.le_of_ble_eq_true rfl) (okar_cons rfl (okar_cons rfl (okar_cons rfl (okar_cons rfl okar_nil)))) rfl (fun Qr hQ => ?_)
  refine rw_blk lk_X9_join_0 ?_
  refine rw_of (fun rr hrr => q_aload_n rfl (q_iload_n rfl hrr)) ?_
  obtain ⟨_, mm1, pp2, hV3, rfl, rfl, rfl⟩ := c_X9_plantOf (S := S) (fz := fz) (m := m) (p := p) (d := d) (by omega) (a) (k) hP hk (by omega) (by omega)
  refine rw_of (fun rr hrr => q_invV hV3 (show SH 1 = (17, 0) from rfl) rfl rfl (okar_cons rfl okar_nil) (Nat.le_of_ble_eq_true rfl) (q_astore (Nat.le_of_ble_eq_true rfl) rfl (q_aload_n rfl (q_iload_n rfl hrr)))) ?_
  obtain ⟨_, mm4, pp5, hV6, rfl, rfl, rfl⟩ := c_X9_plantOf (S := S) (fz := fz) (m := m) (p := p) (d := d) (by omega) (b) (k) hP hk (by omega) (by omega)
  refine rw_of (fun rr hrr => q_invV hV6 (show SH 1 = (17, 0) from rfl) rfl rfl (okar_cons rfl okar_nil) (Nat.le_of_ble_eq_true rfl) (q_astore (Nat.le_of_ble_eq_true rfl) rfl (q_aload rfl (q_getI (PI_pl hP (Or.inr ⟨a, by omega, rfl⟩)).1 rfl (ki rfl hma (by omega)) (q_aload rfl (q_getI (PI_pl hP (Or.inr ⟨b, by omega, rfl⟩)).1 rfl (ki rfl hmb (by omega)) (q_iadd (q_istore (Nat.le_of_ble_eq_true rfl) rfl (q_iload rfl (q_bipush rfl hrr)))))))))) ?_
  refine rw_icmp_le ⟨by omega, by omega⟩ ⟨by omega, by omega⟩ (t := 44) rfl (fun hc7 => ?_) (fun hc7 => ?_)
  · skip
    refine rw_blk lk_X9_join_44 ?_
    refine rw_of (fun rr hrr => q_aload_n rfl (q_iload rfl hrr)) ?_
    obtain ⟨_, mm8, pp9, hV10, rfl, rfl, hw10, hF10⟩ := c_X9_newPlant (S := S) (fz := fz) (m := m) (p := p) (d := d) (by omega) (n + n2) (k) hP hk (by omega) (by omega) (by omega)
    refine rw_of (fun rr hrr => q_invV hV10 (show SH 1 = (17, 0) from rfl) rfl rfl (okar_cons rfl okar_nil) (Nat.le_of_ble_eq_true rfl) (q_astore (Nat.le_of_ble_eq_true rfl) rfl (q_iload_n rfl hrr))) ?_
    refine rw_if_eq ⟨by omega, by omega⟩ (t := 68) rfl (fun hc11 => ?_) (fun hc11 => ?_)
    · exfalso; omega
    · skip
      refine rw_of (fun rr hrr => q_aload rfl (q_aload rfl (q_aload rfl hrr))) ?_
      obtain ⟨_, mm12, pp13, hV14, rfl, rfl, hF14, hv14, hb14, hc14, hd14, hn14⟩ := c_X4_beSeries (S := S) (fz := fz) (m := mm8) (p := p) (d := d) (by omega) (117 + 12 * k) (117 + 12 * a) (117 + 12 * b) (n) (n2) hP (Or.inr ⟨k, by omega, rfl⟩) (Or.inr ⟨a, by omega, rfl⟩) (Or.inr ⟨b, by omega, rfl⟩) (by omega) (by omega) ((congrFun (hF10 (117 + 12 * a) (by show ¬ ((117 + 12 * a) = 1 ∨ (117 + 12 * a) = 117 + 12 * k); omega)) 0).trans hma) ((congrFun (hF10 (117 + 12 * b) (by show ¬ ((117 + 12 * b) = 1 ∨ (117 + 12 * b) = 117 + 12 * k); omega)) 0).trans hmb) (by omega) (by intro r hr c; rw [hF10 _ (by omega)]; exact hz _ (by omega) (by omega) c)
      refine rw_of (fun rr hrr => q_invV hV14 (PI_pl hP (Or.inr ⟨k, by omega, rfl⟩)).1 rfl rfl (okar_cons rfl (okar_cons rfl okar_nil)) (Nat.le_of_ble_eq_true rfl) (q_goto (t := 77) rfl hrr)) ?_
      refine rw_blk lk_X9_join_77 ?_
      refine rw_of (fun rr hrr => q_aload_n rfl (q_getI (show SH 1 = (17, 0) from rfl) rfl (ki (hF14 1 (by show ¬ ((117 + 12 * k) + 2 ≤ 1 ∧ 1 < (117 + 12 * k) + 12 ∨ 1 = (117 + 12 * k)); omega)) (by rw [← hw10, w1_at]) (by omega)) (q_iconst (q_isub hrr)))) ?_
      refine rw_ret hQ (q_ireturn (Or.inl rfl)) ?_
      
      have f1 := hF10
      have fa : ∀ c, c < 12 → mm8 (117 + 12 * a + c) = m (117 + 12 * a + c) := fun c hc => f1 _ (by omega)
      have fb : ∀ c, c < 12 → mm8 (117 + 12 * b + c) = m (117 + 12 * b + c) := fun c hc => f1 _ (by omega)
      have fA : ∀ x, x < k → ∀ z, z < 8 → mm8 (117 + 12 * x + 2 + z) = m (117 + 12 * x + 2 + z) := fun x hx z hz => f1 _ (by omega)
      have eb10 : mm8 (117 + 12 * b + 10) = m (117 + 12 * b + 10) := f1 _ (by omega)
      have ea10 : mm8 (117 + 12 * a + 10) = m (117 + 12 * a + 10) := f1 _ (by omega)
      have eb11 : mm8 (117 + 12 * b + 11) = m (117 + 12 * b + 11) := f1 _ (by omega)
      have ea11 : mm8 (117 + 12 * a + 11) = m (117 + 12 * a + 11) := f1 _ (by omega)
      have ea0 : mm8 (117 + 12 * a) = m (117 + 12 * a) := f1 _ (by omega)
      have eb0 : mm8 (117 + 12 * b) = m (117 + 12 * b) := f1 _ (by omega)
      refine ⟨lvI (by omega), rfl, Fr_trans (Fr_mono f1 (fun c hc => by omega)) (Fr_mono hF14 (fun c hc => by omega)), ?_, ?_, fun r hr c hc => ?_, fun r hr => ?_, fun r hr => ?_, ?_⟩
      · rw [hF14 1 (by omega), ← hw10, w1_at]
      · rw [hn14, ← hw10, w1_ne (by omega), w1_at]
      · rw [hv14 r hr c hc]
        unfold serA
        by_cases q1 : r < n
        · rw [if_pos q1, if_pos q1]
          by_cases q2 : c < n
          · rw [if_pos q2, if_pos q2]
            exact congrFun (fA a (by omega) r (by omega)) c
          · rw [if_neg q2, if_neg q2]
        · rw [if_neg q1, if_neg q1]
          by_cases q2 : c < n
          · rw [if_pos q2, if_pos q2, eb10, ea11]
          · rw [if_neg q2, if_neg q2]
            exact congrFun (fA b (by omega) (r - n) (by omega)) (c - n)
      · rw [hb14 r hr]
        simp only [ea10, eb10, ea0, eb0]
      · rw [hc14 r hr]
        simp only [ea11, eb11, ea0, eb0]
      · rw [hd14]
        simp only [ea0, eb0]
      
  · skip
    exfalso; omega
theorem c_X9_join0 {d : Nat} {S : Env} {fz : Bool} {m : M1} {p : M2} (hd : 7 ≤ d) (a b k n n2 : Nat) (hP : PI p) (hk : m 1 1 = nF k) (hk12 : k ≤ 12) (ha : a < k) (hb : b < k) (hma : m (117 + 12 * a) 0 = nF n) (hmb : m (117 + 12 * b) 0 = nF n2) (hn : 1 ≤ n ∧ n ≤ 8 ∧ 1 ≤ n2 ∧ n2 ≤ 8) (hs : n + n2 ≤ 8) (hk1 : k < 12) (hz : ∀ c, 117 + 12 * k ≤ c → c < 117 + 12 * k + 12 → ∀ j, m c j = 0) : Ct d k_X9_join S fz [.ref (1), .int (iI (((a : Nat) : Int))), .int (iI (((b : Nat) : Int))), .int (iI (0))] m p (fun v m' p' => v = some (.int (iI ((k : Nat) : Int))) ∧ p = p' ∧ Fr (fun a_ => a_ = 1 ∨ (117 + 12 * k ≤ a_ ∧ a_ < 117 + 12 * k + 12)) m m' ∧ m' 1 1 = nF (k + 1) ∧ m' (117 + 12 * k) 0 = nF (n + n2) ∧ (∀ r, r < n + n2 → ∀ c, c < n + n2 → m' (117 + 12 * k + 2 + r) c = sidA n (fun z => m (117 + 12 * a + 2 + z)) (fun z => m (117 + 12 * b + 2 + z)) r c) ∧ (∀ r, r < n + n2 → m' (117 + 12 * k + 10) r = twob n 1 (m (117 + 12 * a + 10)) 1 (m (117 + 12 * b + 10)) r) ∧ (∀ r, r < n + n2 → m' (117 + 12 * k + 11) r = twob n 1 (m (117 + 12 * a + 11)) 1 (m (117 + 12 * b + 11)) r) ∧ m' (117 + 12 * k) 4 = m (117 + 12 * a) 4 + m (117 + 12 * b) 4) := by
  obtain ⟨d, rfl⟩ : ∃ e, d = e + 1 := ⟨d - 1, by omega⟩
  refine ct_go (lv := [some (.ref (1)), some (.int (iI (((a : Nat) : Int)))), some (.int (iI (((b : Nat) : Int)))), some (.int (iI (0))), none, none, none, none]) (Nat.le_of_ble_eq_true rfl) (okar_cons rfl (okar_cons rfl (okar_cons rfl (okar_cons rfl okar_nil)))) rfl (fun Qr hQ => ?_)
  refine rw_blk lk_X9_join_0 ?_
  refine rw_of (fun rr hrr => q_aload_n rfl (q_iload_n rfl hrr)) ?_
  obtain ⟨_, mm1, pp2, hV3, rfl, rfl, rfl⟩ := c_X9_plantOf (S := S) (fz := fz) (m := m) (p := p) (d := d) (by omega) (a) (k) hP hk (by omega) (by omega)
  refine rw_of (fun rr hrr => q_invV hV3 (show SH 1 = (17, 0) from rfl) rfl rfl (okar_cons rfl okar_nil) (Nat.le_of_ble_eq_true rfl) (q_astore (Nat.le_of_ble_eq_true rfl) rfl (q_aload_n rfl (q_iload_n rfl hrr)))) ?_
  obtain ⟨_, mm4, pp5, hV6, rfl, rfl, rfl⟩ := c_X9_plantOf (S := S) (fz := fz) (m := m) (p := p) (d := d) (by omega) (b) (k) hP hk (by omega) (by omega)
  refine rw_of (fun rr hrr => q_invV hV6 (show SH 1 = (17, 0) from rfl) rfl rfl (okar_cons rfl okar_nil) (Nat.le_of_ble_eq_true rfl) (q_astore (Nat.le_of_ble_eq_true rfl) rfl (q_aload rfl (q_getI (PI_pl hP (Or.inr ⟨a, by omega, rfl⟩)).1 rfl (ki rfl hma (by omega)) (q_aload rfl (q_getI (PI_pl hP (Or.inr ⟨b, by omega, rfl⟩)).1 rfl (ki rfl hmb (by omega)) (q_iadd (q_istore (Nat.le_of_ble_eq_true rfl) rfl (q_iload rfl (q_bipush rfl hrr)))))))))) ?_
  refine rw_icmp_le ⟨by omega, by omega⟩ ⟨by omega, by omega⟩ (t := 44) rfl (fun hc7 => ?_) (fun hc7 => ?_)
  · skip
    refine rw_blk lk_X9_join_44 ?_
    refine rw_of (fun rr hrr => q_aload_n rfl (q_iload rfl hrr)) ?_
    obtain ⟨_, mm8, pp9, hV10, rfl, rfl, hw10, hF10⟩ := c_X9_newPlant (S := S) (fz := fz) (m := m) (p := p) (d := d) (by omega) (n + n2) (k) hP hk (by omega) (by omega) (by omega)
    refine rw_of (fun rr hrr => q_invV hV10 (show SH 1 = (17, 0) from rfl) rfl rfl (okar_cons rfl okar_nil) (Nat.le_of_ble_eq_true rfl) (q_astore (Nat.le_of_ble_eq_true rfl) rfl (q_iload_n rfl hrr))) ?_
    refine rw_if_eq ⟨by omega, by omega⟩ (t := 68) rfl (fun hc11 => ?_) (fun hc11 => ?_)
    · skip
      refine rw_blk lk_X9_join_68 ?_
      refine rw_of (fun rr hrr => q_aload rfl (q_aload rfl (q_aload rfl hrr))) ?_
      obtain ⟨_, mm12, pp13, hV14, rfl, rfl, hF14, hv14, hb14, hc14, hd14, hn14⟩ := c_X4_beSideBySide (S := S) (fz := fz) (m := mm8) (p := p) (d := d) (by omega) (117 + 12 * k) (117 + 12 * a) (117 + 12 * b) (n) (n2) hP (Or.inr ⟨k, by omega, rfl⟩) (Or.inr ⟨a, by omega, rfl⟩) (Or.inr ⟨b, by omega, rfl⟩) (by omega) (by omega) ((congrFun (hF10 (117 + 12 * a) (by show ¬ ((117 + 12 * a) = 1 ∨ (117 + 12 * a) = 117 + 12 * k); omega)) 0).trans hma) ((congrFun (hF10 (117 + 12 * b) (by show ¬ ((117 + 12 * b) = 1 ∨ (117 + 12 * b) = 117 + 12 * k); omega)) 0).trans hmb) (by omega) (by intro r hr c; rw [hF10 _ (by omega)]; exact hz _ (by omega) (by omega) c)
      refine rw_of (fun rr hrr => q_invV hV14 (PI_pl hP (Or.inr ⟨k, by omega, rfl⟩)).1 rfl rfl (okar_cons rfl (okar_cons rfl okar_nil)) (Nat.le_of_ble_eq_true rfl) hrr) ?_
      refine rw_blk lk_X9_join_77 ?_
      refine rw_of (fun rr hrr => q_aload_n rfl (q_getI (show SH 1 = (17, 0) from rfl) rfl (ki (hF14 1 (by show ¬ ((117 + 12 * k) + 2 ≤ 1 ∧ 1 < (117 + 12 * k) + 12 ∨ 1 = (117 + 12 * k)); omega)) (by rw [← hw10, w1_at]) (by omega)) (q_iconst (q_isub hrr)))) ?_
      refine rw_ret hQ (q_ireturn (Or.inl rfl)) ?_
      
      have f1 := hF10
      have fa : ∀ c, c < 12 → mm8 (117 + 12 * a + c) = m (117 + 12 * a + c) := fun c hc => f1 _ (by omega)
      have fb : ∀ c, c < 12 → mm8 (117 + 12 * b + c) = m (117 + 12 * b + c) := fun c hc => f1 _ (by omega)
      have fA : ∀ x, x < k → ∀ z, z < 8 → mm8 (117 + 12 * x + 2 + z) = m (117 + 12 * x + 2 + z) := fun x hx z hz => f1 _ (by omega)
      have eb10 : mm8 (117 + 12 * b + 10) = m (117 + 12 * b + 10) := f1 _ (by omega)
      have ea10 : mm8 (117 + 12 * a + 10) = m (117 + 12 * a + 10) := f1 _ (by omega)
      have eb11 : mm8 (117 + 12 * b + 11) = m (117 + 12 * b + 11) := f1 _ (by omega)
      have ea11 : mm8 (117 + 12 * a + 11) = m (117 + 12 * a + 11) := f1 _ (by omega)
      have ea0 : mm8 (117 + 12 * a) = m (117 + 12 * a) := f1 _ (by omega)
      have eb0 : mm8 (117 + 12 * b) = m (117 + 12 * b) := f1 _ (by omega)
      refine ⟨lvI (by omega), rfl, Fr_trans (Fr_mono f1 (fun c hc => by omega)) (Fr_mono hF14 (fun c hc => by omega)), ?_, ?_, fun r hr c hc => ?_, fun r hr => ?_, fun r hr => ?_, ?_⟩
      · rw [hF14 1 (by omega), ← hw10, w1_at]
      · rw [hn14, ← hw10, w1_ne (by omega), w1_at]
      · rw [hv14 r hr c hc]
        unfold sidA
        by_cases q1 : r < n
        · rw [if_pos q1, if_pos q1]
          by_cases q2 : c < n
          · rw [if_pos q2, if_pos q2]
            exact congrFun (fA a (by omega) r (by omega)) c
          · rw [if_neg q2, if_neg q2]
        · rw [if_neg q1, if_neg q1]
          by_cases q2 : c < n
          · rw [if_pos q2, if_pos q2]
          · rw [if_neg q2, if_neg q2]
            exact congrFun (fA b (by omega) (r - n) (by omega)) (c - n)
      · rw [hb14 r hr]
        simp only [ea10, eb10, ea0, eb0]
      · rw [hc14 r hr]
        simp only [ea11, eb11, ea0, eb0]
      · rw [hd14]
        simp only [ea0, eb0]
      
    · exfalso; omega
  · skip
    exfalso; omega
theorem t_X9_joinA {d : Nat} {S : Env} {fz : Bool} {m : M1} {p : M2} (hd : 7 ≤ d) (s : Int) (b : Int) (x : Int) (k : Nat) (hP : PI p) (hk : m 1 1 = nF k) (hk12 : k ≤ 12) (hs : (-2147483648 ≤ s ∧ s < 2147483648) ∧ ¬ (0 ≤ s ∧ s < k)) : Tx d k_X9_join S fz [.ref (1), .int (iI (s)), .int (iI (b)), .int (iI (x))] m p 0 (fun m' p' => m = m' ∧ p = p') := by
  obtain ⟨d, rfl⟩ : ∃ e, d = e + 1 := ⟨d - 1, by omega⟩
  refine tx_go (lv := [some (.ref (1)), some (.int (iI (s))), some (.int (iI (b))), some (.int (iI (x))), none, none, none, none]) (Nat.le_of_ble_eq_true rfl) (okar_cons rfl (okar_cons rfl (okar_cons rfl (okar_cons rfl okar_nil)))) (by decide) (by omega) rfl (fun Qr hQ => ?_)
  refine rw_blk lk_X9_join_0 ?_
  refine rw_of (fun rr hrr => q_aload_n rfl (q_iload_n rfl hrr)) ?_
  obtain ⟨mm1, pp2, hV3, rfl, rfl⟩ := t_X9_plantOf (S := S) (fz := fz) (m := m) (p := p) (d := d) (by omega) (s) (k) hP hk (by omega) (by omega)
  refine rw_end (q_invVx hV3 (by decide) (show SH 1 = (17, 0) from rfl) rfl rfl (okar_cons rfl okar_nil) (Nat.le_of_ble_eq_true rfl)) ?_
  rw [hQ]
  refine ⟨_, _, rfl, ?_⟩
  exact ⟨rfl, rfl⟩
theorem t_X9_joinB {d : Nat} {S : Env} {fz : Bool} {m : M1} {p : M2} (hd : 7 ≤ d) (a : Nat) (s : Int) (x : Int) (k : Nat) (hP : PI p) (hk : m 1 1 = nF k) (hk12 : k ≤ 12) (ha : a < k) (hs : (-2147483648 ≤ s ∧ s < 2147483648) ∧ ¬ (0 ≤ s ∧ s < k)) : Tx d k_X9_join S fz [.ref (1), .int (iI (((a : Nat) : Int))), .int (iI (s)), .int (iI (x))] m p 0 (fun m' p' => m = m' ∧ p = p') := by
  obtain ⟨d, rfl⟩ : ∃ e, d = e + 1 := ⟨d - 1, by omega⟩
  refine tx_go (lv := [some (.ref (1)), some (.int (iI (((a : Nat) : Int)))), some (.int (iI (s))), some (.int (iI (x))), none, none, none, none]) (Nat.le_of_ble_eq_true rfl) (okar_cons rfl (okar_cons rfl (okar_cons rfl (okar_cons rfl okar_nil)))) (by decide) (by omega) rfl (fun Qr hQ => ?_)
  refine rw_blk lk_X9_join_0 ?_
  refine rw_of (fun rr hrr => q_aload_n rfl (q_iload_n rfl hrr)) ?_
  obtain ⟨_, mm1, pp2, hV3, rfl, rfl, rfl⟩ := c_X9_plantOf (S := S) (fz := fz) (m := m) (p := p) (d := d) (by omega) (a) (k) hP hk (by omega) (by omega)
  refine rw_of (fun rr hrr => q_invV hV3 (show SH 1 = (17, 0) from rfl) rfl rfl (okar_cons rfl okar_nil) (Nat.le_of_ble_eq_true rfl) (q_astore (Nat.le_of_ble_eq_true rfl) rfl (q_aload_n rfl (q_iload_n rfl hrr)))) ?_
  obtain ⟨mm4, pp5, hV6, rfl, rfl⟩ := t_X9_plantOf (S := S) (fz := fz) (m := m) (p := p) (d := d) (by omega) (s) (k) hP hk (by omega) (by omega)
  refine rw_end (q_invVx hV6 (by decide) (show SH 1 = (17, 0) from rfl) rfl rfl (okar_cons rfl okar_nil) (Nat.le_of_ble_eq_true rfl)) ?_
  rw [hQ]
  refine ⟨_, _, rfl, ?_⟩
  exact ⟨rfl, rfl⟩
theorem t_X9_joinO {d : Nat} {S : Env} {fz : Bool} {m : M1} {p : M2} (hd : 7 ≤ d) (a b k n n2 : Nat) (x : Int) (hP : PI p) (hk : m 1 1 = nF k) (hk12 : k ≤ 12) (ha : a < k) (hb : b < k) (hma : m (117 + 12 * a) 0 = nF n) (hmb : m (117 + 12 * b) 0 = nF n2) (hn : 1 ≤ n ∧ n ≤ 8 ∧ 1 ≤ n2 ∧ n2 ≤ 8) (hs : 8 < n + n2) : Tx d k_X9_join S fz [.ref (1), .int (iI (((a : Nat) : Int))), .int (iI (((b : Nat) : Int))), .int (iI (x))] m p 2 (fun m' p' => m = m' ∧ p = p') := by
  obtain ⟨d, rfl⟩ : ∃ e, d = e + 1 := ⟨d - 1, by omega⟩
  refine tx_go (lv := [some (.ref (1)), some (.int (iI (((a : Nat) : Int)))), some (.int (iI (((b : Nat) : Int)))), some (.int (iI (x))), none, none, none, none]) (Nat.le_of_ble_eq_true rfl) (okar_cons rfl (okar_cons rfl (okar_cons rfl (okar_cons rfl okar_nil)))) (by decide) (by omega) rfl (fun Qr hQ => ?_)
  refine rw_blk lk_X9_join_0 ?_
  refine rw_of (fun rr hrr => q_aload_n rfl (q_iload_n rfl hrr)) ?_
  obtain ⟨_, mm1, pp2, hV3, rfl, rfl, rfl⟩ := c_X9_plantOf (S := S) (fz := fz) (m := m) (p := p) (d := d) (by omega) (a) (k) hP hk (by omega) (by omega)
  refine rw_of (fun rr hrr => q_invV hV3 (show SH 1 = (17, 0) from rfl) rfl rfl (okar_cons rfl okar_nil) (Nat.le_of_ble_eq_true rfl) (q_astore (Nat.le_of_ble_eq_true rfl) rfl (q_aload_n rfl (q_iload_n rfl hrr)))) ?_
  obtain ⟨_, mm4, pp5, hV6, rfl, rfl, rfl⟩ := c_X9_plantOf (S := S) (fz := fz) (m := m) (p := p) (d := d) (by omega) (b) (k) hP hk (by omega) (by omega)
  refine rw_of (fun rr hrr => q_invV hV6 (show SH 1 = (17, 0) from rfl) rfl rfl (okar_cons rfl okar_nil) (Nat.le_of_ble_eq_true rfl) (q_astore (Nat.le_of_ble_eq_true rfl) rfl (q_aload rfl (q_getI (PI_pl hP (Or.inr ⟨a, by omega, rfl⟩)).1 rfl (ki rfl hma (by omega)) (q_aload rfl (q_getI (PI_pl hP (Or.inr ⟨b, by omega, rfl⟩)).1 rfl (ki rfl hmb (by omega)) (q_iadd (q_istore (Nat.le_of_ble_eq_true rfl) rfl (q_iload rfl (q_bipush rfl hrr)))))))))) ?_
  refine rw_icmp_le ⟨by omega, by omega⟩ ⟨by omega, by omega⟩ (t := 44) rfl (fun hc7 => ?_) (fun hc7 => ?_)
  · skip
    refine rw_blk lk_X9_join_44 ?_
    refine rw_of (fun rr hrr => q_aload_n rfl (q_iload rfl hrr)) ?_
    obtain ⟨_, mm8, pp9, hV10, rfl, rfl, hw10, hF10⟩ := c_X9_newPlant (S := S) (fz := fz) (m := m) (p := p) (d := d) (by omega) (n + n2) (k) hP hk (by omega) (by omega) (by omega)
    refine rw_of (fun rr hrr => q_invV hV10 (show SH 1 = (17, 0) from rfl) rfl rfl (okar_cons rfl okar_nil) (Nat.le_of_ble_eq_true rfl) (q_astore (Nat.le_of_ble_eq_true rfl) rfl (q_iload_n rfl hrr))) ?_
    refine rw_if_eq ⟨by omega, by omega⟩ (t := 68) rfl (fun hc11 => ?_) (fun hc11 => ?_)
    · skip
      refine rw_blk lk_X9_join_68 ?_
      refine rw_of (fun rr hrr => q_aload rfl (q_aload rfl (q_aload rfl hrr))) ?_
      exfalso; omega
    · skip
      refine rw_of (fun rr hrr => q_aload rfl (q_aload rfl (q_aload rfl hrr))) ?_
      exfalso; omega
  · skip
    refine rw_end (q_throw (by decide) (by decide +kernel) rfl) ?_
    rw [hQ]
    refine ⟨_, _, rfl, ?_⟩
    exact ⟨rfl, rfl⟩
theorem t_X9_joinF {d : Nat} {S : Env} {fz : Bool} {m : M1} {p : M2} (hd : 7 ≤ d) (a b k n n2 : Nat) (x : Int) (hP : PI p) (hk : m 1 1 = nF k) (hk12 : k ≤ 12) (ha : a < k) (hb : b < k) (hma : m (117 + 12 * a) 0 = nF n) (hmb : m (117 + 12 * b) 0 = nF n2) (hn : 1 ≤ n ∧ n ≤ 8 ∧ 1 ≤ n2 ∧ n2 ≤ 8) (hs : n + n2 ≤ 8) (hk1 : 12 ≤ k) : Tx d k_X9_join S fz [.ref (1), .int (iI (((a : Nat) : Int))), .int (iI (((b : Nat) : Int))), .int (iI (x))] m p 2 (fun m' p' => m = m' ∧ p = p') := by
  obtain ⟨d, rfl⟩ : ∃ e, d = e + 1 := ⟨d - 1, by omega⟩
  refine tx_go (lv := [some (.ref (1)), some (.int (iI (((a : Nat) : Int)))), some (.int (iI (((b : Nat) : Int)))), some (.int (iI (x))), none, none, none, none]) (Nat.le_of_ble_eq_true rfl) (okar_cons rfl (okar_cons rfl (okar_cons rfl (okar_cons rfl okar_nil)))) (by decide) (by omega) rfl (fun Qr hQ => ?_)
  refine rw_blk lk_X9_join_0 ?_
  refine rw_of (fun rr hrr => q_aload_n rfl (q_iload_n rfl hrr)) ?_
  obtain ⟨_, mm1, pp2, hV3, rfl, rfl, rfl⟩ := c_X9_plantOf (S := S) (fz := fz) (m := m) (p := p) (d := d) (by omega) (a) (k) hP hk (by omega) (by omega)
  refine rw_of (fun rr hrr => q_invV hV3 (show SH 1 = (17, 0) from rfl) rfl rfl (okar_cons rfl okar_nil) (Nat.le_of_ble_eq_true rfl) (q_astore (Nat.le_of_ble_eq_true rfl) rfl (q_aload_n rfl (q_iload_n rfl hrr)))) ?_
  obtain ⟨_, mm4, pp5, hV6, rfl, rfl, rfl⟩ := c_X9_plantOf (S := S) (fz := fz) (m := m) (p := p) (d := d) (by omega) (b) (k) hP hk (by omega) (by omega)
  refine rw_of (fun rr hrr => q_invV hV6 (show SH 1 = (17, 0) from rfl) rfl rfl (okar_cons rfl okar_nil) (Nat.le_of_ble_eq_true rfl) (q_astore (Nat.le_of_ble_eq_true rfl) rfl (q_aload rfl (q_getI (PI_pl hP (Or.inr ⟨a, by omega, rfl⟩)).1 rfl (ki rfl hma (by omega)) (q_aload rfl (q_getI (PI_pl hP (Or.inr ⟨b, by omega, rfl⟩)).1 rfl (ki rfl hmb (by omega)) (q_iadd (q_istore (Nat.le_of_ble_eq_true rfl) rfl (q_iload rfl (q_bipush rfl hrr)))))))))) ?_
  refine rw_icmp_le ⟨by omega, by omega⟩ ⟨by omega, by omega⟩ (t := 44) rfl (fun hc7 => ?_) (fun hc7 => ?_)
  · skip
    refine rw_blk lk_X9_join_44 ?_
    refine rw_of (fun rr hrr => q_aload_n rfl (q_iload rfl hrr)) ?_
    obtain ⟨mm8, pp9, hV10, rfl, rfl⟩ := t_X9_newPlant (S := S) (fz := fz) (m := m) (p := p) (d := d) (by omega) (n + n2) (k) hP hk (by omega) (by omega)
    refine rw_end (q_invVx hV10 (by decide) (show SH 1 = (17, 0) from rfl) rfl rfl (okar_cons rfl okar_nil) (Nat.le_of_ble_eq_true rfl)) ?_
    rw [hQ]
    refine ⟨_, _, rfl, ?_⟩
    exact ⟨rfl, rfl⟩
  · skip
    refine rw_end (q_throw (by decide) (by decide +kernel) rfl) ?_
    rw [hQ]
    refine ⟨_, _, rfl, ?_⟩
    exact ⟨rfl, rfl⟩
theorem c_X9_loop {d : Nat} {S : Env} {fz : Bool} {m : M1} {p : M2} (hd : 7 ≤ d) (s k n : Nat) (x : Int) (hP : PI p) (hk : m 1 1 = nF k) (hk12 : k ≤ 12) (hsk : s < k) (hm : m (117 + 12 * s) 0 = nF n) (hn0 : 1 ≤ n) (hn : n ≤ 8) (hx : -10007 < x ∧ x < 10007) (hs0 : (1 + toF x * m (117 + 12 * s) 4) ≠ 0) (hk1 : k < 12) : Ct d k_X9_loop S fz [.ref (1), .int (iI (((s : Nat) : Int))), .int (iI (x))] m p (fun v m' p' => v = some (.int (iI ((k : Nat) : Int))) ∧ PI p' ∧ Fr (fun a_ => a_ = 1 ∨ (117 + 12 * k ≤ a_ ∧ a_ < 117 + 12 * k + 12)) m m' ∧ m' 1 1 = nF (k + 1) ∧ m' (117 + 12 * k) 0 = nF (n) ∧ (∀ r, r < n → ∀ c, c < n → m' (117 + 12 * k + 2 + r) c = m (117 + 12 * s + 2 + r) c - toF x * iv (1 + toF x * m (117 + 12 * s) 4) * m (117 + 12 * s + 10) r * m (117 + 12 * s + 11) c) ∧ (∀ r, r < n → m' (117 + 12 * k + 10) r = 1 * iv (1 + toF x * m (117 + 12 * s) 4) * m (117 + 12 * s + 10) r ∧ m' (117 + 12 * k + 11) r = 1 * iv (1 + toF x * m (117 + 12 * s) 4) * m (117 + 12 * s + 11) r) ∧ m' (117 + 12 * k) 4 = 1 * iv (1 + toF x * m (117 + 12 * s) 4) * m (117 + 12 * s) 4) := by
  obtain ⟨d, rfl⟩ : ∃ e, d = e + 1 := ⟨d - 1, by omega⟩
  refine ct_go (lv := [some (.ref (1)), some (.int (iI (((s : Nat) : Int)))), some (.int (iI (x))), none, none, none]) (Nat.le_of_ble_eq_true rfl) (okar_cons rfl (okar_cons rfl (okar_cons rfl okar_nil))) rfl (fun Qr hQ => ?_)
  refine rw_blk lk_X9_loop_0 ?_
  refine rw_of (fun rr hrr => q_aload_n rfl (q_iload_n rfl hrr)) ?_
  obtain ⟨_, mm1, pp2, hV3, rfl, rfl, rfl⟩ := c_X9_plantOf (S := S) (fz := fz) (m := m) (p := p) (d := d) (by omega) (s) (k) hP hk (by omega) (by omega)
  refine rw_of (fun rr hrr => q_invV hV3 (show SH 1 = (17, 0) from rfl) rfl rfl (okar_cons rfl okar_nil) (Nat.le_of_ble_eq_true rfl) (q_astore_n (Nat.le_of_ble_eq_true rfl) rfl (q_iload_n rfl hrr))) ?_
  obtain ⟨_, mm4, pp5, hV6, rfl, rfl, rfl⟩ := c_X9_requireValue (S := S) (fz := fz) (m := m) (p := p) (d := d) (by omega) (x) (by omega)
  refine rw_of (fun rr hrr => q_invS hV6 rfl rfl (okar_cons rfl okar_nil) (Nat.le_of_ble_eq_true rfl) (q_iload_n rfl hrr)) ?_
  obtain ⟨_, mm7, pp8, hV9, rfl, rfl, rfl⟩ := c_X2_remainder (S := S) (fz := fz) (m := m) (p := p) (d := d) (by omega) (x) (by omega)
  refine rw_of (fun rr hrr => q_invS hV9 rfl rfl (okar_cons rfl okar_nil) (Nat.le_of_ble_eq_true rfl) (q_istore (Nat.le_of_ble_eq_true rfl) rfl (q_iconst (q_iload rfl (q_aload_n rfl (q_getI (PI_pl hP (Or.inr ⟨s, by omega, rfl⟩)).1 rfl rfl hrr)))))) ?_
  obtain ⟨_, mm10, pp11, hV12, rfl, rfl, rfl⟩ := c_X2_times (S := S) (fz := fz) (m := m) (p := p) (d := d) (by omega) (toF x) (m (117 + 12 * s) 4)
  refine rw_of (fun rr hrr => q_invS hV12 rfl rfl (okar_cons rfl (okar_cons rfl okar_nil)) (Nat.le_of_ble_eq_true rfl) hrr) ?_
  obtain ⟨_, mm13, pp14, hV15, rfl, rfl, rfl⟩ := c_X2_plus (S := S) (fz := fz) (m := m) (p := p) (d := d) (by omega) ((1 : F)) ((toF x) * (m (117 + 12 * s) 4))
  refine rw_of (fun rr hrr => q_invS hV15 rfl rfl (okar_cons rfl (okar_cons rfl okar_nil)) (Nat.le_of_ble_eq_true rfl) (q_istore (Nat.le_of_ble_eq_true rfl) rfl (q_iload rfl hrr))) ?_
  refine rw_if_ne (rg_vF _) (t := 46) rfl (fun hc16 => ?_) (fun hc16 => ?_)
  · skip
    refine rw_blk lk_X9_loop_46 ?_
    refine rw_of (fun rr hrr => q_aload_n rfl (q_aload_n rfl (q_getI (PI_pl hP (Or.inr ⟨s, by omega, rfl⟩)).1 rfl (ki rfl hm (by omega)) hrr))) ?_
    obtain ⟨_, mm17, pp18, hV19, rfl, rfl, hw19, hF19⟩ := c_X9_newPlant (S := S) (fz := fz) (m := m) (p := p) (d := d) (by omega) (n) (k) hP hk (by omega) (by omega) (by omega)
    refine rw_of (fun rr hrr => q_invV hV19 (show SH 1 = (17, 0) from rfl) rfl rfl (okar_cons rfl okar_nil) (Nat.le_of_ble_eq_true rfl) (q_aload_n rfl (q_iload rfl (q_iload rfl hrr)))) ?_
    obtain ⟨_, mm20, pp21, hV22, rfl, rfl, hF22, hv22, hb22, hd22, hn22⟩ := c_X4_beLoop (S := S) (fz := fz) (m := mm17) (p := p) (d := d) (by omega) (117 + 12 * k) (117 + 12 * s) (n) (toF x) (((1 : F)) + ((toF x) * (m (117 + 12 * s) 4))) hP (Or.inr ⟨k, by omega, rfl⟩) (Or.inr ⟨s, by omega, rfl⟩) (by omega) (by rw [← hw19, w1_ne (by omega), w1_at]) (by omega)
    refine rw_of (fun rr hrr => q_invV hV22 (PI_pl hP (Or.inr ⟨k, by omega, rfl⟩)).1 rfl rfl (okar_cons rfl (okar_cons rfl (okar_cons rfl okar_nil))) (Nat.le_of_ble_eq_true rfl) (q_aload_n rfl (q_getI (show SH 1 = (17, 0) from rfl) rfl (ki (hF22 1 (by show ¬ ((117 + 12 * k) + 2 ≤ 1 ∧ 1 < (117 + 12 * k) + 12 ∨ 1 = (117 + 12 * k)); omega)) (by rw [← hw19, w1_at]) (by omega)) (q_iconst (q_isub hrr))))) ?_
    refine rw_ret hQ (q_ireturn (Or.inl rfl)) ?_
    
    have f1 := hF19
    have fA : ∀ z, mm17 (117 + 12 * s + 2 + z) = m (117 + 12 * s + 2 + z) ∨ 8 ≤ z := fun z => (Nat.lt_or_ge z 8).elim (fun h9 => Or.inl (f1 _ (by omega))) Or.inr
    refine ⟨lvI (by omega), hP, Fr_trans (Fr_mono f1 (fun c hc => by omega)) (Fr_mono hF22 (fun c hc => by omega)), ?_, ?_, fun r hr c hc => ?_, fun r hr => ?_, ?_⟩
    · rw [hF22 1 (by omega), ← hw19, w1_at]
    · rw [hn22, ← hw19, w1_ne (by omega), w1_at]
    · rw [hv22 r hr c hc, (fA r).resolve_right (by omega), f1 (117 + 12 * s + 10) (by omega), f1 (117 + 12 * s + 11) (by omega)]
    · rw [(hb22 r hr).1, (hb22 r hr).2, f1 (117 + 12 * s + 10) (by omega), f1 (117 + 12 * s + 11) (by omega)]
      exact ⟨rfl, rfl⟩
    · rw [hd22, f1 (117 + 12 * s) (by omega)]
    
  · exact absurd (vF_eq0.mp hc16) hs0
theorem t_X9_loopX {d : Nat} {S : Env} {fz : Bool} {m : M1} {p : M2} (hd : 7 ≤ d) (s k n : Nat) (x : Int) (hP : PI p) (hk : m 1 1 = nF k) (hk12 : k ≤ 12) (hsk : s < k) (hm : m (117 + 12 * s) 0 = nF n) (hn0 : 1 ≤ n) (hn : n ≤ 8) (hr : (-2147483648 ≤ x ∧ x < 2147483648)) (h : x ≤ -10007 ∨ 10007 ≤ x) : Tx d k_X9_loop S fz [.ref (1), .int (iI (((s : Nat) : Int))), .int (iI (x))] m p 1 (fun m' p' => m = m' ∧ p = p') := by
  obtain ⟨d, rfl⟩ : ∃ e, d = e + 1 := ⟨d - 1, by omega⟩
  refine tx_go (lv := [some (.ref (1)), some (.int (iI (((s : Nat) : Int)))), some (.int (iI (x))), none, none, none]) (Nat.le_of_ble_eq_true rfl) (okar_cons rfl (okar_cons rfl (okar_cons rfl okar_nil))) (by decide) (by omega) rfl (fun Qr hQ => ?_)
  refine rw_blk lk_X9_loop_0 ?_
  refine rw_of (fun rr hrr => q_aload_n rfl (q_iload_n rfl hrr)) ?_
  obtain ⟨_, mm1, pp2, hV3, rfl, rfl, rfl⟩ := c_X9_plantOf (S := S) (fz := fz) (m := m) (p := p) (d := d) (by omega) (s) (k) hP hk (by omega) (by omega)
  refine rw_of (fun rr hrr => q_invV hV3 (show SH 1 = (17, 0) from rfl) rfl rfl (okar_cons rfl okar_nil) (Nat.le_of_ble_eq_true rfl) (q_astore_n (Nat.le_of_ble_eq_true rfl) rfl (q_iload_n rfl hrr))) ?_
  obtain ⟨mm4, pp5, hV6, rfl, rfl⟩ := t_X9_requireValue (S := S) (fz := fz) (m := m) (p := p) (d := d) (by omega) (x) (by omega) (by omega)
  refine rw_end (q_invSx hV6 (by decide) rfl rfl (okar_cons rfl okar_nil) (Nat.le_of_ble_eq_true rfl)) ?_
  rw [hQ]
  refine ⟨_, _, rfl, ?_⟩
  exact ⟨rfl, rfl⟩
theorem t_X9_loopS {d : Nat} {S : Env} {fz : Bool} {m : M1} {p : M2} (hd : 7 ≤ d) (s k n : Nat) (x : Int) (hP : PI p) (hk : m 1 1 = nF k) (hk12 : k ≤ 12) (hsk : s < k) (hm : m (117 + 12 * s) 0 = nF n) (hn0 : 1 ≤ n) (hn : n ≤ 8) (hx : -10007 < x ∧ x < 10007) (hs0 : (1 + toF x * m (117 + 12 * s) 4) = 0) : Tx d k_X9_loop S fz [.ref (1), .int (iI (((s : Nat) : Int))), .int (iI (x))] m p 2 (fun m' p' => m = m' ∧ p = p') := by
  obtain ⟨d, rfl⟩ : ∃ e, d = e + 1 := ⟨d - 1, by omega⟩
  refine tx_go (lv := [some (.ref (1)), some (.int (iI (((s : Nat) : Int)))), some (.int (iI (x))), none, none, none]) (Nat.le_of_ble_eq_true rfl) (okar_cons rfl (okar_cons rfl (okar_cons rfl okar_nil))) (by decide) (by omega) rfl (fun Qr hQ => ?_)
  refine rw_blk lk_X9_loop_0 ?_
  refine rw_of (fun rr hrr => q_aload_n rfl (q_iload_n rfl hrr)) ?_
  obtain ⟨_, mm1, pp2, hV3, rfl, rfl, rfl⟩ := c_X9_plantOf (S := S) (fz := fz) (m := m) (p := p) (d := d) (by omega) (s) (k) hP hk (by omega) (by omega)
  refine rw_of (fun rr hrr => q_invV hV3 (show SH 1 = (17, 0) from rfl) rfl rfl (okar_cons rfl okar_nil) (Nat.le_of_ble_eq_true rfl) (q_astore_n (Nat.le_of_ble_eq_true rfl) rfl (q_iload_n rfl hrr))) ?_
  obtain ⟨_, mm4, pp5, hV6, rfl, rfl, rfl⟩ := c_X9_requireValue (S := S) (fz := fz) (m := m) (p := p) (d := d) (by omega) (x) (by omega)
  refine rw_of (fun rr hrr => q_invS hV6 rfl rfl (okar_cons rfl okar_nil) (Nat.le_of_ble_eq_true rfl) (q_iload_n rfl hrr)) ?_
  obtain ⟨_, mm7, pp8, hV9, rfl, rfl, rfl⟩ := c_X2_remainder (S := S) (fz := fz) (m := m) (p := p) (d := d) (by omega) (x) (by omega)
  refine rw_of (fun rr hrr => q_invS hV9 rfl rfl (okar_cons rfl okar_nil) (Nat.le_of_ble_eq_true rfl) (q_istore (Nat.le_of_ble_eq_true rfl) rfl (q_iconst (q_iload rfl (q_aload_n rfl (q_getI (PI_pl hP (Or.inr ⟨s, by omega, rfl⟩)).1 rfl rfl hrr)))))) ?_
  obtain ⟨_, mm10, pp11, hV12, rfl, rfl, rfl⟩ := c_X2_times (S := S) (fz := fz) (m := m) (p := p) (d := d) (by omega) (toF x) (m (117 + 12 * s) 4)
  refine rw_of (fun rr hrr => q_invS hV12 rfl rfl (okar_cons rfl (okar_cons rfl okar_nil)) (Nat.le_of_ble_eq_true rfl) hrr) ?_
  obtain ⟨_, mm13, pp14, hV15, rfl, rfl, rfl⟩ := c_X2_plus (S := S) (fz := fz) (m := m) (p := p) (d := d) (by omega) ((1 : F)) ((toF x) * (m (117 + 12 * s) 4))
  refine rw_of (fun rr hrr => q_invS hV15 rfl rfl (okar_cons rfl (okar_cons rfl okar_nil)) (Nat.le_of_ble_eq_true rfl) (q_istore (Nat.le_of_ble_eq_true rfl) rfl (q_iload rfl hrr))) ?_
  refine rw_if_ne (rg_vF _) (t := 46) rfl (fun hc16 => ?_) (fun hc16 => ?_)
  · exact absurd (vF_eq0.mpr hs0) hc16
  · skip
    refine rw_end (q_throw (by decide) (by decide +kernel) rfl) ?_
    rw [hQ]
    refine ⟨_, _, rfl, ?_⟩
    exact ⟨rfl, rfl⟩
theorem t_X9_loopF {d : Nat} {S : Env} {fz : Bool} {m : M1} {p : M2} (hd : 7 ≤ d) (s k n : Nat) (x : Int) (hP : PI p) (hk : m 1 1 = nF k) (hk12 : k ≤ 12) (hsk : s < k) (hm : m (117 + 12 * s) 0 = nF n) (hn0 : 1 ≤ n) (hn : n ≤ 8) (hx : -10007 < x ∧ x < 10007) (hs0 : (1 + toF x * m (117 + 12 * s) 4) ≠ 0) (hk1 : 12 ≤ k) : Tx d k_X9_loop S fz [.ref (1), .int (iI (((s : Nat) : Int))), .int (iI (x))] m p 2 (fun m' p' => m = m' ∧ p = p') := by
  obtain ⟨d, rfl⟩ : ∃ e, d = e + 1 := ⟨d - 1, by omega⟩
  refine tx_go (lv := [some (.ref (1)), some (.int (iI (((s : Nat) : Int)))), some (.int (iI (x))), none, none, none]) (Nat.le_of_ble_eq_true rfl) (okar_cons rfl (okar_cons rfl (okar_cons rfl okar_nil))) (by decide) (by omega) rfl (fun Qr hQ => ?_)
  refine rw_blk lk_X9_loop_0 ?_
  refine rw_of (fun rr hrr => q_aload_n rfl (q_iload_n rfl hrr)) ?_
  obtain ⟨_, mm1, pp2, hV3, rfl, rfl, rfl⟩ := c_X9_plantOf (S := S) (fz := fz) (m := m) (p := p) (d := d) (by omega) (s) (k) hP hk (by omega) (by omega)
  refine rw_of (fun rr hrr => q_invV hV3 (show SH 1 = (17, 0) from rfl) rfl rfl (okar_cons rfl okar_nil) (Nat.le_of_ble_eq_true rfl) (q_astore_n (Nat.le_of_ble_eq_true rfl) rfl (q_iload_n rfl hrr))) ?_
  obtain ⟨_, mm4, pp5, hV6, rfl, rfl, rfl⟩ := c_X9_requireValue (S := S) (fz := fz) (m := m) (p := p) (d := d) (by omega) (x) (by omega)
  refine rw_of (fun rr hrr => q_invS hV6 rfl rfl (okar_cons rfl okar_nil) (Nat.le_of_ble_eq_true rfl) (q_iload_n rfl hrr)) ?_
  obtain ⟨_, mm7, pp8, hV9, rfl, rfl, rfl⟩ := c_X2_remainder (S := S) (fz := fz) (m := m) (p := p) (d := d) (by omega) (x) (by omega)
  refine rw_of (fun rr hrr => q_invS hV9 rfl rfl (okar_cons rfl okar_nil) (Nat.le_of_ble_eq_true rfl) (q_istore (Nat.le_of_ble_eq_true rfl) rfl (q_iconst (q_iload rfl (q_aload_n rfl (q_getI (PI_pl hP (Or.inr ⟨s, by omega, rfl⟩)).1 rfl rfl hrr)))))) ?_
  obtain ⟨_, mm10, pp11, hV12, rfl, rfl, rfl⟩ := c_X2_times (S := S) (fz := fz) (m := m) (p := p) (d := d) (by omega) (toF x) (m (117 + 12 * s) 4)
  refine rw_of (fun rr hrr => q_invS hV12 rfl rfl (okar_cons rfl (okar_cons rfl okar_nil)) (Nat.le_of_ble_eq_true rfl) hrr) ?_
  obtain ⟨_, mm13, pp14, hV15, rfl, rfl, rfl⟩ := c_X2_plus (S := S) (fz := fz) (m := m) (p := p) (d := d) (by omega) ((1 : F)) ((toF x) * (m (117 + 12 * s) 4))
  refine rw_of (fun rr hrr => q_invS hV15 rfl rfl (okar_cons rfl (okar_cons rfl okar_nil)) (Nat.le_of_ble_eq_true rfl) (q_istore (Nat.le_of_ble_eq_true rfl) rfl (q_iload rfl hrr))) ?_
  refine rw_if_ne (rg_vF _) (t := 46) rfl (fun hc16 => ?_) (fun hc16 => ?_)
  · skip
    refine rw_blk lk_X9_loop_46 ?_
    refine rw_of (fun rr hrr => q_aload_n rfl (q_aload_n rfl (q_getI (PI_pl hP (Or.inr ⟨s, by omega, rfl⟩)).1 rfl (ki rfl hm (by omega)) hrr))) ?_
    obtain ⟨mm17, pp18, hV19, rfl, rfl⟩ := t_X9_newPlant (S := S) (fz := fz) (m := m) (p := p) (d := d) (by omega) (n) (k) hP hk (by omega) (by omega)
    refine rw_end (q_invVx hV19 (by decide) (show SH 1 = (17, 0) from rfl) rfl rfl (okar_cons rfl okar_nil) (Nat.le_of_ble_eq_true rfl)) ?_
    rw [hQ]
    refine ⟨_, _, rfl, ?_⟩
    exact ⟨rfl, rfl⟩
  · exact absurd (vF_eq0.mp hc16) hs0
theorem c_X9_placed {d : Nat} {S : Env} {fz : Bool} {m : M1} {p : M2} (hd : 8 ≤ d) (s k n cp : Nat) (hP : PI p) (hk : m 1 1 = nF k) (hk12 : k ≤ 12) (hsk : s < k) (hm : m (117 + 12 * s) 0 = nF n) (hn0 : 1 ≤ n) (hn : n ≤ 8) (hcp : m 3 1 = nF cp) (hcpl : cp ≤ 16) (h : n ≤ cp) (hr : rk n (kr n (fun z => m (117 + 12 * s + 2 + z)) (m (117 + 12 * s + 10))) = n) (hk1 : k < 12) : Ct d k_X9_placed S fz [.ref (1), .int (iI (((s : Nat) : Int)))] m p (fun v m' p' => ∃ x, v = some (.int (iI ((k : Nat) : Int))) ∧ PI p' ∧ Fr (fun a_ => (7 ≤ a_ ∧ a_ < 117) ∨ a_ = 1 ∨ (117 + 12 * k ≤ a_ ∧ a_ < 117 + 12 * k + 12)) m m' ∧ m' 1 1 = nF (k + 1) ∧ m' (117 + 12 * k) 0 = nF (n) ∧ (∀ r, r < n → ∀ c, c < n → m' (117 + 12 * k + 2 + r) c = m (117 + 12 * s + 2 + r) c - m (117 + 12 * s + 10) r * av n (fun z => m (117 + 12 * s + 2 + z)) (m 4) x n c) ∧ (∀ r, r < n → m' (117 + 12 * k + 10) r = m (117 + 12 * s + 10) r ∧ m' (117 + 12 * k + 11) r = m (117 + 12 * s + 11) r) ∧ m' (117 + 12 * k) 4 = m (117 + 12 * s) 4 ∧ (∀ i, i < n → dot n ((kr n (fun z => m (117 + 12 * s + 2 + z)) (m (117 + 12 * s + 10))) i) x = if i + 1 = n then 1 else 0)) := by
  obtain ⟨d, rfl⟩ : ∃ e, d = e + 1 := ⟨d - 1, by omega⟩
  refine ct_go (lv := [some (.ref (1)), some (.int (iI (((s : Nat) : Int)))), none]) (Nat.le_of_ble_eq_true rfl) (okar_cons rfl (okar_cons rfl okar_nil)) rfl (fun Qr hQ => ?_)
  refine rw_blk lk_X9_placed_0 ?_
  refine rw_of (fun rr hrr => q_aload_n rfl (q_iload_n rfl hrr)) ?_
  obtain ⟨_, mm1, pp2, hV3, rfl, rfl, rfl⟩ := c_X9_plantOf (S := S) (fz := fz) (m := m) (p := p) (d := d) (by omega) (s) (k) hP hk (by omega) (by omega)
  refine rw_of (fun rr hrr => q_invV hV3 (show SH 1 = (17, 0) from rfl) rfl rfl (okar_cons rfl okar_nil) (Nat.le_of_ble_eq_true rfl) (q_astore_n (Nat.le_of_ble_eq_true rfl) rfl (q_aload_n rfl (q_aload_n rfl hrr)))) ?_
  obtain ⟨_, mm4, pp5, hV6, x6, rfl, hP6, hF6, hx6, hv6⟩ := c_X9_findGains (S := S) (fz := fz) (m := m) (p := p) (d := d) (by omega) (117 + 12 * s) (n) (cp) hP (Or.inr ⟨s, by omega, rfl⟩) hm (by omega) (by omega) hcp (by omega) (by omega) (hr)
  refine rw_of (fun rr hrr => q_invV hV6 (show SH 1 = (17, 0) from rfl) rfl rfl (okar_cons rfl okar_nil) (Nat.le_of_ble_eq_true rfl) (q_aload_n rfl (q_aload_n rfl (q_getI (PI_pl hP6 (Or.inr ⟨s, by omega, rfl⟩)).1 rfl (ki (hF6 (117 + 12 * s) (by show ¬ (7 ≤ (117 + 12 * s) ∧ (117 + 12 * s) < 117); omega)) hm (by omega)) hrr)))) ?_
  obtain ⟨_, mm7, pp8, hV9, rfl, rfl, hw9, hF9⟩ := c_X9_newPlant (S := S) (fz := fz) (m := mm4) (p := pp5) (d := d) (by omega) (n) (k) hP6 ((congrFun (hF6 1 (by show ¬ (7 ≤ 1 ∧ 1 < 117); omega)) 1).trans hk) (by omega) (by omega) (by omega)
  refine rw_of (fun rr hrr => q_invV hV9 (show SH 1 = (17, 0) from rfl) rfl rfl (okar_cons rfl okar_nil) (Nat.le_of_ble_eq_true rfl) (q_aload_n rfl (q_aload_n rfl (q_getR (show SH 1 = (17, 0) from rfl) rfl (pt_1_6 hP6) hrr)))) ?_
  obtain ⟨_, mm10, pp11, hV12, rfl, rfl, hF12, hv12, hb12, hd12, hn12⟩ := c_X4_bePlaced (S := S) (fz := fz) (m := mm7) (p := pp5) (d := d) (by omega) (117 + 12 * k) (117 + 12 * s) (n) (33) hP6 (Or.inr ⟨k, by omega, rfl⟩) (Or.inr ⟨s, by omega, rfl⟩) (by omega) (by rw [← hw9, w1_ne (by omega), w1_at]) (by omega) (by omega)
  refine rw_of (fun rr hrr => q_invV hV12 (PI_pl hP6 (Or.inr ⟨k, by omega, rfl⟩)).1 rfl rfl (okar_cons rfl (okar_cons rfl okar_nil)) (Nat.le_of_ble_eq_true rfl) (q_aload_n rfl (q_getI (show SH 1 = (17, 0) from rfl) rfl (ki (hF12 1 (by show ¬ ((117 + 12 * k) + 2 ≤ 1 ∧ 1 < (117 + 12 * k) + 12 ∨ 1 = (117 + 12 * k)); omega)) (by rw [← hw9, w1_at]) (by omega)) (q_iconst (q_isub hrr))))) ?_
  refine rw_ret hQ (q_ireturn (Or.inl rfl)) ?_
  
  have f0 := hF6
  have f1 := hF9
  have fA : ∀ z, mm7 (117 + 12 * s + 2 + z) = m (117 + 12 * s + 2 + z) ∨ 8 ≤ z := fun z => (Nat.lt_or_ge z 8).elim (fun h9 => Or.inl ((f1 _ (by omega)).trans (f0 _ (by omega)))) Or.inr
  refine ⟨x6, lvI (by omega), hP6, Fr_trans (Fr_mono f0 (fun c hc => by omega)) (Fr_trans (Fr_mono f1 (fun c hc => by omega)) (Fr_mono hF12 (fun c hc => by omega))), ?_, ?_, fun r hr c hc => ?_, fun r hr => ?_, ?_, hx6⟩
  · rw [hF12 1 (by omega), ← hw9, w1_at]
  · rw [hn12, ← hw9, w1_ne (by omega), w1_at]
  · rw [hv12 r hr c hc, (fA r).resolve_right (by omega), f1 (117 + 12 * s + 10) (by omega), f0 (117 + 12 * s + 10) (by omega), f1 33 (by omega), hv6 c hc]
  · rw [(hb12 r hr).1, (hb12 r hr).2, f1 (117 + 12 * s + 10) (by omega), f1 (117 + 12 * s + 11) (by omega), f0 (117 + 12 * s + 10) (by omega), f0 (117 + 12 * s + 11) (by omega)]
    exact ⟨rfl, rfl⟩
  · rw [hd12, f1 (117 + 12 * s) (by omega), f0 (117 + 12 * s) (by omega)]
  
theorem t_X9_placedC {d : Nat} {S : Env} {fz : Bool} {m : M1} {p : M2} (hd : 8 ≤ d) (s k n cp : Nat) (hP : PI p) (hk : m 1 1 = nF k) (hk12 : k ≤ 12) (hsk : s < k) (hm : m (117 + 12 * s) 0 = nF n) (hn0 : 1 ≤ n) (hn : n ≤ 8) (hcp : m 3 1 = nF cp) (hcpl : cp ≤ 16) (h : cp < n) : Tx d k_X9_placed S fz [.ref (1), .int (iI (((s : Nat) : Int)))] m p 2 (fun m' p' => m = m' ∧ p = p') := by
  obtain ⟨d, rfl⟩ : ∃ e, d = e + 1 := ⟨d - 1, by omega⟩
  refine tx_go (lv := [some (.ref (1)), some (.int (iI (((s : Nat) : Int)))), none]) (Nat.le_of_ble_eq_true rfl) (okar_cons rfl (okar_cons rfl okar_nil)) (by decide) (by omega) rfl (fun Qr hQ => ?_)
  refine rw_blk lk_X9_placed_0 ?_
  refine rw_of (fun rr hrr => q_aload_n rfl (q_iload_n rfl hrr)) ?_
  obtain ⟨_, mm1, pp2, hV3, rfl, rfl, rfl⟩ := c_X9_plantOf (S := S) (fz := fz) (m := m) (p := p) (d := d) (by omega) (s) (k) hP hk (by omega) (by omega)
  refine rw_of (fun rr hrr => q_invV hV3 (show SH 1 = (17, 0) from rfl) rfl rfl (okar_cons rfl okar_nil) (Nat.le_of_ble_eq_true rfl) (q_astore_n (Nat.le_of_ble_eq_true rfl) rfl (q_aload_n rfl (q_aload_n rfl hrr)))) ?_
  obtain ⟨mm4, pp5, hV6, rfl, rfl⟩ := t_X9_findGains (S := S) (fz := fz) (m := m) (p := p) (d := d) (by omega) (117 + 12 * s) (n) (cp) hP (Or.inr ⟨s, by omega, rfl⟩) hm (by omega) (by omega) hcp (by omega) (by omega)
  refine rw_end (q_invVx hV6 (by decide) (show SH 1 = (17, 0) from rfl) rfl rfl (okar_cons rfl okar_nil) (Nat.le_of_ble_eq_true rfl)) ?_
  rw [hQ]
  refine ⟨_, _, rfl, ?_⟩
  exact ⟨rfl, rfl⟩
theorem t_X9_placedR {d : Nat} {S : Env} {fz : Bool} {m : M1} {p : M2} (hd : 8 ≤ d) (s k n cp : Nat) (hP : PI p) (hk : m 1 1 = nF k) (hk12 : k ≤ 12) (hsk : s < k) (hm : m (117 + 12 * s) 0 = nF n) (hn0 : 1 ≤ n) (hn : n ≤ 8) (hcp : m 3 1 = nF cp) (hcpl : cp ≤ 16) (h : n ≤ cp) (hr : rk n (kr n (fun z => m (117 + 12 * s + 2 + z)) (m (117 + 12 * s + 10))) ≠ n) : Tx d k_X9_placed S fz [.ref (1), .int (iI (((s : Nat) : Int)))] m p 2 (fun m' p' => PI p' ∧ Fr (fun a_ => 7 ≤ a_ ∧ a_ < 117) m m') := by
  obtain ⟨d, rfl⟩ : ∃ e, d = e + 1 := ⟨d - 1, by omega⟩
  refine tx_go (lv := [some (.ref (1)), some (.int (iI (((s : Nat) : Int)))), none]) (Nat.le_of_ble_eq_true rfl) (okar_cons rfl (okar_cons rfl okar_nil)) (by decide) (by omega) rfl (fun Qr hQ => ?_)
  refine rw_blk lk_X9_placed_0 ?_
  refine rw_of (fun rr hrr => q_aload_n rfl (q_iload_n rfl hrr)) ?_
  obtain ⟨_, mm1, pp2, hV3, rfl, rfl, rfl⟩ := c_X9_plantOf (S := S) (fz := fz) (m := m) (p := p) (d := d) (by omega) (s) (k) hP hk (by omega) (by omega)
  refine rw_of (fun rr hrr => q_invV hV3 (show SH 1 = (17, 0) from rfl) rfl rfl (okar_cons rfl okar_nil) (Nat.le_of_ble_eq_true rfl) (q_astore_n (Nat.le_of_ble_eq_true rfl) rfl (q_aload_n rfl (q_aload_n rfl hrr)))) ?_
  obtain ⟨mm4, pp5, hV6, hP6, hF6⟩ := t_X9_findGainsR (S := S) (fz := fz) (m := m) (p := p) (d := d) (by omega) (117 + 12 * s) (n) (cp) hP (Or.inr ⟨s, by omega, rfl⟩) hm (by omega) (by omega) hcp (by omega) (by omega) (hr)
  refine rw_end (q_invVx hV6 (by decide) (show SH 1 = (17, 0) from rfl) rfl rfl (okar_cons rfl okar_nil) (Nat.le_of_ble_eq_true rfl)) ?_
  rw [hQ]
  refine ⟨_, _, rfl, ?_⟩
  exact ⟨hP6, hF6⟩
theorem t_X9_placedF {d : Nat} {S : Env} {fz : Bool} {m : M1} {p : M2} (hd : 8 ≤ d) (s k n cp : Nat) (hP : PI p) (hk : m 1 1 = nF k) (hk12 : k ≤ 12) (hsk : s < k) (hm : m (117 + 12 * s) 0 = nF n) (hn0 : 1 ≤ n) (hn : n ≤ 8) (hcp : m 3 1 = nF cp) (hcpl : cp ≤ 16) (h : n ≤ cp) (hr : rk n (kr n (fun z => m (117 + 12 * s + 2 + z)) (m (117 + 12 * s + 10))) = n) (hk1 : 12 ≤ k) : Tx d k_X9_placed S fz [.ref (1), .int (iI (((s : Nat) : Int)))] m p 2 (fun m' p' => PI p' ∧ Fr (fun a_ => 7 ≤ a_ ∧ a_ < 117) m m') := by
  obtain ⟨d, rfl⟩ : ∃ e, d = e + 1 := ⟨d - 1, by omega⟩
  refine tx_go (lv := [some (.ref (1)), some (.int (iI (((s : Nat) : Int)))), none]) (Nat.le_of_ble_eq_true rfl) (okar_cons rfl (okar_cons rfl okar_nil)) (by decide) (by omega) rfl (fun Qr hQ => ?_)
  refine rw_blk lk_X9_placed_0 ?_
  refine rw_of (fun rr hrr => q_aload_n rfl (q_iload_n rfl hrr)) ?_
  obtain ⟨_, mm1, pp2, hV3, rfl, rfl, rfl⟩ := c_X9_plantOf (S := S) (fz := fz) (m := m) (p := p) (d := d) (by omega) (s) (k) hP hk (by omega) (by omega)
  refine rw_of (fun rr hrr => q_invV hV3 (show SH 1 = (17, 0) from rfl) rfl rfl (okar_cons rfl okar_nil) (Nat.le_of_ble_eq_true rfl) (q_astore_n (Nat.le_of_ble_eq_true rfl) rfl (q_aload_n rfl (q_aload_n rfl hrr)))) ?_
  obtain ⟨_, mm4, pp5, hV6, x6, rfl, hP6, hF6, hx6, hv6⟩ := c_X9_findGains (S := S) (fz := fz) (m := m) (p := p) (d := d) (by omega) (117 + 12 * s) (n) (cp) hP (Or.inr ⟨s, by omega, rfl⟩) hm (by omega) (by omega) hcp (by omega) (by omega) (hr)
  refine rw_of (fun rr hrr => q_invV hV6 (show SH 1 = (17, 0) from rfl) rfl rfl (okar_cons rfl okar_nil) (Nat.le_of_ble_eq_true rfl) (q_aload_n rfl (q_aload_n rfl (q_getI (PI_pl hP6 (Or.inr ⟨s, by omega, rfl⟩)).1 rfl (ki (hF6 (117 + 12 * s) (by show ¬ (7 ≤ (117 + 12 * s) ∧ (117 + 12 * s) < 117); omega)) hm (by omega)) hrr)))) ?_
  obtain ⟨mm7, pp8, hV9, rfl, rfl⟩ := t_X9_newPlant (S := S) (fz := fz) (m := mm4) (p := pp5) (d := d) (by omega) (n) (k) hP6 ((congrFun (hF6 1 (by show ¬ (7 ≤ 1 ∧ 1 < 117); omega)) 1).trans hk) (by omega) (by omega)
  refine rw_end (q_invVx hV9 (by decide) (show SH 1 = (17, 0) from rfl) rfl rfl (okar_cons rfl okar_nil) (Nat.le_of_ble_eq_true rfl)) ?_
  rw [hQ]
  refine ⟨_, _, rfl, ?_⟩
  exact ⟨hP6, hF6⟩
