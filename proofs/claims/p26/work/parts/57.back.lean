theorem c_X7_beginAtEnd {d : Nat} {S : Env} {fz : Bool} {m : M1} {p : M2} (hd : 2 ≤ d) (n t : Nat) (q : F) (hP : PI p) (ht : IsPl t) (hn0 : 1 ≤ n) (hn : n ≤ 8) (hm : m t 0 = nF n) : Ct d k_X7_beginAtEnd S fz [.ref (73), .ref (t), .int (iI (vF (q)))] m p (fun v m' p' => v = none ∧ p = p' ∧ Fr (fun a_ => 75 ≤ a_ ∧ a_ < 83) m m' ∧ ∀ k, k < n → ∀ j, j < n → m' (75 + k) j = rq q (m (t + 11)) k j) := by
  obtain ⟨d, rfl⟩ : ∃ e, d = e + 1 := ⟨d - 1, by omega⟩
  refine ct_go (lv := [some (.ref (73)), some (.ref (t)), some (.int (iI (vF (q)))), none, none]) (Nat.le_of_ble_eq_true rfl) (okar_cons rfl (okar_cons rfl (okar_cons rfl okar_nil))) rfl (fun Qr hQ => ?_)
  have ht' := IsPl_b ht
  refine rw_blk lk_X7_beginAtEnd_0 ?_
  refine rw_of (fun rr hrr => q_iconst (q_istore_n (Nat.le_of_ble_eq_true rfl) rfl hrr)) ?_
  have hL2 : ∀ i, i ≤ n → ∀ (m1 : M1) (x2_4 : Option Value), (Fr (fun a_ => 75 ≤ a_ ∧ a_ < 83) m m1 ∧ ∀ k, k < i → ∀ j, j < n → m1 (75 + k) j = rq q (m (t + 11)) k j) → Rw (Ev d) k_X7_beginAtEnd (2, [], [some (.ref (73)), some (.ref (t)), some (.int (iI (vF (q)))), some (.int (iI (((i : Nat) : Int)))), x2_4], [], hpM S fz (m1, p), 0, 0) Qr := by
    refine loop_any (fun i hi2 ih2 => ?_)
    intro m1 x2_4
    intro hI2
    obtain ⟨hF, hv⟩ := hI2
    refine rw_blk lk_X7_beginAtEnd_2 ?_
    refine rw_of (fun rr hrr => q_iload_n rfl (q_aload_n rfl (q_getI (PI_pl hP ht).1 rfl (ki (hF t (by show ¬ (75 ≤ t ∧ t < 83); omega)) hm (by omega)) hrr))) ?_
    refine rw_icmp_ge ⟨by omega, by omega⟩ ⟨by omega, by omega⟩ (t := 63) rfl (fun hc1 => ?_) (fun hc1 => ?_)
    · skip
      refine rw_blk lk_X7_beginAtEnd_63 ?_
      refine rw_ret hQ (q_return) ?_
      have e9 : n = i := (by omega)
      subst e9
      exact ⟨rfl, rfl, hF, hv⟩
      
    · skip
      refine rw_of (fun rr hrr => q_iconst (q_istore (Nat.le_of_ble_eq_true rfl) rfl hrr)) ?_
      have hL13 : ∀ k, k ≤ n → ∀ (m2 : M1), (Fr (fun a_ => a_ = 75 + i) m1 m2 ∧ ∀ j, m2 (75 + i) j = if j < k then q * (m1 (t + 11) i * m1 (t + 11) j) else m1 (75 + i) j) → Rw (Ev d) k_X7_beginAtEnd (13, [], [some (.ref (73)), some (.ref (t)), some (.int (iI (vF (q)))), some (.int (iI (((i : Nat) : Int)))), some (.int (iI (((k : Nat) : Int))))], [], hpM S fz (m2, p), 0, 0) Qr := by
        refine loop_any (fun k hi13 ih13 => ?_)
        intro m2
        intro hI13
        obtain ⟨hF13, hv13⟩ := hI13
        refine rw_blk lk_X7_beginAtEnd_13 ?_
        refine rw_of (fun rr hrr => q_iload rfl (q_aload_n rfl (q_getI (PI_pl hP ht).1 rfl (ki ((hF13 t (by show ¬ (t = 75 + i); omega)).trans (hF t (by show ¬ (75 ≤ t ∧ t < 83); omega))) hm (by omega)) hrr))) ?_
        refine rw_icmp_ge ⟨by omega, by omega⟩ ⟨by omega, by omega⟩ (t := 57) rfl (fun hc2 => ?_) (fun hc2 => ?_)
        · skip
          refine rw_blk lk_X7_beginAtEnd_57 ?_
          refine rw_of (fun rr hrr => q_iinc rfl rfl (q_goto (t := 2) rfl hrr)) ?_
          have hA3 : Fr (fun a_ => 75 ≤ a_ ∧ a_ < 83) m m2 ∧ ∀ k, k < (i + 1) → ∀ j, j < n → m2 (75 + k) j = rq q (m (t + 11)) k j := by
            refine rows_w (n := 8) (T := fun k => 75 + k) (PP := fun k f => ∀ j, j < n → f j = rq q (m (t + 11)) k j) hF13 (by omega) (fun x y _ _ h => by omega) hv hF (fun j hj => ?_) (fun k hk => by show 75 ≤ 75 + k ∧ 75 + k < 83; omega)
            show _ = _
            rw [hv13 j, if_pos (by omega), hF (t + 11) (by omega)]
            rfl
          exact rw_cast (ih2 (by omega) m2 (some (.int (iI (((k : Nat) : Int))))) hA3) (lcons rfl (lcons rfl (lcons rfl (lcons (lvI (by omega)) (lcons rfl rfl))))) rfl
        · skip
          refine rw_of (fun rr hrr => q_aload_n rfl (q_getR (show SH 73 = (15, 0) from rfl) rfl (pt_73_0 hP) (q_iload_n rfl (q_aald (t := 0) (j := i) hP.2.2.2.2.1.1 (by omega) (by omega) (by omega) (hP.2.2.2.2.1.2.1 i (by omega)) (q_iload rfl (q_iload_n rfl (q_aload_n rfl (q_getR (PI_pl hP ht).1 rfl (PI_pl hP ht).2.2.2.1 (q_iload_n rfl (q_iald (j := i) (PI_pl hP ht).2.2.2.2.2.1 rfl (by omega) rfl (q_aload_n rfl (q_getR (PI_pl hP ht).1 rfl (PI_pl hP ht).2.2.2.1 (q_iload rfl (q_iald (j := k) (PI_pl hP ht).2.2.2.2.2.1 rfl (by omega) rfl hrr)))))))))))))) ?_
          obtain ⟨_, mm4, pp5, hV6, rfl, rfl, rfl⟩ := c_X2_times (S := S) (fz := fz) (m := m2) (p := p) (d := d) (by omega) (m2 (t + 11) i) (m2 (t + 11) k)
          refine rw_of (fun rr hrr => q_invS hV6 rfl rfl (okar_cons rfl (okar_cons rfl okar_nil)) (Nat.le_of_ble_eq_true rfl) hrr) ?_
          obtain ⟨_, mm7, pp8, hV9, rfl, rfl, rfl⟩ := c_X2_times (S := S) (fz := fz) (m := m2) (p := p) (d := d) (by omega) (q) ((m2 (t + 11) i) * (m2 (t + 11) k))
          refine rw_of (fun rr hrr => q_invS hV9 rfl rfl (okar_cons rfl (okar_cons rfl okar_nil)) (Nat.le_of_ble_eq_true rfl) (q_iast (j := k) (xx := q * ((m2 (t + 11) i) * (m2 (t + 11) k))) (hP.2.2.2.2.1.2.2 i (by omega)) rfl (by omega) rfl hrr)) ?_
          generalize hm11 : w1 m2 (75 + i) k (q * ((m2 (t + 11) i) * (m2 (t + 11) k))) = mm10
          refine rw_of (fun rr hrr => q_iinc rfl rfl (q_goto (t := 13) rfl hrr)) ?_
          exact rw_cast (ih13 (by omega) mm10 (by exact ⟨fr_w hm11 hF13 rfl, fill_w hm11 hv13 (by rw [hF13 (t + 11) (by omega)])⟩)) (lcons rfl (lcons rfl (lcons rfl (lcons rfl (lcons (lvI (by omega)) rfl))))) rfl
      exact rw_cast (hL13 0 (by omega) m1 (by exact ⟨Fr_rfl, fun j => (if_neg (Nat.not_lt_zero j)).symm⟩)) (lcons rfl (lcons rfl (lcons rfl (lcons rfl (lcons (lvI (by omega)) rfl))))) rfl
  exact rw_cast (hL2 0 (by omega) m none (by exact ⟨Fr_rfl, fun k hk => absurd hk (Nat.not_lt_zero k)⟩)) (lcons rfl (lcons rfl (lcons rfl (lcons (lvI (by omega)) (lcons rfl rfl))))) rfl
theorem c_X7_turnedEntry {d : Nat} {S : Env} {fz : Bool} {m : M1} {p : M2} (hd : 2 ≤ d) (n q i j : Nat) (R : Nat → Nat) (hP : PI p) (hn : n ≤ 8) (hq : SQ p q R) (hi : i < 8) (hj : j < 8) : Ct d k_X7_turnedEntry S fz [.ref (73), .int (iI (((n : Nat) : Int))), .ref (q), .int (iI (((i : Nat) : Int))), .int (iI (((j : Nat) : Int)))] m p (fun v m' p' => v = some (.int (iI (vF (dot n (fun l => m (R l) i) (fun l => m (84 + l) j))))) ∧ m = m' ∧ p = p') := by
  obtain ⟨d, rfl⟩ : ∃ e, d = e + 1 := ⟨d - 1, by omega⟩
  refine ct_go (lv := [some (.ref (73)), some (.int (iI (((n : Nat) : Int)))), some (.ref (q)), some (.int (iI (((i : Nat) : Int)))), some (.int (iI (((j : Nat) : Int)))), none, none]) (Nat.le_of_ble_eq_true rfl) (okar_cons rfl (okar_cons rfl (okar_cons rfl (okar_cons rfl (okar_cons rfl okar_nil))))) rfl (fun Qr hQ => ?_)
  refine rw_blk lk_X7_turnedEntry_0 ?_
  refine rw_of (fun rr hrr => q_iconst (q_istore (Nat.le_of_ble_eq_true rfl) rfl (q_iconst (q_istore (Nat.le_of_ble_eq_true rfl) rfl hrr)))) ?_
  have hL6 : ∀ k, k ≤ n → Rw (Ev d) k_X7_turnedEntry (6, [], [some (.ref (73)), some (.int (iI (((n : Nat) : Int)))), some (.ref (q)), some (.int (iI (((i : Nat) : Int)))), some (.int (iI (((j : Nat) : Int)))), some (.int (iI (vF (dot k (fun l => m (R l) i) (fun l => m (84 + l) j))))), some (.int (iI (((k : Nat) : Int))))], [], hpM S fz (m, p), 0, 0) Qr := by
    refine loop_any (fun k hi6 ih6 => ?_)
    refine rw_blk lk_X7_turnedEntry_6 ?_
    refine rw_of (fun rr hrr => q_iload rfl (q_iload_n rfl hrr)) ?_
    refine rw_icmp_ge ⟨by omega, by omega⟩ ⟨by omega, by omega⟩ (t := 44) rfl (fun hc1 => ?_) (fun hc1 => ?_)
    · skip
      refine rw_blk lk_X7_turnedEntry_44 ?_
      refine rw_of (fun rr hrr => q_iload rfl hrr) ?_
      refine rw_ret hQ (q_ireturn (Or.inl rfl)) ?_
      have e9 : n = k := (by omega)
      subst e9
      exact ⟨rfl, rfl, rfl⟩
      
    · skip
      refine rw_of (fun rr hrr => q_iload rfl (q_aload_n rfl (q_iload rfl (q_aald (t := 0) (j := k) hq.1 (by omega) (by omega) (by omega) (hq.2.1 k (by omega)) (q_iload_n rfl (q_iald (j := i) (hq.2.2 k (by omega)) rfl (by omega) rfl (q_aload_n rfl (q_getR (show SH 73 = (15, 0) from rfl) rfl (pt_73_1 hP) (q_iload rfl (q_aald (t := 0) (j := k) hP.2.2.2.2.2.1.1 (by omega) (by omega) (by omega) (hP.2.2.2.2.2.1.2.1 k (by omega)) (q_iload rfl (q_iald (j := j) (hP.2.2.2.2.2.1.2.2 k (by omega)) rfl (by omega) rfl hrr)))))))))))) ?_
      obtain ⟨_, mm2, pp3, hV4, rfl, rfl, rfl⟩ := c_X2_times (S := S) (fz := fz) (m := m) (p := p) (d := d) (by omega) (m (R k) i) (m (84 + k) j)
      refine rw_of (fun rr hrr => q_invS hV4 rfl rfl (okar_cons rfl (okar_cons rfl okar_nil)) (Nat.le_of_ble_eq_true rfl) hrr) ?_
      obtain ⟨_, mm5, pp6, hV7, rfl, rfl, rfl⟩ := c_X2_plus (S := S) (fz := fz) (m := m) (p := p) (d := d) (by omega) (dot k (fun l => m (R l) i) (fun l => m (84 + l) j)) ((m (R k) i) * (m (84 + k) j))
      refine rw_of (fun rr hrr => q_invS hV7 rfl rfl (okar_cons rfl (okar_cons rfl okar_nil)) (Nat.le_of_ble_eq_true rfl) (q_istore (Nat.le_of_ble_eq_true rfl) rfl (q_iinc rfl rfl (q_goto (t := 6) rfl hrr)))) ?_
      exact rw_cast (ih6 (by omega)) (lcons rfl (lcons rfl (lcons rfl (lcons rfl (lcons rfl (lcons (lvI (by rfl)) (lcons (lvI (by omega)) rfl))))))) rfl
  exact rw_cast (hL6 0 (by omega)) (lcons rfl (lcons rfl (lcons rfl (lcons rfl (lcons rfl (lcons (lvI (by rfl)) (lcons (lvI (by omega)) rfl))))))) rfl
theorem c_X7_stepBack {d : Nat} {S : Env} {fz : Bool} {m : M1} {p : M2} (hd : 4 ≤ d) (n t g : Nat) (q x : F) (hP : PI p) (ht : IsPl t) (hn0 : 1 ≤ n) (hn : n ≤ 8) (hm : m t 0 = nF n) (hg : 93 ≤ g ∧ g < 113) (hb : ∀ i, i < n → m 113 i = rb n (fun i => m (75 + i)) (m (t + 10)) i) : Ct d k_X7_stepBack S fz [.ref (73), .ref (t), .int (iI (vF (q))), .int (iI (vF (x))), .ref (g)] m p (fun v m' p' => v = none ∧ p = p' ∧ Fr (fun a_ => (74 ≤ a_ ∧ a_ < 92) ∨ a_ = 114 ∨ a_ = g) m m' ∧ (∀ k, k < n → ∀ j, j < n → m' (75 + k) j = rq q (m (t + 11)) k j + dot n (fun l => m (t + 2 + l) k) (fun l => rpa n (fun i => m (75 + i)) (fun z => m (t + 2 + z)) l j) - rap n (fun i => m (75 + i)) (fun z => m (t + 2 + z)) (m (t + 10)) k * (iv x * dot n (m (t + 10)) (fun l => rpa n (fun i => m (75 + i)) (fun z => m (t + 2 + z)) l j))) ∧ ∀ j, j < n → m' g j = iv x * dot n (m (t + 10)) (fun l => rpa n (fun i => m (75 + i)) (fun z => m (t + 2 + z)) l j)) := by
  obtain ⟨d, rfl⟩ : ∃ e, d = e + 1 := ⟨d - 1, by omega⟩
  refine ct_go (lv := [some (.ref (73)), some (.ref (t)), some (.int (iI (vF (q)))), some (.int (iI (vF (x)))), some (.ref (g)), none, none, none, none, none]) (Nat.le_of_ble_eq_true rfl) (okar_cons rfl (okar_cons rfl (okar_cons rfl (okar_cons rfl (okar_cons rfl okar_nil))))) rfl (fun Qr hQ => ?_)
  have ht' := IsPl_b ht
  obtain ⟨gi, hgi⟩ : ∃ gi, gi = g - 93 := ⟨_, rfl⟩
  have hgs : SH g = (1, 8) := by rw [show g = 93 + gi by omega]; exact SH_93 (by omega)
  refine rw_blk lk_X7_stepBack_0 ?_
  refine rw_of (fun rr hrr => q_aload_n rfl (q_getI (PI_pl hP ht).1 rfl (ki rfl hm (by omega)) (q_istore (Nat.le_of_ble_eq_true rfl) rfl (q_iload rfl (q_aload_n rfl (q_getR (show SH 73 = (15, 0) from rfl) rfl (pt_73_0 hP) (q_aload_n rfl (q_getR (PI_pl hP ht).1 rfl (PI_pl hP ht).2.1 (q_aload_n rfl (q_getR (show SH 73 = (15, 0) from rfl) rfl (pt_73_1 hP) hrr)))))))))) ?_
  obtain ⟨_, mm1, pp2, hV3, rfl, rfl, hF3, hv3⟩ := c_X6_squareBySquare (S := S) (fz := fz) (m := m) (p := p) (d := d) (by omega) (n) (74) (t + 1) (83) (84) (92) (fun i => 75 + i) (fun i => t + 2 + i) (fun i => 84 + i) (by omega) hP.2.2.2.2.1 (PI_pl hP ht).2.2.2.2.2.2 hP.2.2.2.2.2.1 (fun i hi => by omega) (fun i hi => by omega) (fun i hi => by omega) (fun i j _ _ h => by omega)
  refine rw_of (fun rr hrr => q_invS hV3 rfl rfl (okar_cons rfl (okar_cons rfl (okar_cons rfl (okar_cons rfl okar_nil)))) (Nat.le_of_ble_eq_true rfl) (q_iload rfl (q_aload_n rfl (q_getR (show SH 73 = (15, 0) from rfl) rfl (pt_73_3 hP) (q_aload_n rfl (q_getR (PI_pl hP ht).1 rfl (PI_pl hP ht).2.1 (q_aload_n rfl (q_getR (show SH 73 = (15, 0) from rfl) rfl (pt_73_4 hP) hrr)))))))) ?_
  obtain ⟨_, mm4, pp5, hV6, rfl, rfl, hF6, hv6⟩ := c_X6_rowBySquare (S := S) (fz := fz) (m := mm1) (p := p) (d := d) (by omega) (n) (113) (t + 1) (114) (fun i => t + 2 + i) (by omega) ((show SH 113 = (1, 8) from rfl)) (PI_pl hP ht).2.2.2.2.2.2 ((show SH 114 = (1, 8) from rfl)) (by omega) (by omega) (by omega) (fun k hk => by omega)
  refine rw_of (fun rr hrr => q_invS hV6 rfl rfl (okar_cons rfl (okar_cons rfl (okar_cons rfl (okar_cons rfl okar_nil)))) (Nat.le_of_ble_eq_true rfl) (q_iconst (q_iload_n rfl hrr))) ?_
  obtain ⟨_, mm7, pp8, hV9, rfl, rfl, rfl⟩ := c_X2_quotient (S := S) (fz := fz) (m := mm4) (p := p) (d := d) (by omega) ((1 : F)) (x)
  refine rw_of (fun rr hrr => q_invS hV9 rfl rfl (okar_cons rfl (okar_cons rfl okar_nil)) (Nat.le_of_ble_eq_true rfl) (q_istore (Nat.le_of_ble_eq_true rfl) rfl (q_iload rfl (q_aload_n rfl (q_getR (PI_pl hP ht).1 rfl (PI_pl hP ht).2.2.1 (q_aload_n rfl (q_getR (show SH 73 = (15, 0) from rfl) rfl (pt_73_1 hP) (q_aload rfl hrr)))))))) ?_
  obtain ⟨_, mm10, pp11, hV12, rfl, rfl, hF12, hv12⟩ := c_X6_rowBySquare (S := S) (fz := fz) (m := mm4) (p := p) (d := d) (by omega) (n) (t + 10) (83) (g) (fun i => 84 + i) (by omega) ((PI_pl hP ht).2.2.2.2.1) hP.2.2.2.2.2.1 (hgs) (by omega) (by omega) (by omega) (fun k hk => by omega)
  refine rw_of (fun rr hrr => q_invS hV12 rfl rfl (okar_cons rfl (okar_cons rfl (okar_cons rfl (okar_cons rfl okar_nil)))) (Nat.le_of_ble_eq_true rfl) (q_iconst (q_istore (Nat.le_of_ble_eq_true rfl) rfl hrr))) ?_
  have hL65 : ∀ k, k ≤ n → ∀ (m2 : M1), (Fr (fun a_ => a_ = g) mm10 m2 ∧ ∀ j, m2 g j = if j < k then iv x * mm10 g j else mm10 g j) → Rw (Ev d) k_X7_stepBack (65, [], [some (.ref (73)), some (.ref (t)), some (.int (iI (vF (q)))), some (.int (iI (vF (x)))), some (.ref (g)), some (.int (iI (((n : Nat) : Int)))), some (.int (iI (vF (((1 : F)) * iv x)))), some (.int (iI (((k : Nat) : Int)))), none, none], [], hpM S fz (m2, p), 0, 0) Qr := by
    refine loop_any (fun k hi65 ih65 => ?_)
    intro m2
    intro hI65
    obtain ⟨hF65, hv65⟩ := hI65
    refine rw_blk lk_X7_stepBack_65 ?_
    refine rw_of (fun rr hrr => q_iload rfl (q_iload rfl hrr)) ?_
    refine rw_icmp_ge ⟨by omega, by omega⟩ ⟨by omega, by omega⟩ (t := 93) rfl (fun hc13 => ?_) (fun hc13 => ?_)
    · skip
      refine rw_blk lk_X7_stepBack_93 ?_
      refine rw_of (fun rr hrr => q_aload_n rfl (q_aload_n rfl (q_iload_n rfl hrr))) ?_
      obtain ⟨_, mm14, pp15, hV16, rfl, rfl, hF16, hv16⟩ := c_X7_beginAtEnd (S := S) (fz := fz) (m := m2) (p := p) (d := d) (by omega) (n) (t) (q) hP ht (by omega) (by omega) ((congrFun ((hF65 t (by show ¬ (t = g); omega)).trans ((hF12 t (by show ¬ (t = g); omega)).trans ((hF6 t (by show ¬ (t = 114); omega)).trans (hF3 t (by show ¬ (84 ≤ t ∧ t < 92); omega))))) 0).trans hm)
      refine rw_of (fun rr hrr => q_invV hV16 (show SH 73 = (15, 0) from rfl) rfl rfl (okar_cons rfl (okar_cons rfl okar_nil)) (Nat.le_of_ble_eq_true rfl) (q_iconst (q_istore (Nat.le_of_ble_eq_true rfl) rfl hrr))) ?_
      have hL102 : ∀ i, i ≤ n → ∀ (m3 : M1) (x102_8 : Option Value) (x102_9 : Option Value), (Fr (fun a_ => 75 ≤ a_ ∧ a_ < 83) mm14 m3 ∧ (∀ k, k < i → ∀ j, j < n → m3 (75 + k) j = mm14 (75 + k) j + dot n (fun l => m (t + 2 + l) k) (fun l => mm14 (84 + l) j) - mm14 114 k * mm14 g j) ∧ ∀ k, i ≤ k → k < 8 → m3 (75 + k) = mm14 (75 + k)) → Rw (Ev d) k_X7_stepBack (102, [], [some (.ref (73)), some (.ref (t)), some (.int (iI (vF (q)))), some (.int (iI (vF (x)))), some (.ref (g)), some (.int (iI (((n : Nat) : Int)))), some (.int (iI (vF (((1 : F)) * iv x)))), some (.int (iI (((i : Nat) : Int)))), x102_8, x102_9], [], hpM S fz (m3, p), 0, 0) Qr := by
        refine loop_any (fun i hi102 ih102 => ?_)
        intro m3 x102_8 x102_9
        intro hI102
        obtain ⟨hF102, hP102, hU102⟩ := hI102
        have hAA : ∀ l, m3 (t + 2 + l) = m (t + 2 + l) ∨ 8 ≤ l := fun l => by
          by_cases hl : l < 8
          · left
            rw [hF102 _ (by omega), hF16 _ (by omega), hF65 _ (by omega), hF12 _ (by omega), hF6 _ (by omega), hF3 _ (by omega)]
          · exact Or.inr (by omega)
        refine rw_blk lk_X7_stepBack_102 ?_
        refine rw_of (fun rr hrr => q_iload rfl (q_iload rfl hrr)) ?_
        refine rw_icmp_ge ⟨by omega, by omega⟩ ⟨by omega, by omega⟩ (t := 190) rfl (fun hc17 => ?_) (fun hc17 => ?_)
        · skip
          refine rw_blk lk_X7_stepBack_190 ?_
          refine rw_ret hQ (q_return) ?_
          
          have e9 : n = i := (by omega)
          subst e9
          have h84 : ∀ l, l < n → ∀ j, j < n → mm14 (84 + l) j = rpa n (fun i => m (75 + i)) (fun z => m (t + 2 + z)) l j := fun l hl j hj => by
            rw [hF16 _ (by omega), hF65 _ (by omega), hF12 _ (by omega), hF6 _ (by omega)]
            exact hv3 l hl j hj
          have h59 : ∀ j, j < n → mm10 g j = dot n (m (t + 10)) (fun l => rpa n (fun i => m (75 + i)) (fun z => m (t + 2 + z)) l j) := fun j hj => by
            rw [hv12, if_pos hj, hF6 (t + 10) (by omega), hF3 (t + 10) (by omega)]
            exact dot_congr (fun _ _ => rfl) (fun l hl => by rw [hF6 (84 + l) (by omega)]; exact hv3 l hl j hj)
          have hg9 : ∀ j, j < n → mm14 g j = iv x * dot n (m (t + 10)) (fun l => rpa n (fun i => m (75 + i)) (fun z => m (t + 2 + z)) l j) := fun j hj => by
            rw [hF16 g (by omega), hv65 j, if_pos (by omega), h59 j hj]
          have h114 : ∀ k, k < n → mm14 114 k = rap n (fun i => m (75 + i)) (fun z => m (t + 2 + z)) (m (t + 10)) k := fun k hk => by
            rw [hF16 114 (by omega), hF65 114 (by omega), hF12 114 (by omega), hv6, if_pos hk, hF3 113 (by omega)]
            exact dot_congr (fun l hl => hb l hl) (fun l hl => by rw [hF3 (t + 2 + l) (by omega)])
          refine ⟨rfl, rfl, Fr_trans (Fr_mono hF3 (fun a ha => by omega)) (Fr_trans (Fr_mono hF6 (fun a ha => by omega)) (Fr_trans (Fr_mono hF12 (fun a ha => by omega)) (Fr_trans (Fr_mono hF65 (fun a ha => by omega)) (Fr_trans (Fr_mono hF16 (fun a ha => by omega)) (Fr_mono hF102 (fun a ha => by omega)))))), fun k hk j hj => ?_, fun j hj => ?_⟩
          · rw [hP102 k hk j hj, hv16 k hk j hj, h114 k hk, hg9 j hj, dot_congr (fun _ _ => rfl) (fun l hl => h84 l hl j hj), hF65 (t + 11) (by omega), hF12 (t + 11) (by omega), hF6 (t + 11) (by omega), hF3 (t + 11) (by omega)]
          · rw [hF102 g (by omega)]
            exact hg9 j hj
          
        · skip
          refine rw_of (fun rr hrr => q_iconst (q_istore (Nat.le_of_ble_eq_true rfl) rfl hrr)) ?_
          have hL112 : ∀ k, k ≤ n → ∀ (m4 : M1) (x112_9 : Option Value), (Fr (fun a_ => a_ = 75 + i) m3 m4 ∧ ∀ j, m4 (75 + i) j = if j < k then m3 (75 + i) j + dot n (fun l => m3 (t + 2 + l) i) (fun l => m3 (84 + l) j) - m3 114 i * m3 g j else m3 (75 + i) j) → Rw (Ev d) k_X7_stepBack (112, [], [some (.ref (73)), some (.ref (t)), some (.int (iI (vF (q)))), some (.int (iI (vF (x)))), some (.ref (g)), some (.int (iI (((n : Nat) : Int)))), some (.int (iI (vF (((1 : F)) * iv x)))), some (.int (iI (((i : Nat) : Int)))), some (.int (iI (((k : Nat) : Int)))), x112_9], [], hpM S fz (m4, p), 0, 0) Qr := by
            refine loop_any (fun k hi112 ih112 => ?_)
            intro m4 x112_9
            intro hI112
            obtain ⟨hF112, hv112⟩ := hI112
            refine rw_blk lk_X7_stepBack_112 ?_
            refine rw_of (fun rr hrr => q_iload rfl (q_iload rfl hrr)) ?_
            refine rw_icmp_ge ⟨by omega, by omega⟩ ⟨by omega, by omega⟩ (t := 184) rfl (fun hc18 => ?_) (fun hc18 => ?_)
            · skip
              refine rw_blk lk_X7_stepBack_184 ?_
              refine rw_of (fun rr hrr => q_iinc rfl rfl (q_goto (t := 102) rfl hrr)) ?_
              have hA19 : Fr (fun a_ => 75 ≤ a_ ∧ a_ < 83) mm14 m4 ∧ (∀ k, k < (i + 1) → ∀ j, j < n → m4 (75 + k) j = mm14 (75 + k) j + dot n (fun l => m (t + 2 + l) k) (fun l => mm14 (84 + l) j) - mm14 114 k * mm14 g j) ∧ ∀ k, (i + 1) ≤ k → k < 8 → m4 (75 + k) = mm14 (75 + k) := by
                refine rows2_w (R := fun k => 75 + k) (PP := fun k f => ∀ j, j < n → f j = mm14 (75 + k) j + dot n (fun l => m (t + 2 + l) k) (fun l => mm14 (84 + l) j) - mm14 114 k * mm14 g j) hF102 hP102 hU102 hF112 (fun j hj => ?_) (fun x y _ _ h => by omega) (by omega) (fun k hk => by show 75 ≤ 75 + k ∧ 75 + k < 83; omega)
                show _ = _
                rw [hv112 j, if_pos (by omega), hU102 i (by omega) (by omega), hF102 114 (by omega), hF102 g (by omega)]
                rw [dot_congr (f := fun l => m3 (t + 2 + l) i) (f' := fun l => m (t + 2 + l) i) (fun l hl => by rw [(hAA l).resolve_right (by omega)]) (fun l hl => show m3 (84 + l) j = mm14 (84 + l) j by rw [hF102 _ (by omega)])]
              exact rw_cast (ih102 (by omega) m4 (some (.int (iI (((k : Nat) : Int))))) x112_9 hA19) (lcons rfl (lcons rfl (lcons rfl (lcons rfl (lcons rfl (lcons rfl (lcons rfl (lcons (lvI (by omega)) (lcons rfl (lcons rfl rfl)))))))))) rfl
            · skip
              refine rw_of (fun rr hrr => q_aload_n rfl (q_getR (show SH 73 = (15, 0) from rfl) rfl (pt_73_4 hP) (q_iload rfl (q_iald (j := i) (show SH 114 = (1, 8) from rfl) rfl (by omega) rfl (q_aload rfl (q_iload rfl (q_iald (j := k) hgs rfl (by omega) rfl hrr))))))) ?_
              obtain ⟨_, mm20, pp21, hV22, rfl, rfl, rfl⟩ := c_X2_times (S := S) (fz := fz) (m := m4) (p := p) (d := d) (by omega) (m4 114 i) (m4 g k)
              refine rw_of (fun rr hrr => q_invS hV22 rfl rfl (okar_cons rfl (okar_cons rfl okar_nil)) (Nat.le_of_ble_eq_true rfl) (q_istore (Nat.le_of_ble_eq_true rfl) rfl (q_aload_n rfl (q_getR (show SH 73 = (15, 0) from rfl) rfl (pt_73_0 hP) (q_iload rfl (q_aald (t := 0) (j := i) hP.2.2.2.2.1.1 (by omega) (by omega) (by omega) (hP.2.2.2.2.1.2.1 i (by omega)) (q_iload rfl (q_aload_n rfl (q_getR (show SH 73 = (15, 0) from rfl) rfl (pt_73_0 hP) (q_iload rfl (q_aald (t := 0) (j := i) hP.2.2.2.2.1.1 (by omega) (by omega) (by omega) (hP.2.2.2.2.1.2.1 i (by omega)) (q_iload rfl (q_iald (j := k) (hP.2.2.2.2.1.2.2 i (by omega)) rfl (by omega) rfl (q_aload_n rfl (q_iload rfl (q_aload_n rfl (q_getR (PI_pl hP ht).1 rfl (PI_pl hP ht).2.1 (q_iload rfl (q_iload rfl hrr))))))))))))))))))) ?_
              obtain ⟨_, mm23, pp24, hV25, rfl, rfl, rfl⟩ := c_X7_turnedEntry (S := S) (fz := fz) (m := m4) (p := p) (d := d) (by omega) (n) (t + 1) (i) (k) (fun i => t + 2 + i) hP (by omega) (PI_pl hP ht).2.2.2.2.2.2 (by omega) (by omega)
              refine rw_of (fun rr hrr => q_invV hV25 (show SH 73 = (15, 0) from rfl) rfl rfl (okar_cons rfl (okar_cons rfl (okar_cons rfl (okar_cons rfl okar_nil)))) (Nat.le_of_ble_eq_true rfl) hrr) ?_
              obtain ⟨_, mm26, pp27, hV28, rfl, rfl, rfl⟩ := c_X2_plus (S := S) (fz := fz) (m := m4) (p := p) (d := d) (by omega) (m4 (75 + i) k) (dot n (fun l => m4 ((fun i => t + 2 + i) l) i) (fun l => m4 (84 + l) k))
              refine rw_of (fun rr hrr => q_invS hV28 rfl rfl (okar_cons rfl (okar_cons rfl okar_nil)) (Nat.le_of_ble_eq_true rfl) (q_iload rfl hrr)) ?_
              obtain ⟨_, mm29, pp30, hV31, rfl, rfl, rfl⟩ := c_X2_minus (S := S) (fz := fz) (m := m4) (p := p) (d := d) (by omega) ((m4 (75 + i) k) + (dot n (fun l => m4 ((fun i => t + 2 + i) l) i) (fun l => m4 (84 + l) k))) ((m4 114 i) * (m4 g k))
              refine rw_of (fun rr hrr => q_invS hV31 rfl rfl (okar_cons rfl (okar_cons rfl okar_nil)) (Nat.le_of_ble_eq_true rfl) (q_iast (j := k) (xx := ((m4 (75 + i) k) + (dot n (fun l => m4 ((fun i => t + 2 + i) l) i) (fun l => m4 (84 + l) k))) - ((m4 114 i) * (m4 g k))) (hP.2.2.2.2.1.2.2 i (by omega)) rfl (by omega) rfl hrr)) ?_
              generalize hm33 : w1 m4 (75 + i) k (((m4 (75 + i) k) + (dot n (fun l => m4 ((fun i => t + 2 + i) l) i) (fun l => m4 (84 + l) k))) - ((m4 114 i) * (m4 g k))) = mm32
              refine rw_of (fun rr hrr => q_iinc rfl rfl (q_goto (t := 112) rfl hrr)) ?_
              exact rw_cast (ih112 (by omega) mm32 (some (.int (iI (vF ((m4 114 i) * (m4 g k)))))) (by exact ⟨fr_w hm33 hF112 rfl, fill_w hm33 hv112 (by rw [hF112 114 (by omega), hF112 g (by omega), hv112 k, if_neg (by omega), dot_congr (f' := fun l => m3 (t + 2 + l) i) (fun l hl => by rw [hF112 (t + 2 + l) (by omega)]) (fun l hl => show _ = m3 (84 + l) k by rw [hF112 (84 + l) (by omega)])])⟩)) (lcons rfl (lcons rfl (lcons rfl (lcons rfl (lcons rfl (lcons rfl (lcons rfl (lcons rfl (lcons (lvI (by omega)) (lcons rfl rfl)))))))))) rfl
          exact rw_cast (hL112 0 (by omega) m3 x102_9 (by exact ⟨Fr_rfl, fun j => (if_neg (Nat.not_lt_zero j)).symm⟩)) (lcons rfl (lcons rfl (lcons rfl (lcons rfl (lcons rfl (lcons rfl (lcons rfl (lcons rfl (lcons (lvI (by omega)) (lcons rfl rfl)))))))))) rfl
      exact rw_cast (hL102 0 (by omega) mm14 none none (by exact ⟨Fr_rfl, fun k hk => absurd hk (Nat.not_lt_zero k), fun _ _ _ => rfl⟩)) (lcons rfl (lcons rfl (lcons rfl (lcons rfl (lcons rfl (lcons rfl (lcons rfl (lcons (lvI (by omega)) (lcons rfl (lcons rfl rfl)))))))))) rfl
    · skip
      refine rw_of (fun rr hrr => q_aload rfl (q_iload rfl (q_iload rfl (q_aload rfl (q_iload rfl (q_iald (j := k) hgs rfl (by omega) rfl hrr)))))) ?_
      obtain ⟨_, mm34, pp35, hV36, rfl, rfl, rfl⟩ := c_X2_times (S := S) (fz := fz) (m := m2) (p := p) (d := d) (by omega) (((1 : F)) * iv x) (m2 g k)
      refine rw_of (fun rr hrr => q_invS hV36 rfl rfl (okar_cons rfl (okar_cons rfl okar_nil)) (Nat.le_of_ble_eq_true rfl) (q_iast (j := k) (xx := (((1 : F)) * iv x) * (m2 g k)) hgs rfl (by omega) rfl hrr)) ?_
      generalize hm38 : w1 m2 g k ((((1 : F)) * iv x) * (m2 g k)) = mm37
      refine rw_of (fun rr hrr => q_iinc rfl rfl (q_goto (t := 65) rfl hrr)) ?_
      exact rw_cast (ih65 (by omega) mm37 (by exact ⟨fr_w hm38 hF65 rfl, fill_w hm38 hv65 (by rw [hv65 k, if_neg (by omega)]; grind)⟩)) (lcons rfl (lcons rfl (lcons rfl (lcons rfl (lcons rfl (lcons rfl (lcons rfl (lcons (lvI (by omega)) (lcons rfl (lcons rfl rfl)))))))))) rfl
  exact rw_cast (hL65 0 (by omega) mm10 (by exact ⟨Fr_rfl, fun j => (if_neg (Nat.not_lt_zero j)).symm⟩)) (lcons rfl (lcons rfl (lcons rfl (lcons rfl (lcons rfl (lcons rfl (lcons rfl (lcons (lvI (by omega)) (lcons rfl (lcons rfl rfl)))))))))) rfl
theorem c_X7_find1 {d : Nat} {S : Env} {fz : Bool} {m : M1} {p : M2} (hd : 5 ≤ d) (n t l : Nat) (q r : F) (hP : PI p) (ht : IsPl t) (hn0 : 1 ≤ n) (hn : n ≤ 8) (hm : m t 0 = nF n) (hl : l ≤ 20) (hr : ∀ s, s < l → rm n ((rc n (fun z => m (t + 2 + z)) (m (t + 10)) (m (t + 11)) q r) s) (m (t + 10)) r ≠ 0) : Ct d k_X7_find S fz [.ref (73), .ref (t), .int (iI (vF (q))), .int (iI (vF (r))), .int (iI (((l : Nat) : Int)))] m p (fun v m' p' => p = p' ∧ Fr (fun a_ => 74 ≤ a_ ∧ a_ < 115) m m' ∧ v = some (.int (iI 1)) ∧ (∀ k, k < n → ∀ j, j < n → m' (75 + k) j = (rc n (fun z => m (t + 2 + z)) (m (t + 10)) (m (t + 11)) q r) l k j) ∧ ∀ s, s < l → ∀ j, j < n → m' (93 + s) j = rK n ((rc n (fun z => m (t + 2 + z)) (m (t + 10)) (m (t + 11)) q r) s) (fun z => m (t + 2 + z)) (m (t + 10)) r j) := by
  obtain ⟨d, rfl⟩ : ∃ e, d = e + 1 := ⟨d - 1, by omega⟩
  refine ct_go (lv := [some (.ref (73)), some (.ref (t)), some (.int (iI (vF (q)))), some (.int (iI (vF (r)))), some (.int (iI (((l : Nat) : Int)))), none, none]) (Nat.le_of_ble_eq_true rfl) (okar_cons rfl (okar_cons rfl (okar_cons rfl (okar_cons rfl (okar_cons rfl okar_nil))))) rfl (fun Qr hQ => ?_)
  have ht' := IsPl_b ht
  refine rw_blk lk_X7_find_0 ?_
  refine rw_of (fun rr hrr => q_aload_n rfl (q_aload_n rfl (q_iload_n rfl hrr))) ?_
  obtain ⟨_, mm1, pp2, hV3, rfl, rfl, hF3, hv3⟩ := c_X7_beginAtEnd (S := S) (fz := fz) (m := m) (p := p) (d := d) (by omega) (n) (t) (q) hP ht (by omega) (by omega) hm
  refine rw_of (fun rr hrr => q_invV hV3 (show SH 73 = (15, 0) from rfl) rfl rfl (okar_cons rfl (okar_cons rfl okar_nil)) (Nat.le_of_ble_eq_true rfl) (q_iconst (q_istore (Nat.le_of_ble_eq_true rfl) rfl hrr))) ?_
  have hL9 : ∀ s, s ≤ l → ∀ (m1 : M1) (x9_6 : Option Value), (Fr (fun a_ => 74 ≤ a_ ∧ a_ < 115) m m1 ∧ (∀ k, k < n → ∀ j, j < n → m1 (75 + k) j = (rc n (fun z => m (t + 2 + z)) (m (t + 10)) (m (t + 11)) q r) s k j) ∧ ∀ k, k < s → ∀ j, j < n → m1 (93 + k) j = rK n ((rc n (fun z => m (t + 2 + z)) (m (t + 10)) (m (t + 11)) q r) k) (fun z => m (t + 2 + z)) (m (t + 10)) r j) → Rw (Ev d) k_X7_find (9, [], [some (.ref (73)), some (.ref (t)), some (.int (iI (vF (q)))), some (.int (iI (vF (r)))), some (.int (iI (((l : Nat) : Int)))), some (.int (iI (((s : Nat) : Int)))), x9_6], [], hpM S fz (m1, p), 0, 0) Qr := by
    refine loop_any (fun s hi9 ih9 => ?_)
    intro m1 x9_6
    intro hI9
    obtain ⟨hF, hv, hK⟩ := hI9
    refine rw_blk lk_X7_find_9 ?_
    refine rw_of (fun rr hrr => q_iload rfl (q_iload rfl hrr)) ?_
    refine rw_icmp_ge ⟨by omega, by omega⟩ ⟨by omega, by omega⟩ (t := 84) rfl (fun hc4 => ?_) (fun hc4 => ?_)
    · skip
      refine rw_blk lk_X7_find_84 ?_
      refine rw_of (fun rr hrr => q_iconst hrr) ?_
      refine rw_ret hQ (q_ireturn (by omega)) ?_
      have e9 : l = s := (by omega)
      subst e9
      exact ⟨rfl, hF, rfl, hv, hK⟩
      
    · skip
      refine rw_of (fun rr hrr => q_aload_n rfl (q_getI (PI_pl hP ht).1 rfl (ki (hF t (by show ¬ (74 ≤ t ∧ t < 115); omega)) hm (by omega)) (q_aload_n rfl (q_getR (show SH 73 = (15, 0) from rfl) rfl (pt_73_0 hP) (q_aload_n rfl (q_getR (PI_pl hP ht).1 rfl (PI_pl hP ht).2.2.1 (q_aload_n rfl (q_getR (show SH 73 = (15, 0) from rfl) rfl (pt_73_3 hP) hrr)))))))) ?_
      obtain ⟨_, mm5, pp6, hV7, rfl, rfl, hF7, hv7⟩ := c_X6_squareByColumn (S := S) (fz := fz) (m := m1) (p := p) (d := d) (by omega) (n) (74) (t + 10) (113) (fun i => 75 + i) (by omega) hP.2.2.2.2.1 ((PI_pl hP ht).2.2.2.2.1) ((show SH 113 = (1, 8) from rfl)) (by omega) (by omega) (by omega) (fun k hk => by omega)
      refine rw_of (fun rr hrr => q_invS hV7 rfl rfl (okar_cons rfl (okar_cons rfl (okar_cons rfl (okar_cons rfl okar_nil)))) (Nat.le_of_ble_eq_true rfl) (q_iload_n rfl (q_aload_n rfl (q_getI (PI_pl hP ht).1 rfl (ki ((hF7 t (by show ¬ (t = 113); omega)).trans (hF t (by show ¬ (74 ≤ t ∧ t < 115); omega))) hm (by omega)) (q_aload_n rfl (q_getR (PI_pl hP ht).1 rfl (PI_pl hP ht).2.2.1 (q_aload_n rfl (q_getR (show SH 73 = (15, 0) from rfl) rfl (pt_73_3 hP) hrr)))))))) ?_
      obtain ⟨_, mm8, pp9, hV10, rfl, rfl, rfl⟩ := c_X6_product (S := S) (fz := fz) (m := mm5) (p := p) (d := d) (by omega) (n) (t + 10) (113) (by omega) ((PI_pl hP ht).2.2.2.2.1) ((show SH 113 = (1, 8) from rfl)) (by omega) (by omega)
      refine rw_of (fun rr hrr => q_invS hV10 rfl rfl (okar_cons rfl (okar_cons rfl (okar_cons rfl okar_nil))) (Nat.le_of_ble_eq_true rfl) hrr) ?_
      obtain ⟨_, mm11, pp12, hV13, rfl, rfl, rfl⟩ := c_X2_plus (S := S) (fz := fz) (m := mm5) (p := p) (d := d) (by omega) (r) (dot n (mm5 (t + 10)) (mm5 113))
      refine rw_of (fun rr hrr => q_invS hV13 rfl rfl (okar_cons rfl (okar_cons rfl okar_nil)) (Nat.le_of_ble_eq_true rfl) hrr) ?_
      have hb9 : ∀ i, i < n → mm5 113 i = rb n (fun i => mm5 (75 + i)) (mm5 (t + 10)) i := fun i hi => by
        rw [hv7, if_pos hi, hF7 (t + 10) (by omega)]
        exact dot_congr (fun c hc => show m1 (75 + i) c = mm5 (75 + i) c by rw [hF7 (75 + i) (by omega)]) (fun _ _ => rfl)
      have hm9 : r + dot n (mm5 (t + 10)) (mm5 113) = rm n ((rc n (fun z => m (t + 2 + z)) (m (t + 10)) (m (t + 11)) q r) s) (m (t + 10)) r := by
        rw [hF7 (t + 10) (by omega), hF (t + 10) (by omega)]
        refine congrArg (fun z => r + z) (dot_congr (fun _ _ => rfl) (fun i hi => ?_))
        rw [hv7, if_pos hi, hF (t + 10) (by omega)]
        exact dot_congr (fun c hc => hv i hi c hc) (fun _ _ => rfl)
      refine rw_of (fun rr hrr => q_istore (Nat.le_of_ble_eq_true rfl) rfl (q_iload rfl hrr)) ?_
      refine rw_if_ne (rg_vF _) (t := 63) rfl (fun hc14 => ?_) (fun hc14 => ?_)
      · skip
        have hm8 := hm9
        refine rw_blk lk_X7_find_63 ?_
        refine rw_of (fun rr hrr => q_aload_n rfl (q_aload_n rfl (q_iload_n rfl (q_iload rfl (q_aload_n rfl (q_getR (show SH 73 = (15, 0) from rfl) rfl (pt_73_2 hP) (q_iload rfl (q_aald (t := 0) (j := s) (show SH 92 = (3, 20) from rfl) (by omega) (by omega) (by omega) (hP.2.2.2.2.2.2.1 s (by omega)) hrr)))))))) ?_
        obtain ⟨_, mm15, pp16, hV17, rfl, rfl, hF17, hv17, hK17⟩ := c_X7_stepBack (S := S) (fz := fz) (m := mm5) (p := p) (d := d) (by omega) (n) (t) (93 + s) (q) (r + (dot n (mm5 (t + 10)) (mm5 113))) hP ht (by omega) (by omega) ((congrFun ((hF7 t (by show ¬ (t = 113); omega)).trans (hF t (by show ¬ (74 ≤ t ∧ t < 115); omega))) 0).trans hm) (by omega) (hb9)
        refine rw_of (fun rr hrr => q_invV hV17 (show SH 73 = (15, 0) from rfl) rfl rfl (okar_cons rfl (okar_cons rfl (okar_cons rfl (okar_cons rfl okar_nil)))) (Nat.le_of_ble_eq_true rfl) (q_iinc rfl rfl (q_goto (t := 9) rfl hrr))) ?_
        have hA18 : Fr (fun a_ => 74 ≤ a_ ∧ a_ < 115) m mm15 ∧ (∀ k, k < n → ∀ j, j < n → mm15 (75 + k) j = (rc n (fun z => m (t + 2 + z)) (m (t + 10)) (m (t + 11)) q r) (s + 1) k j) ∧ ∀ k, k < (s + 1) → ∀ j, j < n → mm15 (93 + k) j = rK n ((rc n (fun z => m (t + 2 + z)) (m (t + 10)) (m (t + 11)) q r) k) (fun z => m (t + 2 + z)) (m (t + 10)) r j := by
          have hA9 : ∀ l, l < n → mm5 (t + 2 + l) = m (t + 2 + l) := fun l hl => by rw [hF7 _ (by omega), hF _ (by omega)]
          have hP9 : ∀ k, k < n → ∀ j, j < n → mm5 (75 + k) j = (rc n (fun z => m (t + 2 + z)) (m (t + 10)) (m (t + 11)) q r) s k j := fun k hk j hj => by
            rw [hF7 (75 + k) (by omega)]
            exact hv k hk j hj
          have hr9 : ∀ l, l < n → ∀ j, j < n → rpa n (fun z => mm5 (75 + z)) (fun z => mm5 (t + 2 + z)) l j = rpa n ((rc n (fun z => m (t + 2 + z)) (m (t + 10)) (m (t + 11)) q r) s) (fun z => m (t + 2 + z)) l j := fun l hl j hj => dot_congr (fun c hc => hP9 l hl c hc) (fun c hc => congrFun (hA9 c hc) j)
          have hb8 : mm5 (t + 10) = m (t + 10) := by rw [hF7 _ (by omega), hF _ (by omega)]
          have hc8 : mm5 (t + 11) = m (t + 11) := by rw [hF7 _ (by omega), hF _ (by omega)]
          have hk9 : ∀ j, j < n → dot n (m (t + 10)) (fun l => rpa n (fun z => mm5 (75 + z)) (fun z => mm5 (t + 2 + z)) l j) = dot n (m (t + 10)) (fun l => rpa n ((rc n (fun z => m (t + 2 + z)) (m (t + 10)) (m (t + 11)) q r) s) (fun z => m (t + 2 + z)) l j) := fun j hj => dot_congr (fun _ _ => rfl) (fun l hl => hr9 l hl j hj)
          have ha9 : ∀ k, k < n → rap n (fun z => mm5 (75 + z)) (fun z => mm5 (t + 2 + z)) (m (t + 10)) k = rap n ((rc n (fun z => m (t + 2 + z)) (m (t + 10)) (m (t + 11)) q r) s) (fun z => m (t + 2 + z)) (m (t + 10)) k := fun k hk => dot_congr (fun i hi => dot_congr (fun c hc => hP9 i hi c hc) (fun _ _ => rfl)) (fun i hi => congrFun (hA9 i hi) k)
          refine ⟨Fr_trans hF (Fr_trans (Fr_mono hF7 (fun a ha => by omega)) (Fr_mono hF17 (fun a ha => by omega))), fun k hk j hj => ?_, fun k hk j hj => ?_⟩
          · rw [hv17 k hk j hj, hm9, hb8, hc8, hk9 j hj, ha9 k hk, dot_congr (f := fun l => mm5 (t + 2 + l) k) (fun l hl => by rw [hA9 l hl]) (fun l hl => hr9 l hl j hj)]
            rfl
          · by_cases q : k = s
            · rw [q, hK17 j hj, hm9, hb8, hk9 j hj]
              rfl
            · rw [hF17 (93 + k) (by omega), hF7 (93 + k) (by omega)]
              exact hK k (by omega) j hj
        exact rw_cast (ih9 (by omega) mm15 (some (.int (iI (vF (r + (dot n (mm5 (t + 10)) (mm5 113))))))) hA18) (lcons rfl (lcons rfl (lcons rfl (lcons rfl (lcons rfl (lcons (lvI (by omega)) (lcons rfl rfl))))))) rfl
      · exact absurd (hm9.symm.trans (vF_eq0.mp (by assumption))) (hr s (by omega))
  exact rw_cast (hL9 0 (by omega) mm1 none (by exact ⟨Fr_mono hF3 (fun a ha => by omega), hv3, fun k hk => absurd hk (Nat.not_lt_zero k)⟩)) (lcons rfl (lcons rfl (lcons rfl (lcons rfl (lcons rfl (lcons (lvI (by omega)) (lcons rfl rfl))))))) rfl
theorem c_X7_find0 {d : Nat} {S : Env} {fz : Bool} {m : M1} {p : M2} (hd : 5 ≤ d) (n t l l0 : Nat) (q r : F) (hP : PI p) (ht : IsPl t) (hn0 : 1 ≤ n) (hn : n ≤ 8) (hm : m t 0 = nF n) (hl : l0 < l ∧ l ≤ 20) (hr : ∀ s, s < l0 → rm n ((rc n (fun z => m (t + 2 + z)) (m (t + 10)) (m (t + 11)) q r) s) (m (t + 10)) r ≠ 0) (hr0 : rm n ((rc n (fun z => m (t + 2 + z)) (m (t + 10)) (m (t + 11)) q r) l0) (m (t + 10)) r = 0) : Ct d k_X7_find S fz [.ref (73), .ref (t), .int (iI (vF (q))), .int (iI (vF (r))), .int (iI (((l : Nat) : Int)))] m p (fun v m' p' => p = p' ∧ Fr (fun a_ => 74 ≤ a_ ∧ a_ < 115) m m' ∧ v = some (.int (iI 0))) := by
  obtain ⟨d, rfl⟩ : ∃ e, d = e + 1 := ⟨d - 1, by omega⟩
  refine ct_go (lv := [some (.ref (73)), some (.ref (t)), some (.int (iI (vF (q)))), some (.int (iI (vF (r)))), some (.int (iI (((l : Nat) : Int)))), none, none]) (Nat.le_of_ble_eq_true rfl) (okar_cons rfl (okar_cons rfl (okar_cons rfl (okar_cons rfl (okar_cons rfl okar_nil))))) rfl (fun Qr hQ => ?_)
  have ht' := IsPl_b ht
  refine rw_blk lk_X7_find_0 ?_
  refine rw_of (fun rr hrr => q_aload_n rfl (q_aload_n rfl (q_iload_n rfl hrr))) ?_
  obtain ⟨_, mm1, pp2, hV3, rfl, rfl, hF3, hv3⟩ := c_X7_beginAtEnd (S := S) (fz := fz) (m := m) (p := p) (d := d) (by omega) (n) (t) (q) hP ht (by omega) (by omega) hm
  refine rw_of (fun rr hrr => q_invV hV3 (show SH 73 = (15, 0) from rfl) rfl rfl (okar_cons rfl (okar_cons rfl okar_nil)) (Nat.le_of_ble_eq_true rfl) (q_iconst (q_istore (Nat.le_of_ble_eq_true rfl) rfl hrr))) ?_
  have hL9 : ∀ s, s ≤ l0 → ∀ (m1 : M1) (x9_6 : Option Value), (Fr (fun a_ => 74 ≤ a_ ∧ a_ < 115) m m1 ∧ (∀ k, k < n → ∀ j, j < n → m1 (75 + k) j = (rc n (fun z => m (t + 2 + z)) (m (t + 10)) (m (t + 11)) q r) s k j) ∧ ∀ k, k < s → ∀ j, j < n → m1 (93 + k) j = rK n ((rc n (fun z => m (t + 2 + z)) (m (t + 10)) (m (t + 11)) q r) k) (fun z => m (t + 2 + z)) (m (t + 10)) r j) → Rw (Ev d) k_X7_find (9, [], [some (.ref (73)), some (.ref (t)), some (.int (iI (vF (q)))), some (.int (iI (vF (r)))), some (.int (iI (((l : Nat) : Int)))), some (.int (iI (((s : Nat) : Int)))), x9_6], [], hpM S fz (m1, p), 0, 0) Qr := by
    refine loop_any (fun s hi9 ih9 => ?_)
    intro m1 x9_6
    intro hI9
    obtain ⟨hF, hv, hK⟩ := hI9
    refine rw_blk lk_X7_find_9 ?_
    refine rw_of (fun rr hrr => q_iload rfl (q_iload rfl hrr)) ?_
    refine rw_icmp_ge ⟨by omega, by omega⟩ ⟨by omega, by omega⟩ (t := 84) rfl (fun hc4 => ?_) (fun hc4 => ?_)
    · exfalso; omega
    · skip
      refine rw_of (fun rr hrr => q_aload_n rfl (q_getI (PI_pl hP ht).1 rfl (ki (hF t (by show ¬ (74 ≤ t ∧ t < 115); omega)) hm (by omega)) (q_aload_n rfl (q_getR (show SH 73 = (15, 0) from rfl) rfl (pt_73_0 hP) (q_aload_n rfl (q_getR (PI_pl hP ht).1 rfl (PI_pl hP ht).2.2.1 (q_aload_n rfl (q_getR (show SH 73 = (15, 0) from rfl) rfl (pt_73_3 hP) hrr)))))))) ?_
      obtain ⟨_, mm5, pp6, hV7, rfl, rfl, hF7, hv7⟩ := c_X6_squareByColumn (S := S) (fz := fz) (m := m1) (p := p) (d := d) (by omega) (n) (74) (t + 10) (113) (fun i => 75 + i) (by omega) hP.2.2.2.2.1 ((PI_pl hP ht).2.2.2.2.1) ((show SH 113 = (1, 8) from rfl)) (by omega) (by omega) (by omega) (fun k hk => by omega)
      refine rw_of (fun rr hrr => q_invS hV7 rfl rfl (okar_cons rfl (okar_cons rfl (okar_cons rfl (okar_cons rfl okar_nil)))) (Nat.le_of_ble_eq_true rfl) (q_iload_n rfl (q_aload_n rfl (q_getI (PI_pl hP ht).1 rfl (ki ((hF7 t (by show ¬ (t = 113); omega)).trans (hF t (by show ¬ (74 ≤ t ∧ t < 115); omega))) hm (by omega)) (q_aload_n rfl (q_getR (PI_pl hP ht).1 rfl (PI_pl hP ht).2.2.1 (q_aload_n rfl (q_getR (show SH 73 = (15, 0) from rfl) rfl (pt_73_3 hP) hrr)))))))) ?_
      obtain ⟨_, mm8, pp9, hV10, rfl, rfl, rfl⟩ := c_X6_product (S := S) (fz := fz) (m := mm5) (p := p) (d := d) (by omega) (n) (t + 10) (113) (by omega) ((PI_pl hP ht).2.2.2.2.1) ((show SH 113 = (1, 8) from rfl)) (by omega) (by omega)
      refine rw_of (fun rr hrr => q_invS hV10 rfl rfl (okar_cons rfl (okar_cons rfl (okar_cons rfl okar_nil))) (Nat.le_of_ble_eq_true rfl) hrr) ?_
      obtain ⟨_, mm11, pp12, hV13, rfl, rfl, rfl⟩ := c_X2_plus (S := S) (fz := fz) (m := mm5) (p := p) (d := d) (by omega) (r) (dot n (mm5 (t + 10)) (mm5 113))
      refine rw_of (fun rr hrr => q_invS hV13 rfl rfl (okar_cons rfl (okar_cons rfl okar_nil)) (Nat.le_of_ble_eq_true rfl) hrr) ?_
      have hb9 : ∀ i, i < n → mm5 113 i = rb n (fun i => mm5 (75 + i)) (mm5 (t + 10)) i := fun i hi => by
        rw [hv7, if_pos hi, hF7 (t + 10) (by omega)]
        exact dot_congr (fun c hc => show m1 (75 + i) c = mm5 (75 + i) c by rw [hF7 (75 + i) (by omega)]) (fun _ _ => rfl)
      have hm9 : r + dot n (mm5 (t + 10)) (mm5 113) = rm n ((rc n (fun z => m (t + 2 + z)) (m (t + 10)) (m (t + 11)) q r) s) (m (t + 10)) r := by
        rw [hF7 (t + 10) (by omega), hF (t + 10) (by omega)]
        refine congrArg (fun z => r + z) (dot_congr (fun _ _ => rfl) (fun i hi => ?_))
        rw [hv7, if_pos hi, hF (t + 10) (by omega)]
        exact dot_congr (fun c hc => hv i hi c hc) (fun _ _ => rfl)
      refine rw_of (fun rr hrr => q_istore (Nat.le_of_ble_eq_true rfl) rfl (q_iload rfl hrr)) ?_
      refine rw_if_ne (rg_vF _) (t := 63) rfl (fun hc14 => ?_) (fun hc14 => ?_)
      · skip
        have hs9 : s < l0 := (by rcases Nat.lt_or_ge s l0 with q9 | q9; exact q9; exact absurd (hm9.trans ((show s = l0 by omega) ▸ hr0)) (fun z => absurd (vF_eq0.mpr z) (by assumption)))
        refine rw_blk lk_X7_find_63 ?_
        refine rw_of (fun rr hrr => q_aload_n rfl (q_aload_n rfl (q_iload_n rfl (q_iload rfl (q_aload_n rfl (q_getR (show SH 73 = (15, 0) from rfl) rfl (pt_73_2 hP) (q_iload rfl (q_aald (t := 0) (j := s) (show SH 92 = (3, 20) from rfl) (by omega) (by omega) (by omega) (hP.2.2.2.2.2.2.1 s (by omega)) hrr)))))))) ?_
        obtain ⟨_, mm15, pp16, hV17, rfl, rfl, hF17, hv17, hK17⟩ := c_X7_stepBack (S := S) (fz := fz) (m := mm5) (p := p) (d := d) (by omega) (n) (t) (93 + s) (q) (r + (dot n (mm5 (t + 10)) (mm5 113))) hP ht (by omega) (by omega) ((congrFun ((hF7 t (by show ¬ (t = 113); omega)).trans (hF t (by show ¬ (74 ≤ t ∧ t < 115); omega))) 0).trans hm) (by omega) (hb9)
        refine rw_of (fun rr hrr => q_invV hV17 (show SH 73 = (15, 0) from rfl) rfl rfl (okar_cons rfl (okar_cons rfl (okar_cons rfl (okar_cons rfl okar_nil)))) (Nat.le_of_ble_eq_true rfl) (q_iinc rfl rfl (q_goto (t := 9) rfl hrr))) ?_
        have hA18 : Fr (fun a_ => 74 ≤ a_ ∧ a_ < 115) m mm15 ∧ (∀ k, k < n → ∀ j, j < n → mm15 (75 + k) j = (rc n (fun z => m (t + 2 + z)) (m (t + 10)) (m (t + 11)) q r) (s + 1) k j) ∧ ∀ k, k < (s + 1) → ∀ j, j < n → mm15 (93 + k) j = rK n ((rc n (fun z => m (t + 2 + z)) (m (t + 10)) (m (t + 11)) q r) k) (fun z => m (t + 2 + z)) (m (t + 10)) r j := by
          have hA9 : ∀ l, l < n → mm5 (t + 2 + l) = m (t + 2 + l) := fun l hl => by rw [hF7 _ (by omega), hF _ (by omega)]
          have hP9 : ∀ k, k < n → ∀ j, j < n → mm5 (75 + k) j = (rc n (fun z => m (t + 2 + z)) (m (t + 10)) (m (t + 11)) q r) s k j := fun k hk j hj => by
            rw [hF7 (75 + k) (by omega)]
            exact hv k hk j hj
          have hr9 : ∀ l, l < n → ∀ j, j < n → rpa n (fun z => mm5 (75 + z)) (fun z => mm5 (t + 2 + z)) l j = rpa n ((rc n (fun z => m (t + 2 + z)) (m (t + 10)) (m (t + 11)) q r) s) (fun z => m (t + 2 + z)) l j := fun l hl j hj => dot_congr (fun c hc => hP9 l hl c hc) (fun c hc => congrFun (hA9 c hc) j)
          have hb8 : mm5 (t + 10) = m (t + 10) := by rw [hF7 _ (by omega), hF _ (by omega)]
          have hc8 : mm5 (t + 11) = m (t + 11) := by rw [hF7 _ (by omega), hF _ (by omega)]
          have hk9 : ∀ j, j < n → dot n (m (t + 10)) (fun l => rpa n (fun z => mm5 (75 + z)) (fun z => mm5 (t + 2 + z)) l j) = dot n (m (t + 10)) (fun l => rpa n ((rc n (fun z => m (t + 2 + z)) (m (t + 10)) (m (t + 11)) q r) s) (fun z => m (t + 2 + z)) l j) := fun j hj => dot_congr (fun _ _ => rfl) (fun l hl => hr9 l hl j hj)
          have ha9 : ∀ k, k < n → rap n (fun z => mm5 (75 + z)) (fun z => mm5 (t + 2 + z)) (m (t + 10)) k = rap n ((rc n (fun z => m (t + 2 + z)) (m (t + 10)) (m (t + 11)) q r) s) (fun z => m (t + 2 + z)) (m (t + 10)) k := fun k hk => dot_congr (fun i hi => dot_congr (fun c hc => hP9 i hi c hc) (fun _ _ => rfl)) (fun i hi => congrFun (hA9 i hi) k)
          refine ⟨Fr_trans hF (Fr_trans (Fr_mono hF7 (fun a ha => by omega)) (Fr_mono hF17 (fun a ha => by omega))), fun k hk j hj => ?_, fun k hk j hj => ?_⟩
          · rw [hv17 k hk j hj, hm9, hb8, hc8, hk9 j hj, ha9 k hk, dot_congr (f := fun l => mm5 (t + 2 + l) k) (fun l hl => by rw [hA9 l hl]) (fun l hl => hr9 l hl j hj)]
            rfl
          · by_cases q : k = s
            · rw [q, hK17 j hj, hm9, hb8, hk9 j hj]
              rfl
            · rw [hF17 (93 + k) (by omega), hF7 (93 + k) (by omega)]
              exact hK k (by omega) j hj
        exact rw_cast (ih9 (by omega) mm15 (some (.int (iI (vF (r + (dot n (mm5 (t + 10)) (mm5 113))))))) hA18) (lcons rfl (lcons rfl (lcons rfl (lcons rfl (lcons rfl (lcons (lvI (by omega)) (lcons rfl rfl))))))) rfl
      · skip
        refine rw_of (fun rr hrr => q_iconst hrr) ?_
        refine rw_ret hQ (q_ireturn (by omega)) ?_
        exact ⟨rfl, Fr_trans hF (Fr_mono hF7 (fun a ha => by omega)), rfl⟩
        
  exact rw_cast (hL9 0 (by omega) mm1 none (by exact ⟨Fr_mono hF3 (fun a ha => by omega), hv3, fun k hk => absurd hk (Nat.not_lt_zero k)⟩)) (lcons rfl (lcons rfl (lcons rfl (lcons rfl (lcons rfl (lcons (lvI (by omega)) (lcons rfl rfl))))))) rfl
theorem c_X7_costByEnd {d : Nat} {S : Env} {fz : Bool} {m : M1} {p : M2} (hd : 2 ≤ d) (n : Nat) (hP : PI p) (hn : n ≤ 8) : Ct d k_X7_costByEnd S fz [.ref (73), .int (iI (((n : Nat) : Int)))] m p (fun v m' p' => v = some (.int (iI (vF (sm n (fun i => sm n (fun j => m (75 + i) j)))))) ∧ m = m' ∧ p = p') := by
  obtain ⟨d, rfl⟩ : ∃ e, d = e + 1 := ⟨d - 1, by omega⟩
  refine ct_go (lv := [some (.ref (73)), some (.int (iI (((n : Nat) : Int)))), none, none, none]) (Nat.le_of_ble_eq_true rfl) (okar_cons rfl (okar_cons rfl okar_nil)) rfl (fun Qr hQ => ?_)
  refine rw_blk lk_X7_costByEnd_0 ?_
  refine rw_of (fun rr hrr => q_iconst (q_istore_n (Nat.le_of_ble_eq_true rfl) rfl (q_iconst (q_istore_n (Nat.le_of_ble_eq_true rfl) rfl hrr)))) ?_
  have hL4 : ∀ i, i ≤ n → ∀ (x4_4 : Option Value), Rw (Ev d) k_X7_costByEnd (4, [], [some (.ref (73)), some (.int (iI (((n : Nat) : Int)))), some (.int (iI (vF (sm i (fun i => sm n (fun j => m (75 + i) j)))))), some (.int (iI (((i : Nat) : Int)))), x4_4], [], hpM S fz (m, p), 0, 0) Qr := by
    refine loop_any (fun i hi4 ih4 => ?_)
    intro x4_4
    refine rw_blk lk_X7_costByEnd_4 ?_
    refine rw_of (fun rr hrr => q_iload_n rfl (q_iload_n rfl hrr)) ?_
    refine rw_icmp_ge ⟨by omega, by omega⟩ ⟨by omega, by omega⟩ (t := 44) rfl (fun hc1 => ?_) (fun hc1 => ?_)
    · skip
      refine rw_blk lk_X7_costByEnd_44 ?_
      refine rw_of (fun rr hrr => q_iload_n rfl hrr) ?_
      refine rw_ret hQ (q_ireturn (Or.inl rfl)) ?_
      have e9 : n = i := (by omega)
      subst e9
      exact ⟨rfl, rfl, rfl⟩
      
    · skip
      refine rw_of (fun rr hrr => q_iconst (q_istore (Nat.le_of_ble_eq_true rfl) rfl hrr)) ?_
      have hL12 : ∀ k, k ≤ n → Rw (Ev d) k_X7_costByEnd (12, [], [some (.ref (73)), some (.int (iI (((n : Nat) : Int)))), some (.int (iI (vF (sm i (fun i => sm n (fun j => m (75 + i) j)) + sm k (fun j => m (75 + i) j))))), some (.int (iI (((i : Nat) : Int)))), some (.int (iI (((k : Nat) : Int))))], [], hpM S fz (m, p), 0, 0) Qr := by
        refine loop_any (fun k hi12 ih12 => ?_)
        refine rw_blk lk_X7_costByEnd_12 ?_
        refine rw_of (fun rr hrr => q_iload rfl (q_iload_n rfl hrr)) ?_
        refine rw_icmp_ge ⟨by omega, by omega⟩ ⟨by omega, by omega⟩ (t := 38) rfl (fun hc2 => ?_) (fun hc2 => ?_)
        · skip
          refine rw_blk lk_X7_costByEnd_38 ?_
          refine rw_of (fun rr hrr => q_iinc rfl rfl (q_goto (t := 4) rfl hrr)) ?_
          exact rw_cast (ih4 (by omega) (some (.int (iI (((k : Nat) : Int)))))) (lcons rfl (lcons rfl (lcons (lvI (by exact congrArg vF (by rw [show n = k by omega]; rfl))) (lcons (lvI (by omega)) (lcons rfl rfl))))) rfl
        · skip
          refine rw_of (fun rr hrr => q_iload_n rfl (q_aload_n rfl (q_getR (show SH 73 = (15, 0) from rfl) rfl (pt_73_0 hP) (q_iload_n rfl (q_aald (t := 0) (j := i) hP.2.2.2.2.1.1 (by omega) (by omega) (by omega) (hP.2.2.2.2.1.2.1 i (by omega)) (q_iload rfl (q_iald (j := k) (hP.2.2.2.2.1.2.2 i (by omega)) rfl (by omega) rfl hrr))))))) ?_
          obtain ⟨_, mm3, pp4, hV5, rfl, rfl, rfl⟩ := c_X2_plus (S := S) (fz := fz) (m := m) (p := p) (d := d) (by omega) (sm i (fun i => sm n (fun j => m (75 + i) j)) + sm k (fun j => m (75 + i) j)) (m (75 + i) k)
          refine rw_of (fun rr hrr => q_invS hV5 rfl rfl (okar_cons rfl (okar_cons rfl okar_nil)) (Nat.le_of_ble_eq_true rfl) (q_istore_n (Nat.le_of_ble_eq_true rfl) rfl (q_iinc rfl rfl (q_goto (t := 12) rfl hrr)))) ?_
          exact rw_cast (ih12 (by omega)) (lcons rfl (lcons rfl (lcons (lvI (by exact congrArg vF (by rw [sm_s]; grind))) (lcons rfl (lcons (lvI (by omega)) rfl))))) rfl
      exact rw_cast (hL12 0 (by omega)) (lcons rfl (lcons rfl (lcons (lvI (by exact congrArg vF (by rw [sm_0, F_add0]))) (lcons rfl (lcons (lvI (by omega)) rfl))))) rfl
  exact rw_cast (hL4 0 (by omega) none) (lcons rfl (lcons rfl (lcons (lvI (by rfl)) (lcons (lvI (by omega)) (lcons rfl rfl))))) rfl
theorem c_X7_costHere {d : Nat} {S : Env} {fz : Bool} {m : M1} {p : M2} (hd : 3 ≤ d) (n t : Nat) (q : F) (hP : PI p) (ht : IsPl t) (hn0 : 1 ≤ n) (hn : n ≤ 8) (hm : m t 0 = nF n) : Ct d k_X7_costHere S fz [.ref (73), .ref (t), .int (iI (vF (q)))] m p (fun v m' p' => v = some (.int (iI (vF (hc n (m (t + 11)) q (m 115))))) ∧ m = m' ∧ p = p') := by
  obtain ⟨d, rfl⟩ : ∃ e, d = e + 1 := ⟨d - 1, by omega⟩
  refine ct_go (lv := [some (.ref (73)), some (.ref (t)), some (.int (iI (vF (q)))), none]) (Nat.le_of_ble_eq_true rfl) (okar_cons rfl (okar_cons rfl (okar_cons rfl okar_nil))) rfl (fun Qr hQ => ?_)
  have ht' := IsPl_b ht
  refine rw_blk lk_X7_costHere_0 ?_
  refine rw_of (fun rr hrr => q_aload_n rfl (q_getI (PI_pl hP ht).1 rfl (ki rfl hm (by omega)) (q_aload_n rfl (q_getR (PI_pl hP ht).1 rfl (PI_pl hP ht).2.2.2.1 (q_aload_n rfl (q_getR (show SH 73 = (15, 0) from rfl) rfl (pt_73_5 hP) hrr)))))) ?_
  obtain ⟨_, mm1, pp2, hV3, rfl, rfl, rfl⟩ := c_X6_product (S := S) (fz := fz) (m := m) (p := p) (d := d) (by omega) (n) (t + 11) (115) (by omega) ((PI_pl hP ht).2.2.2.2.2.1) ((show SH 115 = (1, 8) from rfl)) (by omega) (by omega)
  refine rw_of (fun rr hrr => q_invS hV3 rfl rfl (okar_cons rfl (okar_cons rfl (okar_cons rfl okar_nil))) (Nat.le_of_ble_eq_true rfl) (q_istore_n (Nat.le_of_ble_eq_true rfl) rfl (q_iload_n rfl (q_iload_n rfl (q_iload_n rfl hrr))))) ?_
  obtain ⟨_, mm4, pp5, hV6, rfl, rfl, rfl⟩ := c_X2_times (S := S) (fz := fz) (m := m) (p := p) (d := d) (by omega) (dot n (m (t + 11)) (m 115)) (dot n (m (t + 11)) (m 115))
  refine rw_of (fun rr hrr => q_invS hV6 rfl rfl (okar_cons rfl (okar_cons rfl okar_nil)) (Nat.le_of_ble_eq_true rfl) hrr) ?_
  obtain ⟨_, mm7, pp8, hV9, rfl, rfl, rfl⟩ := c_X2_times (S := S) (fz := fz) (m := m) (p := p) (d := d) (by omega) (q) ((dot n (m (t + 11)) (m 115)) * (dot n (m (t + 11)) (m 115)))
  refine rw_of (fun rr hrr => q_invS hV9 rfl rfl (okar_cons rfl (okar_cons rfl okar_nil)) (Nat.le_of_ble_eq_true rfl) hrr) ?_
  exact rw_ret hQ (q_ireturn (Or.inl rfl)) (by exact ⟨rfl, rfl, rfl⟩)
theorem c_X7_costByGoing {d : Nat} {S : Env} {fz : Bool} {m : M1} {p : M2} (hd : 4 ≤ d) (n t l : Nat) (q r : F) (hP : PI p) (ht : IsPl t) (hn0 : 1 ≤ n) (hn : n ≤ 8) (hm : m t 0 = nF n) (hl : l ≤ 20) : Ct d k_X7_costByGoing S fz [.ref (73), .ref (t), .int (iI (vF (q))), .int (iI (vF (r))), .int (iI (((l : Nat) : Int)))] m p (fun v m' p' => v = some (.int (iI (vF ((gc n (fun z => m (t + 2 + z)) (m (t + 10)) (m (t + 11)) q r (fun z => m (93 + z)) l) l + hc n (m (t + 11)) q ((gx n (fun z => m (t + 2 + z)) (m (t + 10)) (fun z => m (93 + z)) l) l))))) ∧ p = p' ∧ Fr (fun a_ => a_ = 115 ∨ a_ = 116) m m') := by
  obtain ⟨d, rfl⟩ : ∃ e, d = e + 1 := ⟨d - 1, by omega⟩
  refine ct_go (lv := [some (.ref (73)), some (.ref (t)), some (.int (iI (vF (q)))), some (.int (iI (vF (r)))), some (.int (iI (((l : Nat) : Int)))), none, none, none, none, none]) (Nat.le_of_ble_eq_true rfl) (okar_cons rfl (okar_cons rfl (okar_cons rfl (okar_cons rfl (okar_cons rfl okar_nil))))) rfl (fun Qr hQ => ?_)
  have ht' := IsPl_b ht
  refine rw_blk lk_X7_costByGoing_0 ?_
  refine rw_of (fun rr hrr => q_aload_n rfl (q_getI (PI_pl hP ht).1 rfl (ki rfl hm (by omega)) (q_istore (Nat.le_of_ble_eq_true rfl) rfl (q_iload rfl (q_aload_n rfl (q_getR (show SH 73 = (15, 0) from rfl) rfl (pt_73_5 hP) (q_iconst hrr))))))) ?_
  obtain ⟨_, mm1, pp2, hV3, rfl, rfl, hF3, hv3⟩ := c_X6_fill (S := S) (fz := fz) (m := m) (p := p) (d := d) (by omega) (n) (115) ((1 : F)) (by omega) ((show SH 115 = (1, 8) from rfl)) (by omega)
  refine rw_of (fun rr hrr => q_invS hV3 rfl rfl (okar_cons rfl (okar_cons rfl (okar_cons rfl okar_nil))) (Nat.le_of_ble_eq_true rfl) (q_iconst (q_istore (Nat.le_of_ble_eq_true rfl) rfl (q_iload rfl (q_iconst (q_isub (q_istore (Nat.le_of_ble_eq_true rfl) rfl hrr))))))) ?_
  have hL25 : ∀ t1, t1 ≤ l → ∀ (m1 : M1) (x25_8 : Option Value) (x25_9 : Option Value), (Fr (fun a_ => a_ = 115 ∨ a_ = 116) m m1 ∧ ∀ i, i < n → m1 115 i = (gx n (fun z => m (t + 2 + z)) (m (t + 10)) (fun z => m (93 + z)) l) t1 i) → Rw (Ev d) k_X7_costByGoing (25, [], [some (.ref (73)), some (.ref (t)), some (.int (iI (vF (q)))), some (.int (iI (vF (r)))), some (.int (iI (((l : Nat) : Int)))), some (.int (iI (((n : Nat) : Int)))), some (.int (iI (vF ((gc n (fun z => m (t + 2 + z)) (m (t + 10)) (m (t + 11)) q r (fun z => m (93 + z)) l) t1)))), some (.int (iI (((l : Nat) : Int) - 1 - ((t1 : Nat) : Int)))), x25_8, x25_9], [], hpM S fz (m1, p), 0, 0) Qr := by
    refine loop_any (fun t1 hi25 ih25 => ?_)
    intro m1 x25_8 x25_9
    intro hI25
    obtain ⟨hF, hS⟩ := hI25
    have hx9 : dot n (m1 (93 + (l - 1 - t1))) (m1 115) = dot n (m (93 + (l - 1 - t1))) ((gx n (fun z => m (t + 2 + z)) (m (t + 10)) (fun z => m (93 + z)) l) t1) ∨ l ≤ t1 := (Nat.lt_or_ge t1 l).elim (fun h9 => Or.inl (dot_congr (fun _ _ => by rw [hF _ (by omega)]) (fun i hi => hS i hi))) Or.inr
    have hc9 : hc n (m1 (t + 11)) q (m1 115) = hc n (m (t + 11)) q ((gx n (fun z => m (t + 2 + z)) (m (t + 10)) (fun z => m (93 + z)) l) t1) := by
      unfold hc
      rw [hF _ (by omega), dot_congr (fun _ _ => rfl) (fun i hi => hS i hi)]
    refine rw_blk lk_X7_costByGoing_25 ?_
    refine rw_of (fun rr hrr => q_iload rfl hrr) ?_
    refine rw_if_lt ⟨by omega, by omega⟩ (t := 151) rfl (fun hc4 => ?_) (fun hc4 => ?_)
    · skip
      refine rw_blk lk_X7_costByGoing_151 ?_
      refine rw_of (fun rr hrr => q_iload rfl (q_aload_n rfl (q_aload_n rfl (q_iload_n rfl hrr)))) ?_
      obtain ⟨_, mm5, pp6, hV7, rfl, rfl, rfl⟩ := c_X7_costHere (S := S) (fz := fz) (m := m1) (p := p) (d := d) (by omega) (n) (t) (q) hP ht (by omega) (by omega) ((congrFun (hF t (by show ¬ (t = 115 ∨ t = 116); omega)) 0).trans hm)
      refine rw_of (fun rr hrr => q_invV hV7 (show SH 73 = (15, 0) from rfl) rfl rfl (okar_cons rfl (okar_cons rfl okar_nil)) (Nat.le_of_ble_eq_true rfl) hrr) ?_
      obtain ⟨_, mm8, pp9, hV10, rfl, rfl, rfl⟩ := c_X2_plus (S := S) (fz := fz) (m := m1) (p := p) (d := d) (by omega) ((gc n (fun z => m (t + 2 + z)) (m (t + 10)) (m (t + 11)) q r (fun z => m (93 + z)) l) t1) (hc n (m1 (t + 11)) q (m1 115))
      refine rw_of (fun rr hrr => q_invS hV10 rfl rfl (okar_cons rfl (okar_cons rfl okar_nil)) (Nat.le_of_ble_eq_true rfl) hrr) ?_
      refine rw_ret hQ (q_ireturn (Or.inl rfl)) ?_
      have e9 : l = t1 := (by omega)
      subst e9
      exact ⟨lvI (congrArg vF (by rw [hc9])), rfl, hF⟩
      
    · skip
      refine rw_of (fun rr hrr => q_iconst (q_iload rfl (q_aload_n rfl (q_getR (show SH 73 = (15, 0) from rfl) rfl (pt_73_2 hP) (q_iload rfl (q_aald (t := 0) (j := l - 1 - t1) (show SH 92 = (3, 20) from rfl) (by omega) (by omega) (by omega) (hP.2.2.2.2.2.2.1 (l - 1 - t1) (by omega)) (q_aload_n rfl (q_getR (show SH 73 = (15, 0) from rfl) rfl (pt_73_5 hP) hrr)))))))) ?_
      obtain ⟨_, mm11, pp12, hV13, rfl, rfl, rfl⟩ := c_X6_product (S := S) (fz := fz) (m := m1) (p := p) (d := d) (by omega) (n) (93 + (l - 1 - t1)) (115) (by omega) ((SH_93 (i := (l - 1 - t1)) (by omega))) ((show SH 115 = (1, 8) from rfl)) (by omega) (by omega)
      refine rw_of (fun rr hrr => q_invS hV13 rfl rfl (okar_cons rfl (okar_cons rfl (okar_cons rfl okar_nil))) (Nat.le_of_ble_eq_true rfl) hrr) ?_
      obtain ⟨_, mm14, pp15, hV16, rfl, rfl, rfl⟩ := c_X2_minus (S := S) (fz := fz) (m := m1) (p := p) (d := d) (by omega) ((0 : F)) (dot n (m1 (93 + (l - 1 - t1))) (m1 115))
      refine rw_of (fun rr hrr => q_invS hV16 rfl rfl (okar_cons rfl (okar_cons rfl okar_nil)) (Nat.le_of_ble_eq_true rfl) (q_istore (Nat.le_of_ble_eq_true rfl) rfl (q_iload rfl (q_aload_n rfl (q_aload_n rfl (q_iload_n rfl hrr)))))) ?_
      obtain ⟨_, mm17, pp18, hV19, rfl, rfl, rfl⟩ := c_X7_costHere (S := S) (fz := fz) (m := m1) (p := p) (d := d) (by omega) (n) (t) (q) hP ht (by omega) (by omega) ((congrFun (hF t (by show ¬ (t = 115 ∨ t = 116); omega)) 0).trans hm)
      refine rw_of (fun rr hrr => q_invV hV19 (show SH 73 = (15, 0) from rfl) rfl rfl (okar_cons rfl (okar_cons rfl okar_nil)) (Nat.le_of_ble_eq_true rfl) hrr) ?_
      obtain ⟨_, mm20, pp21, hV22, rfl, rfl, rfl⟩ := c_X2_plus (S := S) (fz := fz) (m := m1) (p := p) (d := d) (by omega) ((gc n (fun z => m (t + 2 + z)) (m (t + 10)) (m (t + 11)) q r (fun z => m (93 + z)) l) t1) (hc n (m1 (t + 11)) q (m1 115))
      refine rw_of (fun rr hrr => q_invS hV22 rfl rfl (okar_cons rfl (okar_cons rfl okar_nil)) (Nat.le_of_ble_eq_true rfl) (q_istore (Nat.le_of_ble_eq_true rfl) rfl (q_iload rfl (q_iload_n rfl (q_iload rfl (q_iload rfl hrr)))))) ?_
      obtain ⟨_, mm23, pp24, hV25, rfl, rfl, rfl⟩ := c_X2_times (S := S) (fz := fz) (m := m1) (p := p) (d := d) (by omega) (((0 : F)) - (dot n (m1 (93 + (l - 1 - t1))) (m1 115))) (((0 : F)) - (dot n (m1 (93 + (l - 1 - t1))) (m1 115)))
      refine rw_of (fun rr hrr => q_invS hV25 rfl rfl (okar_cons rfl (okar_cons rfl okar_nil)) (Nat.le_of_ble_eq_true rfl) hrr) ?_
      obtain ⟨_, mm26, pp27, hV28, rfl, rfl, rfl⟩ := c_X2_times (S := S) (fz := fz) (m := m1) (p := p) (d := d) (by omega) (r) ((((0 : F)) - (dot n (m1 (93 + (l - 1 - t1))) (m1 115))) * (((0 : F)) - (dot n (m1 (93 + (l - 1 - t1))) (m1 115))))
      refine rw_of (fun rr hrr => q_invS hV28 rfl rfl (okar_cons rfl (okar_cons rfl okar_nil)) (Nat.le_of_ble_eq_true rfl) hrr) ?_
      obtain ⟨_, mm29, pp30, hV31, rfl, rfl, rfl⟩ := c_X2_plus (S := S) (fz := fz) (m := m1) (p := p) (d := d) (by omega) (((gc n (fun z => m (t + 2 + z)) (m (t + 10)) (m (t + 11)) q r (fun z => m (93 + z)) l) t1) + (hc n (m1 (t + 11)) q (m1 115))) (r * ((((0 : F)) - (dot n (m1 (93 + (l - 1 - t1))) (m1 115))) * (((0 : F)) - (dot n (m1 (93 + (l - 1 - t1))) (m1 115)))))
      refine rw_of (fun rr hrr => q_invS hV31 rfl rfl (okar_cons rfl (okar_cons rfl okar_nil)) (Nat.le_of_ble_eq_true rfl) (q_istore (Nat.le_of_ble_eq_true rfl) rfl (q_iload rfl (q_aload_n rfl (q_getR (PI_pl hP ht).1 rfl (PI_pl hP ht).2.1 (q_aload_n rfl (q_getR (show SH 73 = (15, 0) from rfl) rfl (pt_73_5 hP) (q_aload_n rfl (q_getR (show SH 73 = (15, 0) from rfl) rfl (pt_73_6 hP) hrr))))))))) ?_
      obtain ⟨_, mm32, pp33, hV34, rfl, rfl, hF34, hv34⟩ := c_X6_squareByColumn (S := S) (fz := fz) (m := m1) (p := p) (d := d) (by omega) (n) (t + 1) (115) (116) (fun i => t + 2 + i) (by omega) (PI_pl hP ht).2.2.2.2.2.2 ((show SH 115 = (1, 8) from rfl)) ((show SH 116 = (1, 8) from rfl)) (by omega) (by omega) (by omega) (fun k hk => by omega)
      refine rw_of (fun rr hrr => q_invS hV34 rfl rfl (okar_cons rfl (okar_cons rfl (okar_cons rfl (okar_cons rfl okar_nil)))) (Nat.le_of_ble_eq_true rfl) (q_iconst (q_istore (Nat.le_of_ble_eq_true rfl) rfl hrr))) ?_
      have hL103 : ∀ k, k ≤ n → ∀ (m2 : M1), (Fr (fun a_ => a_ = 115) mm32 m2 ∧ ∀ j, m2 115 j = if j < k then mm32 116 j + mm32 (t + 10) j * (0 - dot n (m1 (93 + (l - 1 - t1))) (m1 115)) else mm32 115 j) → Rw (Ev d) k_X7_costByGoing (103, [], [some (.ref (73)), some (.ref (t)), some (.int (iI (vF (q)))), some (.int (iI (vF (r)))), some (.int (iI (((l : Nat) : Int)))), some (.int (iI (((n : Nat) : Int)))), some (.int (iI (vF ((((gc n (fun z => m (t + 2 + z)) (m (t + 10)) (m (t + 11)) q r (fun z => m (93 + z)) l) t1) + (hc n (m1 (t + 11)) q (m1 115))) + (r * ((((0 : F)) - (dot n (m1 (93 + (l - 1 - t1))) (m1 115))) * (((0 : F)) - (dot n (m1 (93 + (l - 1 - t1))) (m1 115))))))))), some (.int (iI (((l : Nat) : Int) - 1 - ((t1 : Nat) : Int)))), some (.int (iI (vF (((0 : F)) - (dot n (m1 (93 + (l - 1 - t1))) (m1 115)))))), some (.int (iI (((k : Nat) : Int))))], [], hpM S fz (m2, p), 0, 0) Qr := by
        refine loop_any (fun k hi103 ih103 => ?_)
        intro m2
        intro hI103
        obtain ⟨hF103, hv103⟩ := hI103
        refine rw_blk lk_X7_costByGoing_103 ?_
        refine rw_of (fun rr hrr => q_iload rfl (q_iload rfl hrr)) ?_
        refine rw_icmp_ge ⟨by omega, by omega⟩ ⟨by omega, by omega⟩ (t := 145) rfl (fun hc35 => ?_) (fun hc35 => ?_)
        · skip
          refine rw_blk lk_X7_costByGoing_145 ?_
          refine rw_of (fun rr hrr => q_iinc rfl rfl (q_goto (t := 25) rfl hrr)) ?_
          have hA36 : Fr (fun a_ => a_ = 115 ∨ a_ = 116) m m2 ∧ ∀ i, i < n → m2 115 i = (gx n (fun z => m (t + 2 + z)) (m (t + 10)) (fun z => m (93 + z)) l) (t1 + 1) i := by
            refine ⟨Fr_trans hF (Fr_trans (Fr_mono hF34 (fun a ha => by omega)) (Fr_mono hF103 (fun a ha => by omega))), fun i hi => ?_⟩
            rw [hv103 i, if_pos (by omega), hv34, if_pos hi, hF34 (t + 10) (by omega), hF _ (by omega), hF (t + 10) (by omega), hx9.resolve_right (by omega)]
            show _ = dot n (m (t + 2 + i)) (gx n _ _ _ l t1) + _
            rw [dot_congr (fun _ _ => rfl) (fun c hc => hS c hc)]
          exact rw_cast (ih25 (by omega) m2 (some (.int (iI (vF (((0 : F)) - (dot n (m1 (93 + (l - 1 - t1))) (m1 115))))))) (some (.int (iI (((k : Nat) : Int))))) hA36) (lcons rfl (lcons rfl (lcons rfl (lcons rfl (lcons rfl (lcons rfl (lcons (lvI (by exact congrArg vF (by rw [hx9.resolve_right (by omega), hc9]; rfl))) (lcons (lvI (by omega)) (lcons rfl (lcons rfl rfl)))))))))) rfl
        · skip
          refine rw_of (fun rr hrr => q_aload_n rfl (q_getR (show SH 73 = (15, 0) from rfl) rfl (pt_73_5 hP) (q_iload rfl (q_aload_n rfl (q_getR (show SH 73 = (15, 0) from rfl) rfl (pt_73_6 hP) (q_iload rfl (q_iald (j := k) (show SH 116 = (1, 8) from rfl) rfl (by omega) rfl (q_aload_n rfl (q_getR (PI_pl hP ht).1 rfl (PI_pl hP ht).2.2.1 (q_iload rfl (q_iald (j := k) (PI_pl hP ht).2.2.2.2.1 rfl (by omega) rfl (q_iload rfl hrr)))))))))))) ?_
          obtain ⟨_, mm37, pp38, hV39, rfl, rfl, rfl⟩ := c_X2_times (S := S) (fz := fz) (m := m2) (p := p) (d := d) (by omega) (m2 (t + 10) k) (((0 : F)) - (dot n (m1 (93 + (l - 1 - t1))) (m1 115)))
          refine rw_of (fun rr hrr => q_invS hV39 rfl rfl (okar_cons rfl (okar_cons rfl okar_nil)) (Nat.le_of_ble_eq_true rfl) hrr) ?_
          obtain ⟨_, mm40, pp41, hV42, rfl, rfl, rfl⟩ := c_X2_plus (S := S) (fz := fz) (m := m2) (p := p) (d := d) (by omega) (m2 116 k) ((m2 (t + 10) k) * (((0 : F)) - (dot n (m1 (93 + (l - 1 - t1))) (m1 115))))
          refine rw_of (fun rr hrr => q_invS hV42 rfl rfl (okar_cons rfl (okar_cons rfl okar_nil)) (Nat.le_of_ble_eq_true rfl) (q_iast (j := k) (xx := (m2 116 k) + ((m2 (t + 10) k) * (((0 : F)) - (dot n (m1 (93 + (l - 1 - t1))) (m1 115))))) (show SH 115 = (1, 8) from rfl) rfl (by omega) rfl hrr)) ?_
          generalize hm44 : w1 m2 115 k ((m2 116 k) + ((m2 (t + 10) k) * (((0 : F)) - (dot n (m1 (93 + (l - 1 - t1))) (m1 115))))) = mm43
          refine rw_of (fun rr hrr => q_iinc rfl rfl (q_goto (t := 103) rfl hrr)) ?_
          exact rw_cast (ih103 (by omega) mm43 (by exact ⟨fr_w hm44 hF103 rfl, fill_w hm44 hv103 (by rw [hF103 116 (by omega), hF103 (t + 10) (by omega)])⟩)) (lcons rfl (lcons rfl (lcons rfl (lcons rfl (lcons rfl (lcons rfl (lcons rfl (lcons rfl (lcons rfl (lcons (lvI (by omega)) rfl)))))))))) rfl
      exact rw_cast (hL103 0 (by omega) mm32 (by exact ⟨Fr_rfl, fun j => (if_neg (Nat.not_lt_zero j)).symm⟩)) (lcons rfl (lcons rfl (lcons rfl (lcons rfl (lcons rfl (lcons rfl (lcons rfl (lcons rfl (lcons rfl (lcons (lvI (by omega)) rfl)))))))))) rfl
  have hA45 : Fr (fun a_ => a_ = 115 ∨ a_ = 116) m mm1 ∧ ∀ i, i < n → mm1 115 i = (gx n (fun z => m (t + 2 + z)) (m (t + 10)) (fun z => m (93 + z)) l) 0 i := by
    refine ⟨Fr_mono hF3 (fun a ha => by omega), fun i hi => ?_⟩
    rw [hv3, if_pos hi]
    rfl
  exact rw_cast (hL25 0 (by omega) mm1 none none hA45) (lcons rfl (lcons rfl (lcons rfl (lcons rfl (lcons rfl (lcons rfl (lcons (lvI (by rfl)) (lcons (lvI (by omega)) (lcons rfl (lcons rfl rfl)))))))))) rfl
