/-! THE MODEL. -/
def sI : Nat → (Nat → F) → Int
  | 0, _ => 0
  | n + 1, f => sI n f + vF (f n)
theorem sI_b (n : Nat) (f : Nat → F) : 0 ≤ sI n f ∧ sI n f ≤ 10006 * (n : Int) := by
  induction n with
  | zero => exact ⟨Int.le_refl 0, Int.le_refl 0⟩
  | succ n ih =>
    have h1 := vF_ge (f n)
    have h2 := vF_lt (f n)
    show 0 ≤ sI n f + vF (f n) ∧ sI n f + vF (f n) ≤ 10006 * ((n + 1 : Nat) : Int)
    omega
theorem sI_rg {n : Nat} {f : Nat → F} (h : n ≤ 1000) : rg (sI n f) := by
  have := sI_b n f
  exact ⟨by omega, by omega⟩
theorem sI_toF (n : Nat) (f : Nat → F) : toF (sI n f) = sm n f := by
  induction n with
  | zero => rfl
  | succ n ih =>
    show toF (sI n f + vF (f n)) = sm n f + f n
    rw [toF_add, ih, toF_vF]
theorem sI_rem (n : Nat) (f : Nat → F) : (sI n f).tmod 10007 = vF (sm n f) := remF (sI_b n f).1 (sI_toF n f)
theorem dot_comm (n : Nat) (f g : Nat → F) : dot n f g = dot n g f := sm_congr (fun i _ => by grind)
theorem sI_congr {n : Nat} {f g : Nat → F} (h : ∀ i, i < n → f i = g i) : sI n f = sI n g := by
  induction n with
  | zero => rfl
  | succ n ih =>
    show sI n f + vF (f n) = sI n g + vF (g n)
    rw [ih (fun i hi => h i (by omega)), h n (by omega)]
theorem c_X10_square {d : Nat} {S : MC} {fz : Bool} {m : M1} {p : M2} (hd : 1 ≤ d) (s i j : Nat) (hP : PI p) (hs : s ≤ 12) (hi : i < 8) (hj : j < 8) : Ct d k_X10_square S fz [.ref (261), .int (iI (((s : Nat) : Int))), .int (iI (((i : Nat) : Int))), .int (iI (((j : Nat) : Int)))] m p (fun v m' p' => v = some (.int (iI (vF (m 263 (64 * s + 8 * i + j))))) ∧ m = m' ∧ p = p') := by
  obtain ⟨d, rfl⟩ : ∃ e, d = e + 1 := ⟨d - 1, by omega⟩
  refine ct_go (lv := [some (.ref (261)), some (.int (iI (((s : Nat) : Int)))), some (.int (iI (((i : Nat) : Int)))), some (.int (iI (((j : Nat) : Int))))]) (Nat.le_of_ble_eq_true rfl) (okar_cons rfl (okar_cons rfl (okar_cons rfl (okar_cons rfl okar_nil)))) rfl (fun Qr hQ => ?_)
  refine rw_blk lk_X10_square_0 ?_
  refine rw_of (fun rr hrr => q_aload_n rfl (q_getR (show SH 261 = (18, 0) from rfl) rfl (pt_261_2 hP) (q_bipush rfl (q_iload_n rfl (q_imul (q_bipush rfl (q_iload_n rfl (q_imul (q_iadd (q_iload_n rfl (q_iadd (q_iald (j := 64 * s + (8 * i) + j) (show SH 263 = (1, 832) from rfl) (by omega) (by omega) rfl hrr)))))))))))) ?_
  exact rw_ret hQ (q_ireturn (Or.inl rfl)) (by exact ⟨rfl, rfl, rfl⟩)
theorem c_X10_goes0 {d : Nat} {S : MC} {fz : Bool} {m : M1} {p : M2} (hd : 2 ≤ d) (s n : Nat) (hP : PI p) (hm : m 262 s = nF n) (hn0 : 1 ≤ n) (hn : n ≤ 8) (hs12 : s ≤ 12) : Ct d k_X10_goes S fz [.ref (261), .int (iI (((s : Nat) : Int))), .int (iI (0))] m p (fun v m' p' => v = none ∧ p = p' ∧ Fr (fun a_ => a_ = 272 ∨ a_ = 273) m m' ∧ ∀ i, i < n → m' 272 i = dot n (fun w => m 263 (64 * s + 8 * i + w)) (m 272)) := by
  obtain ⟨d, rfl⟩ : ∃ e, d = e + 1 := ⟨d - 1, by omega⟩
  refine ct_go (lv := [some (.ref (261)), some (.int (iI (((s : Nat) : Int)))), some (.int (iI (0))), none, none, none, none]) (Nat.le_of_ble_eq_true rfl) (okar_cons rfl (okar_cons rfl (okar_cons rfl okar_nil))) rfl (fun Qr hQ => ?_)
  refine rw_blk lk_X10_goes_0 ?_
  refine rw_of (fun rr hrr => q_aload_n rfl (q_getR (show SH 261 = (18, 0) from rfl) rfl (pt_261_1 hP) (q_iload_n rfl (q_iald (j := s) (show SH 262 = (1, 13) from rfl) rfl (by omega) (ki rfl hm (by omega)) (q_istore_n (Nat.le_of_ble_eq_true rfl) rfl (q_iconst (q_istore (Nat.le_of_ble_eq_true rfl) rfl hrr))))))) ?_
  have hL10 : ∀ i, i ≤ n → ∀ (m1 : M1) (x10_5 : Option Value) (x10_6 : Option Value), (Fr (fun a_ => a_ = 273) m m1 ∧ ∀ z, z < i → m1 273 z = dot n (fun w => m 263 (64 * s + 8 * z + w)) (m 272)) → Rw (Ev d) k_X10_goes (10, [], [some (.ref (261)), some (.int (iI (((s : Nat) : Int)))), some (.int (iI (0))), some (.int (iI (((n : Nat) : Int)))), some (.int (iI (((i : Nat) : Int)))), x10_5, x10_6], [], hpM S fz (m1, p), 0, 0) Qr := by
    refine loop_any (fun i hi10 ih10 => ?_)
    intro m1 x10_5 x10_6
    intro hI10
    obtain ⟨hF, hv⟩ := hI10
    refine rw_blk lk_X10_goes_10 ?_
    refine rw_of (fun rr hrr => q_iload rfl (q_iload_n rfl hrr)) ?_
    refine rw_icmp_ge ⟨by omega, by omega⟩ ⟨by omega, by omega⟩ (t := 103) rfl (fun hc1 => ?_) (fun hc1 => ?_)
    · skip
      refine rw_blk lk_X10_goes_103 ?_
      refine rw_of (fun rr hrr => q_iconst (q_istore (Nat.le_of_ble_eq_true rfl) rfl hrr)) ?_
      have hL106 : ∀ k, k ≤ n → ∀ (m2 : M1), (Fr (fun a_ => a_ = 272) m1 m2 ∧ ∀ j, m2 272 j = if j < k then m1 273 j else m1 272 j) → Rw (Ev d) k_X10_goes (106, [], [some (.ref (261)), some (.int (iI (((s : Nat) : Int)))), some (.int (iI (0))), some (.int (iI (((n : Nat) : Int)))), some (.int (iI (((k : Nat) : Int)))), x10_5, x10_6], [], hpM S fz (m2, p), 0, 0) Qr := by
        refine loop_any (fun k hi106 ih106 => ?_)
        intro m2
        intro hI106
        obtain ⟨hF106, hv106⟩ := hI106
        refine rw_blk lk_X10_goes_106 ?_
        refine rw_of (fun rr hrr => q_iload rfl (q_iload_n rfl hrr)) ?_
        refine rw_icmp_ge ⟨by omega, by omega⟩ ⟨by omega, by omega⟩ (t := 132) rfl (fun hc2 => ?_) (fun hc2 => ?_)
        · skip
          refine rw_blk lk_X10_goes_132 ?_
          refine rw_ret hQ (q_return) ?_
          
          have e9 : n = k := (by omega)
          subst e9
          refine ⟨rfl, rfl, Fr_trans (Fr_mono hF (fun a ha => by omega)) (Fr_mono hF106 (fun a ha => by omega)), fun z hz => ?_⟩
          rw [hv106 z, if_pos hz, hv z (by omega)]
          
        · skip
          refine rw_of (fun rr hrr => q_aload_n rfl (q_getR (show SH 261 = (18, 0) from rfl) rfl (pt_261_13 hP) (q_iload rfl (q_aload_n rfl (q_getR (show SH 261 = (18, 0) from rfl) rfl (pt_261_14 hP) (q_iload rfl (q_iald (j := k) (show SH 273 = (1, 8) from rfl) rfl (by omega) rfl (q_iast (j := k) (xx := m2 273 k) (show SH 272 = (1, 8) from rfl) rfl (by omega) rfl hrr)))))))) ?_
          generalize hm4 : w1 m2 272 k (m2 273 k) = mm3
          refine rw_of (fun rr hrr => q_iinc rfl rfl (q_goto (t := 106) rfl hrr)) ?_
          exact rw_cast (ih106 (by omega) mm3 (by exact ⟨fr_w hm4 hF106 rfl, fill_w hm4 hv106 (by rw [hF106 273 (by omega)])⟩)) (lcons rfl (lcons rfl (lcons rfl (lcons rfl (lcons (lvI (by omega)) (lcons rfl (lcons rfl rfl))))))) rfl
      exact rw_cast (hL106 0 (by omega) m1 (by exact ⟨Fr_rfl, fun j => (if_neg (Nat.not_lt_zero j)).symm⟩)) (lcons rfl (lcons rfl (lcons rfl (lcons rfl (lcons (lvI (by omega)) (lcons rfl (lcons rfl rfl))))))) rfl
    · skip
      refine rw_of (fun rr hrr => q_iconst (q_istore (Nat.le_of_ble_eq_true rfl) rfl (q_iconst (q_istore (Nat.le_of_ble_eq_true rfl) rfl hrr)))) ?_
      have hL22 : ∀ j, j ≤ n → Rw (Ev d) k_X10_goes (22, [], [some (.ref (261)), some (.int (iI (((s : Nat) : Int)))), some (.int (iI (0))), some (.int (iI (((n : Nat) : Int)))), some (.int (iI (((i : Nat) : Int)))), some (.int (iI (sI j (fun z => m1 263 (64 * s + 8 * i + z) * m1 272 z)))), some (.int (iI (((j : Nat) : Int))))], [], hpM S fz (m1, p), 0, 0) Qr := by
        refine loop_any (fun j hi22 ih22 => ?_)
        refine rw_blk lk_X10_goes_22 ?_
        refine rw_of (fun rr hrr => q_iload rfl (q_iload_n rfl hrr)) ?_
        refine rw_icmp_ge ⟨by omega, by omega⟩ ⟨by omega, by omega⟩ (t := 84) rfl (fun hc5 => ?_) (fun hc5 => ?_)
        · skip
          refine rw_blk lk_X10_goes_84 ?_
          refine rw_of (fun rr hrr => q_aload_n rfl (q_getR (show SH 261 = (18, 0) from rfl) rfl (pt_261_14 hP) (q_iload rfl (q_iload rfl (q_sipush rfl (q_irem (sI_rg (by omega)) ⟨by omega, by omega⟩ (by omega) (by rw [show n = j by omega]; exact sI_rem _ _) (q_iast (j := i) (xx := sm n (fun z => m1 263 (64 * s + 8 * i + z) * m1 272 z)) (show SH 273 = (1, 8) from rfl) rfl (by omega) rfl hrr))))))) ?_
          generalize hm7 : w1 m1 273 i (sm n (fun z => m1 263 (64 * s + 8 * i + z) * m1 272 z)) = mm6
          refine rw_of (fun rr hrr => q_iinc rfl rfl (q_goto (t := 10) rfl hrr)) ?_
          have hA8 : Fr (fun a_ => a_ = 273) m mm6 ∧ ∀ z, z < (i + 1) → mm6 273 z = dot n (fun w => m 263 (64 * s + 8 * z + w)) (m 272) := by
            refine ⟨fr_w hm7 hF rfl, fun z hz => ?_⟩
            rw [← hm7]
            by_cases q : z = i
            · rw [q, w1_at, hF 272 (by omega), hF 263 (by omega)]
              rfl
            · rw [w1_ne (fun w => q w.2)]
              exact hv z (by omega)
          exact rw_cast (ih10 (by omega) mm6 (some (.int (iI (sI j (fun z => m1 263 (64 * s + 8 * i + z) * m1 272 z))))) (some (.int (iI (((j : Nat) : Int))))) hA8) (lcons rfl (lcons rfl (lcons rfl (lcons rfl (lcons (lvI (by omega)) (lcons rfl (lcons rfl rfl))))))) rfl
        · skip
          refine rw_of (fun rr hrr => q_iload rfl (q_iload_n rfl hrr)) ?_
          refine rw_if_eq ⟨by omega, by omega⟩ (t := 56) rfl (fun hc9 => ?_) (fun hc9 => ?_)
          · skip
            refine rw_blk lk_X10_goes_56 ?_
            refine rw_of (fun rr hrr => q_aload_n rfl (q_iload_n rfl (q_iload rfl (q_iload rfl hrr)))) ?_
            obtain ⟨_, mm10, pp11, hV12, rfl, rfl, rfl⟩ := c_X10_square (S := S) (fz := fz) (m := m1) (p := p) (d := d) (by omega) (s) (i) (j) hP (by omega) (by omega) (by omega)
            refine rw_of (fun rr hrr => q_invV hV12 (show SH 261 = (18, 0) from rfl) rfl rfl (okar_cons rfl (okar_cons rfl (okar_cons rfl okar_nil))) (Nat.le_of_ble_eq_true rfl) (q_aload_n rfl (q_getR (show SH 261 = (18, 0) from rfl) rfl (pt_261_13 hP) (q_iload rfl (q_iald (j := j) (show SH 272 = (1, 8) from rfl) rfl (by omega) rfl hrr))))) ?_
            obtain ⟨_, mm13, pp14, hV15, rfl, rfl, rfl⟩ := c_X10_times (S := S) (fz := fz) (m := m1) (p := p) (d := d) (by omega) (m1 263 (64 * s + 8 * i + j)) (m1 272 j)
            refine rw_of (fun rr hrr => q_invS hV15 rfl rfl (okar_cons rfl (okar_cons rfl okar_nil)) (Nat.le_of_ble_eq_true rfl) hrr) ?_
            refine rw_blk lk_X10_goes_75 ?_
            refine rw_of (fun rr hrr => q_iadd (q_istore (Nat.le_of_ble_eq_true rfl) rfl (q_iinc rfl rfl (q_goto (t := 22) rfl hrr)))) ?_
            exact rw_cast (ih22 (by omega)) (lcons rfl (lcons rfl (lcons rfl (lcons rfl (lcons rfl (lcons (lvI (by rfl)) (lcons (lvI (by omega)) rfl))))))) rfl
          · exfalso; omega
      exact rw_cast (hL22 0 (by omega)) (lcons rfl (lcons rfl (lcons rfl (lcons rfl (lcons rfl (lcons (lvI (by rfl)) (lcons (lvI (by omega)) rfl))))))) rfl
  exact rw_cast (hL10 0 (by omega) m none none (by exact ⟨Fr_rfl, fun z hz => absurd hz (Nat.not_lt_zero z)⟩)) (lcons rfl (lcons rfl (lcons rfl (lcons rfl (lcons (lvI (by omega)) (lcons rfl (lcons rfl rfl))))))) rfl
theorem c_X10_goes1 {d : Nat} {S : MC} {fz : Bool} {m : M1} {p : M2} (hd : 2 ≤ d) (s n : Nat) (hP : PI p) (hm : m 262 s = nF n) (hn0 : 1 ≤ n) (hn : n ≤ 8) (hs12 : s ≤ 12) : Ct d k_X10_goes S fz [.ref (261), .int (iI (((s : Nat) : Int))), .int (iI (1))] m p (fun v m' p' => v = none ∧ p = p' ∧ Fr (fun a_ => a_ = 272 ∨ a_ = 273) m m' ∧ ∀ i, i < n → m' 272 i = dot n (m 272) (fun w => m 263 (64 * s + 8 * w + i))) := by
  obtain ⟨d, rfl⟩ : ∃ e, d = e + 1 := ⟨d - 1, by omega⟩
  refine ct_go (lv := [some (.ref (261)), some (.int (iI (((s : Nat) : Int)))), some (.int (iI (1))), none, none, none, none]) (Nat.le_of_ble_eq_true rfl) (okar_cons rfl (okar_cons rfl (okar_cons rfl okar_nil))) rfl (fun Qr hQ => ?_)
  refine rw_blk lk_X10_goes_0 ?_
  refine rw_of (fun rr hrr => q_aload_n rfl (q_getR (show SH 261 = (18, 0) from rfl) rfl (pt_261_1 hP) (q_iload_n rfl (q_iald (j := s) (show SH 262 = (1, 13) from rfl) rfl (by omega) (ki rfl hm (by omega)) (q_istore_n (Nat.le_of_ble_eq_true rfl) rfl (q_iconst (q_istore (Nat.le_of_ble_eq_true rfl) rfl hrr))))))) ?_
  have hL10 : ∀ i, i ≤ n → ∀ (m1 : M1) (x10_5 : Option Value) (x10_6 : Option Value), (Fr (fun a_ => a_ = 273) m m1 ∧ ∀ z, z < i → m1 273 z = dot n (m 272) (fun w => m 263 (64 * s + 8 * w + z))) → Rw (Ev d) k_X10_goes (10, [], [some (.ref (261)), some (.int (iI (((s : Nat) : Int)))), some (.int (iI (1))), some (.int (iI (((n : Nat) : Int)))), some (.int (iI (((i : Nat) : Int)))), x10_5, x10_6], [], hpM S fz (m1, p), 0, 0) Qr := by
    refine loop_any (fun i hi10 ih10 => ?_)
    intro m1 x10_5 x10_6
    intro hI10
    obtain ⟨hF, hv⟩ := hI10
    refine rw_blk lk_X10_goes_10 ?_
    refine rw_of (fun rr hrr => q_iload rfl (q_iload_n rfl hrr)) ?_
    refine rw_icmp_ge ⟨by omega, by omega⟩ ⟨by omega, by omega⟩ (t := 103) rfl (fun hc1 => ?_) (fun hc1 => ?_)
    · skip
      refine rw_blk lk_X10_goes_103 ?_
      refine rw_of (fun rr hrr => q_iconst (q_istore (Nat.le_of_ble_eq_true rfl) rfl hrr)) ?_
      have hL106 : ∀ k, k ≤ n → ∀ (m2 : M1), (Fr (fun a_ => a_ = 272) m1 m2 ∧ ∀ j, m2 272 j = if j < k then m1 273 j else m1 272 j) → Rw (Ev d) k_X10_goes (106, [], [some (.ref (261)), some (.int (iI (((s : Nat) : Int)))), some (.int (iI (1))), some (.int (iI (((n : Nat) : Int)))), some (.int (iI (((k : Nat) : Int)))), x10_5, x10_6], [], hpM S fz (m2, p), 0, 0) Qr := by
        refine loop_any (fun k hi106 ih106 => ?_)
        intro m2
        intro hI106
        obtain ⟨hF106, hv106⟩ := hI106
        refine rw_blk lk_X10_goes_106 ?_
        refine rw_of (fun rr hrr => q_iload rfl (q_iload_n rfl hrr)) ?_
        refine rw_icmp_ge ⟨by omega, by omega⟩ ⟨by omega, by omega⟩ (t := 132) rfl (fun hc2 => ?_) (fun hc2 => ?_)
        · skip
          refine rw_blk lk_X10_goes_132 ?_
          refine rw_ret hQ (q_return) ?_
          
          have e9 : n = k := (by omega)
          subst e9
          refine ⟨rfl, rfl, Fr_trans (Fr_mono hF (fun a ha => by omega)) (Fr_mono hF106 (fun a ha => by omega)), fun z hz => ?_⟩
          rw [hv106 z, if_pos hz, hv z (by omega)]
          
        · skip
          refine rw_of (fun rr hrr => q_aload_n rfl (q_getR (show SH 261 = (18, 0) from rfl) rfl (pt_261_13 hP) (q_iload rfl (q_aload_n rfl (q_getR (show SH 261 = (18, 0) from rfl) rfl (pt_261_14 hP) (q_iload rfl (q_iald (j := k) (show SH 273 = (1, 8) from rfl) rfl (by omega) rfl (q_iast (j := k) (xx := m2 273 k) (show SH 272 = (1, 8) from rfl) rfl (by omega) rfl hrr)))))))) ?_
          generalize hm4 : w1 m2 272 k (m2 273 k) = mm3
          refine rw_of (fun rr hrr => q_iinc rfl rfl (q_goto (t := 106) rfl hrr)) ?_
          exact rw_cast (ih106 (by omega) mm3 (by exact ⟨fr_w hm4 hF106 rfl, fill_w hm4 hv106 (by rw [hF106 273 (by omega)])⟩)) (lcons rfl (lcons rfl (lcons rfl (lcons rfl (lcons (lvI (by omega)) (lcons rfl (lcons rfl rfl))))))) rfl
      exact rw_cast (hL106 0 (by omega) m1 (by exact ⟨Fr_rfl, fun j => (if_neg (Nat.not_lt_zero j)).symm⟩)) (lcons rfl (lcons rfl (lcons rfl (lcons rfl (lcons (lvI (by omega)) (lcons rfl (lcons rfl rfl))))))) rfl
    · skip
      refine rw_of (fun rr hrr => q_iconst (q_istore (Nat.le_of_ble_eq_true rfl) rfl (q_iconst (q_istore (Nat.le_of_ble_eq_true rfl) rfl hrr)))) ?_
      have hL22 : ∀ j, j ≤ n → Rw (Ev d) k_X10_goes (22, [], [some (.ref (261)), some (.int (iI (((s : Nat) : Int)))), some (.int (iI (1))), some (.int (iI (((n : Nat) : Int)))), some (.int (iI (((i : Nat) : Int)))), some (.int (iI (sI j (fun z => m1 272 z * m1 263 (64 * s + 8 * z + i))))), some (.int (iI (((j : Nat) : Int))))], [], hpM S fz (m1, p), 0, 0) Qr := by
        refine loop_any (fun j hi22 ih22 => ?_)
        refine rw_blk lk_X10_goes_22 ?_
        refine rw_of (fun rr hrr => q_iload rfl (q_iload_n rfl hrr)) ?_
        refine rw_icmp_ge ⟨by omega, by omega⟩ ⟨by omega, by omega⟩ (t := 84) rfl (fun hc5 => ?_) (fun hc5 => ?_)
        · skip
          refine rw_blk lk_X10_goes_84 ?_
          refine rw_of (fun rr hrr => q_aload_n rfl (q_getR (show SH 261 = (18, 0) from rfl) rfl (pt_261_14 hP) (q_iload rfl (q_iload rfl (q_sipush rfl (q_irem (sI_rg (by omega)) ⟨by omega, by omega⟩ (by omega) (by rw [show n = j by omega]; exact sI_rem _ _) (q_iast (j := i) (xx := sm n (fun z => m1 272 z * m1 263 (64 * s + 8 * z + i))) (show SH 273 = (1, 8) from rfl) rfl (by omega) rfl hrr))))))) ?_
          generalize hm7 : w1 m1 273 i (sm n (fun z => m1 272 z * m1 263 (64 * s + 8 * z + i))) = mm6
          refine rw_of (fun rr hrr => q_iinc rfl rfl (q_goto (t := 10) rfl hrr)) ?_
          have hA8 : Fr (fun a_ => a_ = 273) m mm6 ∧ ∀ z, z < (i + 1) → mm6 273 z = dot n (m 272) (fun w => m 263 (64 * s + 8 * w + z)) := by
            refine ⟨fr_w hm7 hF rfl, fun z hz => ?_⟩
            rw [← hm7]
            by_cases q : z = i
            · rw [q, w1_at, hF 272 (by omega), hF 263 (by omega)]
              rfl
            · rw [w1_ne (fun w => q w.2)]
              exact hv z (by omega)
          exact rw_cast (ih10 (by omega) mm6 (some (.int (iI (sI j (fun z => m1 272 z * m1 263 (64 * s + 8 * z + i)))))) (some (.int (iI (((j : Nat) : Int))))) hA8) (lcons rfl (lcons rfl (lcons rfl (lcons rfl (lcons (lvI (by omega)) (lcons rfl (lcons rfl rfl))))))) rfl
        · skip
          refine rw_of (fun rr hrr => q_iload rfl (q_iload_n rfl hrr)) ?_
          refine rw_if_eq ⟨by omega, by omega⟩ (t := 56) rfl (fun hc9 => ?_) (fun hc9 => ?_)
          · exfalso; omega
          · skip
            refine rw_of (fun rr hrr => q_aload_n rfl (q_getR (show SH 261 = (18, 0) from rfl) rfl (pt_261_13 hP) (q_iload rfl (q_iald (j := j) (show SH 272 = (1, 8) from rfl) rfl (by omega) rfl (q_aload_n rfl (q_iload_n rfl (q_iload rfl (q_iload rfl hrr)))))))) ?_
            obtain ⟨_, mm10, pp11, hV12, rfl, rfl, rfl⟩ := c_X10_square (S := S) (fz := fz) (m := m1) (p := p) (d := d) (by omega) (s) (j) (i) hP (by omega) (by omega) (by omega)
            refine rw_of (fun rr hrr => q_invV hV12 (show SH 261 = (18, 0) from rfl) rfl rfl (okar_cons rfl (okar_cons rfl (okar_cons rfl okar_nil))) (Nat.le_of_ble_eq_true rfl) hrr) ?_
            obtain ⟨_, mm13, pp14, hV15, rfl, rfl, rfl⟩ := c_X10_times (S := S) (fz := fz) (m := m1) (p := p) (d := d) (by omega) (m1 272 j) (m1 263 (64 * s + 8 * j + i))
            refine rw_of (fun rr hrr => q_invS hV15 rfl rfl (okar_cons rfl (okar_cons rfl okar_nil)) (Nat.le_of_ble_eq_true rfl) (q_goto (t := 75) rfl hrr)) ?_
            refine rw_blk lk_X10_goes_75 ?_
            refine rw_of (fun rr hrr => q_iadd (q_istore (Nat.le_of_ble_eq_true rfl) rfl (q_iinc rfl rfl (q_goto (t := 22) rfl hrr)))) ?_
            exact rw_cast (ih22 (by omega)) (lcons rfl (lcons rfl (lcons rfl (lcons rfl (lcons rfl (lcons (lvI (by rfl)) (lcons (lvI (by omega)) rfl))))))) rfl
      exact rw_cast (hL22 0 (by omega)) (lcons rfl (lcons rfl (lcons rfl (lcons rfl (lcons rfl (lcons (lvI (by rfl)) (lcons (lvI (by omega)) rfl))))))) rfl
  exact rw_cast (hL10 0 (by omega) m none none (by exact ⟨Fr_rfl, fun z hz => absurd hz (Nat.not_lt_zero z)⟩)) (lcons rfl (lcons rfl (lcons rfl (lcons rfl (lcons (lvI (by omega)) (lcons rfl (lcons rfl rfl))))))) rfl
theorem c_X10_powers0 {d : Nat} {S : MC} {fz : Bool} {m : M1} {p : M2} (hd : 3 ≤ d) (s n : Nat) (hP : PI p) (hm : m 262 s = nF n) (hn0 : 1 ≤ n) (hn : n ≤ 8) (hs12 : s ≤ 12) : Ct d k_X10_powers S fz [.ref (261), .int (iI (((s : Nat) : Int))), .int (iI (0))] m p (fun v m' p' => v = none ∧ p = p' ∧ Fr (fun a_ => 271 ≤ a_ ∧ a_ < 274) m m' ∧ ∀ k, k < n → ∀ i, i < n → m' 271 (8 * k + i) = (kr n (fun z w => m 263 (64 * s + 8 * z + w)) (fun z => m 264 (8 * s + z))) k i) := by
  obtain ⟨d, rfl⟩ : ∃ e, d = e + 1 := ⟨d - 1, by omega⟩
  refine ct_go (lv := [some (.ref (261)), some (.int (iI (((s : Nat) : Int)))), some (.int (iI (0))), none, none, none]) (Nat.le_of_ble_eq_true rfl) (okar_cons rfl (okar_cons rfl (okar_cons rfl okar_nil))) rfl (fun Qr hQ => ?_)
  refine rw_blk lk_X10_powers_0 ?_
  refine rw_of (fun rr hrr => q_aload_n rfl (q_getR (show SH 261 = (18, 0) from rfl) rfl (pt_261_1 hP) (q_iload_n rfl (q_iald (j := s) (show SH 262 = (1, 13) from rfl) rfl (by omega) (ki rfl hm (by omega)) (q_istore_n (Nat.le_of_ble_eq_true rfl) rfl (q_iconst (q_istore (Nat.le_of_ble_eq_true rfl) rfl hrr))))))) ?_
  have hL10 : ∀ i, i ≤ n → ∀ (m1 : M1), (Fr (fun a_ => a_ = 272) m m1 ∧ ∀ j, m1 272 j = if j < i then m 264 (8 * s + j) else m 272 j) → Rw (Ev d) k_X10_powers (10, [], [some (.ref (261)), some (.int (iI (((s : Nat) : Int)))), some (.int (iI (0))), some (.int (iI (((n : Nat) : Int)))), some (.int (iI (((i : Nat) : Int)))), none], [], hpM S fz (m1, p), 0, 0) Qr := by
    refine loop_any (fun i hi10 ih10 => ?_)
    intro m1
    intro hI10
    obtain ⟨hF10, hv10⟩ := hI10
    refine rw_blk lk_X10_powers_10 ?_
    refine rw_of (fun rr hrr => q_iload rfl (q_iload_n rfl hrr)) ?_
    refine rw_icmp_ge ⟨by omega, by omega⟩ ⟨by omega, by omega⟩ (t := 60) rfl (fun hc1 => ?_) (fun hc1 => ?_)
    · skip
      refine rw_blk lk_X10_powers_60 ?_
      refine rw_of (fun rr hrr => q_iconst (q_istore (Nat.le_of_ble_eq_true rfl) rfl hrr)) ?_
      have hL63 : ∀ k, k ≤ n → ∀ (m2 : M1) (x63_5 : Option Value), (Fr (fun a_ => 271 ≤ a_ ∧ a_ < 274) m m2 ∧ (∀ z, z < n → m2 272 z = (kr n (fun z w => m 263 (64 * s + 8 * z + w)) (fun z => m 264 (8 * s + z))) k z) ∧ ∀ w, w < k → ∀ z, z < n → m2 271 (8 * w + z) = (kr n (fun z w => m 263 (64 * s + 8 * z + w)) (fun z => m 264 (8 * s + z))) w z) → Rw (Ev d) k_X10_powers (63, [], [some (.ref (261)), some (.int (iI (((s : Nat) : Int)))), some (.int (iI (0))), some (.int (iI (((n : Nat) : Int)))), some (.int (iI (((k : Nat) : Int)))), x63_5], [], hpM S fz (m2, p), 0, 0) Qr := by
        refine loop_any (fun k hi63 ih63 => ?_)
        intro m2 x63_5
        intro hI63
        obtain ⟨hF, hV, hK⟩ := hI63
        refine rw_blk lk_X10_powers_63 ?_
        refine rw_of (fun rr hrr => q_iload rfl (q_iload_n rfl hrr)) ?_
        refine rw_icmp_ge ⟨by omega, by omega⟩ ⟨by omega, by omega⟩ (t := 116) rfl (fun hc2 => ?_) (fun hc2 => ?_)
        · skip
          refine rw_blk lk_X10_powers_116 ?_
          refine rw_ret hQ (q_return) ?_
          have e9 : n = k := (by omega)
          subst e9
          exact ⟨rfl, rfl, hF, fun k hk i hi => hK k hk i hi⟩
          
        · skip
          refine rw_of (fun rr hrr => q_iconst (q_istore (Nat.le_of_ble_eq_true rfl) rfl hrr)) ?_
          have hL72 : ∀ j, j ≤ n → ∀ (m3 : M1), (Fr (fun a_ => a_ = 271) m2 m3 ∧ ∀ x, m3 271 x = if 8 * k ≤ x ∧ x < 8 * k + j then m2 272 (x - 8 * k) else m2 271 x) → Rw (Ev d) k_X10_powers (72, [], [some (.ref (261)), some (.int (iI (((s : Nat) : Int)))), some (.int (iI (0))), some (.int (iI (((n : Nat) : Int)))), some (.int (iI (((k : Nat) : Int)))), some (.int (iI (((j : Nat) : Int))))], [], hpM S fz (m3, p), 0, 0) Qr := by
            refine loop_any (fun j hi72 ih72 => ?_)
            intro m3
            intro hI72
            obtain ⟨hF72, hv72⟩ := hI72
            refine rw_blk lk_X10_powers_72 ?_
            refine rw_of (fun rr hrr => q_iload rfl (q_iload_n rfl hrr)) ?_
            refine rw_icmp_ge ⟨by omega, by omega⟩ ⟨by omega, by omega⟩ (t := 104) rfl (fun hc3 => ?_) (fun hc3 => ?_)
            · skip
              refine rw_blk lk_X10_powers_104 ?_
              refine rw_of (fun rr hrr => q_aload_n rfl (q_iload_n rfl (q_iload_n rfl hrr))) ?_
              obtain ⟨_, mm4, pp5, hV6, rfl, rfl, hF6, hv6⟩ := c_X10_goes0 (S := S) (fz := fz) (m := m3) (p := p) (d := d) (by omega) (s) (n) hP ((congrFun ((hF72 262 (by show ¬ (262 = 271); omega)).trans (hF 262 (by show ¬ (271 ≤ 262 ∧ 262 < 274); omega))) s).trans hm) (by omega) (by omega) (by omega)
              refine rw_of (fun rr hrr => q_invV hV6 (show SH 261 = (18, 0) from rfl) rfl rfl (okar_cons rfl (okar_cons rfl okar_nil)) (Nat.le_of_ble_eq_true rfl) (q_iinc rfl rfl (q_goto (t := 63) rfl hrr))) ?_
              have hA7 : Fr (fun a_ => 271 ≤ a_ ∧ a_ < 274) m mm4 ∧ (∀ z, z < n → mm4 272 z = (kr n (fun z w => m 263 (64 * s + 8 * z + w)) (fun z => m 264 (8 * s + z))) (k + 1) z) ∧ ∀ w, w < (k + 1) → ∀ z, z < n → mm4 271 (8 * w + z) = (kr n (fun z w => m 263 (64 * s + 8 * z + w)) (fun z => m 264 (8 * s + z))) w z := by
                refine ⟨Fr_trans hF (Fr_trans (Fr_mono hF72 (fun a ha => by omega)) (Fr_mono hF6 (fun a ha => by omega))), fun z hz => ?_, fun w hw z hz => ?_⟩
                · rw [hv6 z hz, hF72 263 (by omega), hF72 272 (by omega), hF 263 (by omega)]
                  exact dot_congr (fun _ _ => rfl) (fun c hc => hV c hc)
                · rw [hF6 271 (by omega), hv72]
                  by_cases q : w = k
                  · rw [q, if_pos (by omega), show 8 * k + z - 8 * k = z by omega]
                    exact hV z hz
                  · rw [if_neg (by omega)]
                    exact hK w (by omega) z hz
              exact rw_cast (ih63 (by omega) mm4 (some (.int (iI (((j : Nat) : Int))))) hA7) (lcons rfl (lcons rfl (lcons rfl (lcons rfl (lcons (lvI (by omega)) (lcons rfl rfl)))))) rfl
            · skip
              refine rw_of (fun rr hrr => q_aload_n rfl (q_getR (show SH 261 = (18, 0) from rfl) rfl (pt_261_12 hP) (q_bipush rfl (q_iload rfl (q_imul (q_iload rfl (q_iadd (q_aload_n rfl (q_getR (show SH 261 = (18, 0) from rfl) rfl (pt_261_13 hP) (q_iload rfl (q_iald (j := j) (show SH 272 = (1, 8) from rfl) rfl (by omega) rfl (q_iast (j := 8 * k + j) (xx := m3 272 j) (show SH 271 = (1, 64) from rfl) (by omega) (by omega) rfl hrr)))))))))))) ?_
              generalize hm9 : w1 m3 271 (8 * k + j) (m3 272 j) = mm8
              refine rw_of (fun rr hrr => q_iinc rfl rfl (q_goto (t := 72) rfl hrr)) ?_
              exact rw_cast (ih72 (by omega) mm8 (by exact ⟨fr_w hm9 hF72 rfl, filld_w (P' := fun x => 8 * k ≤ x ∧ x < 8 * k + (j + 1)) (f := fun x => m2 272 (x - 8 * k)) hm9 hv72 (by show _ = m2 272 (8 * k + j - 8 * k); rw [hF72 272 (by omega), show 8 * k + j - 8 * k = j by omega]) (fun x => by omega)⟩)) (lcons rfl (lcons rfl (lcons rfl (lcons rfl (lcons rfl (lcons (lvI (by omega)) rfl)))))) rfl
          exact rw_cast (hL72 0 (by omega) m2 (by exact ⟨Fr_rfl, fun x => (if_neg (by omega)).symm⟩)) (lcons rfl (lcons rfl (lcons rfl (lcons rfl (lcons rfl (lcons (lvI (by omega)) rfl)))))) rfl
      have hA10 : Fr (fun a_ => 271 ≤ a_ ∧ a_ < 274) m m1 ∧ (∀ z, z < n → m1 272 z = (kr n (fun z w => m 263 (64 * s + 8 * z + w)) (fun z => m 264 (8 * s + z))) 0 z) ∧ ∀ w, w < 0 → ∀ z, z < n → m1 271 (8 * w + z) = (kr n (fun z w => m 263 (64 * s + 8 * z + w)) (fun z => m 264 (8 * s + z))) w z := by
        have e9 : n = i := (by omega)
        subst e9
        refine ⟨Fr_mono hF10 (fun a ha => by omega), fun z hz => ?_, fun w hw => absurd hw (Nat.not_lt_zero w)⟩
        rw [hv10 z, if_pos hz]
        rfl
      exact rw_cast (hL63 0 (by omega) m1 none hA10) (lcons rfl (lcons rfl (lcons rfl (lcons rfl (lcons (lvI (by omega)) (lcons rfl rfl)))))) rfl
    · skip
      refine rw_of (fun rr hrr => q_aload_n rfl (q_getR (show SH 261 = (18, 0) from rfl) rfl (pt_261_13 hP) (q_iload rfl (q_iload_n rfl hrr)))) ?_
      refine rw_if_eq ⟨by omega, by omega⟩ (t := 41) rfl (fun hc11 => ?_) (fun hc11 => ?_)
      · skip
        refine rw_blk lk_X10_powers_41 ?_
        refine rw_of (fun rr hrr => q_aload_n rfl (q_getR (show SH 261 = (18, 0) from rfl) rfl (pt_261_3 hP) (q_bipush rfl (q_iload_n rfl (q_imul (q_iload rfl (q_iadd (q_iald (j := 8 * s + i) (show SH 264 = (1, 104) from rfl) (by omega) (by omega) rfl hrr)))))))) ?_
        refine rw_blk lk_X10_powers_53 ?_
        refine rw_of (fun rr hrr => q_iast (j := i) (xx := m1 264 (8 * s + i)) (show SH 272 = (1, 8) from rfl) rfl (by omega) rfl hrr) ?_
        generalize hm13 : w1 m1 272 i (m1 264 (8 * s + i)) = mm12
        refine rw_of (fun rr hrr => q_iinc rfl rfl (q_goto (t := 10) rfl hrr)) ?_
        exact rw_cast (ih10 (by omega) mm12 (by exact ⟨fr_w hm13 hF10 rfl, fill_w hm13 hv10 (by rw [hF10 264 (by omega)])⟩)) (lcons rfl (lcons rfl (lcons rfl (lcons rfl (lcons (lvI (by omega)) (lcons rfl rfl)))))) rfl
      · exfalso; omega
  exact rw_cast (hL10 0 (by omega) m (by exact ⟨Fr_rfl, fun j => (if_neg (Nat.not_lt_zero j)).symm⟩)) (lcons rfl (lcons rfl (lcons rfl (lcons rfl (lcons (lvI (by omega)) (lcons rfl rfl)))))) rfl
theorem c_X10_powers1 {d : Nat} {S : MC} {fz : Bool} {m : M1} {p : M2} (hd : 3 ≤ d) (s n : Nat) (hP : PI p) (hm : m 262 s = nF n) (hn0 : 1 ≤ n) (hn : n ≤ 8) (hs12 : s ≤ 12) : Ct d k_X10_powers S fz [.ref (261), .int (iI (((s : Nat) : Int))), .int (iI (1))] m p (fun v m' p' => v = none ∧ p = p' ∧ Fr (fun a_ => 271 ≤ a_ ∧ a_ < 274) m m' ∧ ∀ k, k < n → ∀ i, i < n → m' 271 (8 * k + i) = (kr n (fun z w => m 263 (64 * s + 8 * w + z)) (fun z => m 265 (8 * s + z))) k i) := by
  obtain ⟨d, rfl⟩ : ∃ e, d = e + 1 := ⟨d - 1, by omega⟩
  refine ct_go (lv := [some (.ref (261)), some (.int (iI (((s : Nat) : Int)))), some (.int (iI (1))), none, none, none]) (Nat.le_of_ble_eq_true rfl) (okar_cons rfl (okar_cons rfl (okar_cons rfl okar_nil))) rfl (fun Qr hQ => ?_)
  refine rw_blk lk_X10_powers_0 ?_
  refine rw_of (fun rr hrr => q_aload_n rfl (q_getR (show SH 261 = (18, 0) from rfl) rfl (pt_261_1 hP) (q_iload_n rfl (q_iald (j := s) (show SH 262 = (1, 13) from rfl) rfl (by omega) (ki rfl hm (by omega)) (q_istore_n (Nat.le_of_ble_eq_true rfl) rfl (q_iconst (q_istore (Nat.le_of_ble_eq_true rfl) rfl hrr))))))) ?_
  have hL10 : ∀ i, i ≤ n → ∀ (m1 : M1), (Fr (fun a_ => a_ = 272) m m1 ∧ ∀ j, m1 272 j = if j < i then m 265 (8 * s + j) else m 272 j) → Rw (Ev d) k_X10_powers (10, [], [some (.ref (261)), some (.int (iI (((s : Nat) : Int)))), some (.int (iI (1))), some (.int (iI (((n : Nat) : Int)))), some (.int (iI (((i : Nat) : Int)))), none], [], hpM S fz (m1, p), 0, 0) Qr := by
    refine loop_any (fun i hi10 ih10 => ?_)
    intro m1
    intro hI10
    obtain ⟨hF10, hv10⟩ := hI10
    refine rw_blk lk_X10_powers_10 ?_
    refine rw_of (fun rr hrr => q_iload rfl (q_iload_n rfl hrr)) ?_
    refine rw_icmp_ge ⟨by omega, by omega⟩ ⟨by omega, by omega⟩ (t := 60) rfl (fun hc1 => ?_) (fun hc1 => ?_)
    · skip
      refine rw_blk lk_X10_powers_60 ?_
      refine rw_of (fun rr hrr => q_iconst (q_istore (Nat.le_of_ble_eq_true rfl) rfl hrr)) ?_
      have hL63 : ∀ k, k ≤ n → ∀ (m2 : M1) (x63_5 : Option Value), (Fr (fun a_ => 271 ≤ a_ ∧ a_ < 274) m m2 ∧ (∀ z, z < n → m2 272 z = (kr n (fun z w => m 263 (64 * s + 8 * w + z)) (fun z => m 265 (8 * s + z))) k z) ∧ ∀ w, w < k → ∀ z, z < n → m2 271 (8 * w + z) = (kr n (fun z w => m 263 (64 * s + 8 * w + z)) (fun z => m 265 (8 * s + z))) w z) → Rw (Ev d) k_X10_powers (63, [], [some (.ref (261)), some (.int (iI (((s : Nat) : Int)))), some (.int (iI (1))), some (.int (iI (((n : Nat) : Int)))), some (.int (iI (((k : Nat) : Int)))), x63_5], [], hpM S fz (m2, p), 0, 0) Qr := by
        refine loop_any (fun k hi63 ih63 => ?_)
        intro m2 x63_5
        intro hI63
        obtain ⟨hF, hV, hK⟩ := hI63
        refine rw_blk lk_X10_powers_63 ?_
        refine rw_of (fun rr hrr => q_iload rfl (q_iload_n rfl hrr)) ?_
        refine rw_icmp_ge ⟨by omega, by omega⟩ ⟨by omega, by omega⟩ (t := 116) rfl (fun hc2 => ?_) (fun hc2 => ?_)
        · skip
          refine rw_blk lk_X10_powers_116 ?_
          refine rw_ret hQ (q_return) ?_
          have e9 : n = k := (by omega)
          subst e9
          exact ⟨rfl, rfl, hF, fun k hk i hi => hK k hk i hi⟩
          
        · skip
          refine rw_of (fun rr hrr => q_iconst (q_istore (Nat.le_of_ble_eq_true rfl) rfl hrr)) ?_
          have hL72 : ∀ j, j ≤ n → ∀ (m3 : M1), (Fr (fun a_ => a_ = 271) m2 m3 ∧ ∀ x, m3 271 x = if 8 * k ≤ x ∧ x < 8 * k + j then m2 272 (x - 8 * k) else m2 271 x) → Rw (Ev d) k_X10_powers (72, [], [some (.ref (261)), some (.int (iI (((s : Nat) : Int)))), some (.int (iI (1))), some (.int (iI (((n : Nat) : Int)))), some (.int (iI (((k : Nat) : Int)))), some (.int (iI (((j : Nat) : Int))))], [], hpM S fz (m3, p), 0, 0) Qr := by
            refine loop_any (fun j hi72 ih72 => ?_)
            intro m3
            intro hI72
            obtain ⟨hF72, hv72⟩ := hI72
            refine rw_blk lk_X10_powers_72 ?_
            refine rw_of (fun rr hrr => q_iload rfl (q_iload_n rfl hrr)) ?_
            refine rw_icmp_ge ⟨by omega, by omega⟩ ⟨by omega, by omega⟩ (t := 104) rfl (fun hc3 => ?_) (fun hc3 => ?_)
            · skip
              refine rw_blk lk_X10_powers_104 ?_
              refine rw_of (fun rr hrr => q_aload_n rfl (q_iload_n rfl (q_iload_n rfl hrr))) ?_
              obtain ⟨_, mm4, pp5, hV6, rfl, rfl, hF6, hv6⟩ := c_X10_goes1 (S := S) (fz := fz) (m := m3) (p := p) (d := d) (by omega) (s) (n) hP ((congrFun ((hF72 262 (by show ¬ (262 = 271); omega)).trans (hF 262 (by show ¬ (271 ≤ 262 ∧ 262 < 274); omega))) s).trans hm) (by omega) (by omega) (by omega)
              refine rw_of (fun rr hrr => q_invV hV6 (show SH 261 = (18, 0) from rfl) rfl rfl (okar_cons rfl (okar_cons rfl okar_nil)) (Nat.le_of_ble_eq_true rfl) (q_iinc rfl rfl (q_goto (t := 63) rfl hrr))) ?_
              have hA7 : Fr (fun a_ => 271 ≤ a_ ∧ a_ < 274) m mm4 ∧ (∀ z, z < n → mm4 272 z = (kr n (fun z w => m 263 (64 * s + 8 * w + z)) (fun z => m 265 (8 * s + z))) (k + 1) z) ∧ ∀ w, w < (k + 1) → ∀ z, z < n → mm4 271 (8 * w + z) = (kr n (fun z w => m 263 (64 * s + 8 * w + z)) (fun z => m 265 (8 * s + z))) w z := by
                refine ⟨Fr_trans hF (Fr_trans (Fr_mono hF72 (fun a ha => by omega)) (Fr_mono hF6 (fun a ha => by omega))), fun z hz => ?_, fun w hw z hz => ?_⟩
                · rw [hv6 z hz, hF72 263 (by omega), hF72 272 (by omega), hF 263 (by omega)]
                  exact (dot_comm _ _ _).trans (dot_congr (fun _ _ => rfl) (fun c hc => hV c hc))
                · rw [hF6 271 (by omega), hv72]
                  by_cases q : w = k
                  · rw [q, if_pos (by omega), show 8 * k + z - 8 * k = z by omega]
                    exact hV z hz
                  · rw [if_neg (by omega)]
                    exact hK w (by omega) z hz
              exact rw_cast (ih63 (by omega) mm4 (some (.int (iI (((j : Nat) : Int))))) hA7) (lcons rfl (lcons rfl (lcons rfl (lcons rfl (lcons (lvI (by omega)) (lcons rfl rfl)))))) rfl
            · skip
              refine rw_of (fun rr hrr => q_aload_n rfl (q_getR (show SH 261 = (18, 0) from rfl) rfl (pt_261_12 hP) (q_bipush rfl (q_iload rfl (q_imul (q_iload rfl (q_iadd (q_aload_n rfl (q_getR (show SH 261 = (18, 0) from rfl) rfl (pt_261_13 hP) (q_iload rfl (q_iald (j := j) (show SH 272 = (1, 8) from rfl) rfl (by omega) rfl (q_iast (j := 8 * k + j) (xx := m3 272 j) (show SH 271 = (1, 64) from rfl) (by omega) (by omega) rfl hrr)))))))))))) ?_
              generalize hm9 : w1 m3 271 (8 * k + j) (m3 272 j) = mm8
              refine rw_of (fun rr hrr => q_iinc rfl rfl (q_goto (t := 72) rfl hrr)) ?_
              exact rw_cast (ih72 (by omega) mm8 (by exact ⟨fr_w hm9 hF72 rfl, filld_w (P' := fun x => 8 * k ≤ x ∧ x < 8 * k + (j + 1)) (f := fun x => m2 272 (x - 8 * k)) hm9 hv72 (by show _ = m2 272 (8 * k + j - 8 * k); rw [hF72 272 (by omega), show 8 * k + j - 8 * k = j by omega]) (fun x => by omega)⟩)) (lcons rfl (lcons rfl (lcons rfl (lcons rfl (lcons rfl (lcons (lvI (by omega)) rfl)))))) rfl
          exact rw_cast (hL72 0 (by omega) m2 (by exact ⟨Fr_rfl, fun x => (if_neg (by omega)).symm⟩)) (lcons rfl (lcons rfl (lcons rfl (lcons rfl (lcons rfl (lcons (lvI (by omega)) rfl)))))) rfl
      have hA10 : Fr (fun a_ => 271 ≤ a_ ∧ a_ < 274) m m1 ∧ (∀ z, z < n → m1 272 z = (kr n (fun z w => m 263 (64 * s + 8 * w + z)) (fun z => m 265 (8 * s + z))) 0 z) ∧ ∀ w, w < 0 → ∀ z, z < n → m1 271 (8 * w + z) = (kr n (fun z w => m 263 (64 * s + 8 * w + z)) (fun z => m 265 (8 * s + z))) w z := by
        have e9 : n = i := (by omega)
        subst e9
        refine ⟨Fr_mono hF10 (fun a ha => by omega), fun z hz => ?_, fun w hw => absurd hw (Nat.not_lt_zero w)⟩
        rw [hv10 z, if_pos hz]
        rfl
      exact rw_cast (hL63 0 (by omega) m1 none hA10) (lcons rfl (lcons rfl (lcons rfl (lcons rfl (lcons (lvI (by omega)) (lcons rfl rfl)))))) rfl
    · skip
      refine rw_of (fun rr hrr => q_aload_n rfl (q_getR (show SH 261 = (18, 0) from rfl) rfl (pt_261_13 hP) (q_iload rfl (q_iload_n rfl hrr)))) ?_
      refine rw_if_eq ⟨by omega, by omega⟩ (t := 41) rfl (fun hc11 => ?_) (fun hc11 => ?_)
      · exfalso; omega
      · skip
        refine rw_of (fun rr hrr => q_aload_n rfl (q_getR (show SH 261 = (18, 0) from rfl) rfl (pt_261_4 hP) (q_bipush rfl (q_iload_n rfl (q_imul (q_iload rfl (q_iadd (q_iald (j := 8 * s + i) (show SH 265 = (1, 104) from rfl) (by omega) (by omega) rfl (q_goto (t := 53) rfl hrr))))))))) ?_
        refine rw_blk lk_X10_powers_53 ?_
        refine rw_of (fun rr hrr => q_iast (j := i) (xx := m1 265 (8 * s + i)) (show SH 272 = (1, 8) from rfl) rfl (by omega) rfl hrr) ?_
        generalize hm13 : w1 m1 272 i (m1 265 (8 * s + i)) = mm12
        refine rw_of (fun rr hrr => q_iinc rfl rfl (q_goto (t := 10) rfl hrr)) ?_
        exact rw_cast (ih10 (by omega) mm12 (by exact ⟨fr_w hm13 hF10 rfl, fill_w hm13 hv10 (by rw [hF10 265 (by omega)])⟩)) (lcons rfl (lcons rfl (lcons rfl (lcons rfl (lcons (lvI (by omega)) (lcons rfl rfl)))))) rfl
  exact rw_cast (hL10 0 (by omega) m (by exact ⟨Fr_rfl, fun j => (if_neg (Nat.not_lt_zero j)).symm⟩)) (lcons rfl (lcons rfl (lcons rfl (lcons rfl (lcons (lvI (by omega)) (lcons rfl rfl)))))) rfl
