/-! QUESTIONS of the model: what they leave, and which failure is told. -/
def QMx (w : Nat) (m m' : M1) : Prop := (∀ a, a ≠ 261 → a < 269 ∨ 280 ≤ a → m' a = m a) ∧ (∀ y, y ≠ 21 → m' 261 y = m 261 y) ∧ m' 261 21 = nF w
theorem QMx_w {w : Nat} {m m' : M1} {x : F} (h : w1 m 261 21 x = m') (hx : x = nF w) : QMx w m m' := by
  subst h
  exact ⟨fun a ha _ => w1_a ha, fun y hy => w1_ne (fun z => hy z.2), by rw [w1_at, hx]⟩
theorem QMx_fr {w : Nat} {m m' m'' : M1} {Y : Nat → Prop} (h : QMx w m m') (f : Fr Y m' m'') (hY : ∀ a, Y a → 269 ≤ a ∧ a < 280) : QMx w m m'' := by
  obtain ⟨h1, h2, h3⟩ := h
  have f' : ∀ a, a < 269 ∨ 280 ≤ a → m'' a = m' a := fun a ha => f a (fun z => by have := hY a z; omega)
  exact ⟨fun a ha hb => (f' a hb).trans (h1 a ha hb), fun y hy => (congrFun (f' 261 (by omega)) y).trans (h2 y hy), (congrFun (f' 261 (by omega)) 21).trans h3⟩
theorem QMx_pre {w : Nat} {m m1 m' : M1} {Y : Nat → Prop} (f : Fr Y m m1) (hY : ∀ a, Y a → 269 ≤ a ∧ a < 280) (h : QMx w m1 m') : QMx w m m' := by
  obtain ⟨h1, h2, h3⟩ := h
  have f' : ∀ a, a < 269 ∨ 280 ≤ a → m1 a = m a := fun a ha => f a (fun z => by have := hY a z; omega)
  exact ⟨fun a ha hb => (h1 a ha hb).trans (f' a hb), fun y hy => (h2 y hy).trans (congrFun (f' 261 (by omega)) y), h3⟩
theorem c_X10_rank0 {d : Nat} {S : MC} {fz : Bool} {m : M1} {p : M2} (hd : 6 ≤ d) (s k n : Nat) (hP : PI p) (hk : m 261 0 = nF k) (hk12 : k ≤ 12) (hsk : s < k) (hm : m 262 s = nF n) (hn0 : 1 ≤ n) (hn : n ≤ 8) : Ct d k_X10_rank S fz [.ref (261), .int (iI (((s : Nat) : Int))), .int (iI (0))] m p (fun v m' p' => v = some (.int (iI ((rk n (kr n (fun z w => m 263 (64 * s + 8 * z + w)) (fun z => m 264 (8 * s + z))) : Nat) : Int))) ∧ p = p' ∧ QMx 0 m m') := by
  obtain ⟨d, rfl⟩ : ∃ e, d = e + 1 := ⟨d - 1, by omega⟩
  refine ct_go (lv := [some (.ref (261)), some (.int (iI (((s : Nat) : Int)))), some (.int (iI (0)))]) (Nat.le_of_ble_eq_true rfl) (okar_cons rfl (okar_cons rfl (okar_cons rfl okar_nil))) rfl (fun Qr hQ => ?_)
  refine rw_blk lk_X10_rank_0 ?_
  refine rw_of (fun rr hrr => q_aload_n rfl (q_aload_n rfl (q_iload_n rfl hrr))) ?_
  obtain ⟨_, mm1, pp2, hV3, rfl, rfl, rfl⟩ := c_X10_isSystem1 (S := S) (fz := fz) (m := m) (p := p) (d := d) (by omega) (((s : Nat) : Int)) (k) hP hk (by omega) (by omega) (by omega)
  refine rw_of (fun rr hrr => q_invV hV3 (show SH 261 = (18, 0) from rfl) rfl rfl (okar_cons rfl okar_nil) (Nat.le_of_ble_eq_true rfl) hrr) ?_
  refine rw_if_eq ⟨by omega, by omega⟩ (t := 13) rfl (fun hc4 => ?_) (fun hc4 => ?_)
  · exfalso; omega
  · skip
    refine rw_of (fun rr hrr => q_iconst (q_goto (t := 14) rfl hrr)) ?_
    refine rw_blk lk_X10_rank_14 ?_
    obtain ⟨_, mm5, pp6, hV7, rfl, rfl, hw7, hF7⟩ := c_X10_fails0 (S := S) (fz := fz) (m := m) (p := p) (d := d) (by omega) hP
    refine rw_of (fun rr hrr => q_invV hV7 (show SH 261 = (18, 0) from rfl) rfl rfl (okar_cons rfl okar_nil) (Nat.le_of_ble_eq_true rfl) hrr) ?_
    refine rw_if_eq ⟨by omega, by omega⟩ (t := 24) rfl (fun hc8 => ?_) (fun hc8 => ?_)
    · skip
      refine rw_blk lk_X10_rank_24 ?_
      refine rw_of (fun rr hrr => q_aload_n rfl (q_iload_n rfl (q_iload_n rfl hrr))) ?_
      obtain ⟨_, mm9, pp10, hV11, rfl, rfl, hF11⟩ := c_X10_rankFor0 (S := S) (fz := fz) (m := mm5) (p := p) (d := d) (by omega) (s) (n) hP ((congrFun (kw hw7 (by omega)) s).trans hm) (by omega) (by omega) (by omega)
      refine rw_of (fun rr hrr => q_invV hV11 (show SH 261 = (18, 0) from rfl) rfl rfl (okar_cons rfl (okar_cons rfl okar_nil)) (Nat.le_of_ble_eq_true rfl) hrr) ?_
      refine rw_blk lk_X10_rank_30 ?_
      refine rw_ret hQ (q_ireturn (Or.inl rfl)) ?_
      refine ⟨?_, rfl, QMx_fr (QMx_w hw7 rfl) hF11 (fun a ha => by omega)⟩
      rw [hF7 263 (by omega), hF7 264 (by omega)]
      
    · exfalso; omega
theorem c_X10_rank1 {d : Nat} {S : MC} {fz : Bool} {m : M1} {p : M2} (hd : 6 ≤ d) (s k n : Nat) (hP : PI p) (hk : m 261 0 = nF k) (hk12 : k ≤ 12) (hsk : s < k) (hm : m 262 s = nF n) (hn0 : 1 ≤ n) (hn : n ≤ 8) : Ct d k_X10_rank S fz [.ref (261), .int (iI (((s : Nat) : Int))), .int (iI (1))] m p (fun v m' p' => v = some (.int (iI ((rk n (kr n (fun z w => m 263 (64 * s + 8 * w + z)) (fun z => m 265 (8 * s + z))) : Nat) : Int))) ∧ p = p' ∧ QMx 0 m m') := by
  obtain ⟨d, rfl⟩ : ∃ e, d = e + 1 := ⟨d - 1, by omega⟩
  refine ct_go (lv := [some (.ref (261)), some (.int (iI (((s : Nat) : Int)))), some (.int (iI (1)))]) (Nat.le_of_ble_eq_true rfl) (okar_cons rfl (okar_cons rfl (okar_cons rfl okar_nil))) rfl (fun Qr hQ => ?_)
  refine rw_blk lk_X10_rank_0 ?_
  refine rw_of (fun rr hrr => q_aload_n rfl (q_aload_n rfl (q_iload_n rfl hrr))) ?_
  obtain ⟨_, mm1, pp2, hV3, rfl, rfl, rfl⟩ := c_X10_isSystem1 (S := S) (fz := fz) (m := m) (p := p) (d := d) (by omega) (((s : Nat) : Int)) (k) hP hk (by omega) (by omega) (by omega)
  refine rw_of (fun rr hrr => q_invV hV3 (show SH 261 = (18, 0) from rfl) rfl rfl (okar_cons rfl okar_nil) (Nat.le_of_ble_eq_true rfl) hrr) ?_
  refine rw_if_eq ⟨by omega, by omega⟩ (t := 13) rfl (fun hc4 => ?_) (fun hc4 => ?_)
  · exfalso; omega
  · skip
    refine rw_of (fun rr hrr => q_iconst (q_goto (t := 14) rfl hrr)) ?_
    refine rw_blk lk_X10_rank_14 ?_
    obtain ⟨_, mm5, pp6, hV7, rfl, rfl, hw7, hF7⟩ := c_X10_fails0 (S := S) (fz := fz) (m := m) (p := p) (d := d) (by omega) hP
    refine rw_of (fun rr hrr => q_invV hV7 (show SH 261 = (18, 0) from rfl) rfl rfl (okar_cons rfl okar_nil) (Nat.le_of_ble_eq_true rfl) hrr) ?_
    refine rw_if_eq ⟨by omega, by omega⟩ (t := 24) rfl (fun hc8 => ?_) (fun hc8 => ?_)
    · skip
      refine rw_blk lk_X10_rank_24 ?_
      refine rw_of (fun rr hrr => q_aload_n rfl (q_iload_n rfl (q_iload_n rfl hrr))) ?_
      obtain ⟨_, mm9, pp10, hV11, rfl, rfl, hF11⟩ := c_X10_rankFor1 (S := S) (fz := fz) (m := mm5) (p := p) (d := d) (by omega) (s) (n) hP ((congrFun (kw hw7 (by omega)) s).trans hm) (by omega) (by omega) (by omega)
      refine rw_of (fun rr hrr => q_invV hV11 (show SH 261 = (18, 0) from rfl) rfl rfl (okar_cons rfl (okar_cons rfl okar_nil)) (Nat.le_of_ble_eq_true rfl) hrr) ?_
      refine rw_blk lk_X10_rank_30 ?_
      refine rw_ret hQ (q_ireturn (Or.inl rfl)) ?_
      refine ⟨?_, rfl, QMx_fr (QMx_w hw7 rfl) hF11 (fun a ha => by omega)⟩
      rw [hF7 263 (by omega), hF7 265 (by omega)]
      
    · exfalso; omega
theorem c_X10_rankS {d : Nat} {S : MC} {fz : Bool} {m : M1} {p : M2} (hd : 6 ≤ d) (s x : Int) (k : Nat) (hP : PI p) (hk : m 261 0 = nF k) (hk12 : k ≤ 12) (hr : (-2147483648 ≤ s ∧ s < 2147483648)) (h : ¬ (0 ≤ s ∧ s < k)) : Ct d k_X10_rank S fz [.ref (261), .int (iI (s)), .int (iI (x))] m p (fun v m' p' => v = some (.int (iI (0))) ∧ p = p' ∧ QMx 1 m m') := by
  obtain ⟨d, rfl⟩ : ∃ e, d = e + 1 := ⟨d - 1, by omega⟩
  refine ct_go (lv := [some (.ref (261)), some (.int (iI (s))), some (.int (iI (x)))]) (Nat.le_of_ble_eq_true rfl) (okar_cons rfl (okar_cons rfl (okar_cons rfl okar_nil))) rfl (fun Qr hQ => ?_)
  refine rw_blk lk_X10_rank_0 ?_
  refine rw_of (fun rr hrr => q_aload_n rfl (q_aload_n rfl (q_iload_n rfl hrr))) ?_
  obtain ⟨_, mm1, pp2, hV3, rfl, rfl, rfl⟩ := c_X10_isSystem0 (S := S) (fz := fz) (m := m) (p := p) (d := d) (by omega) (s) (k) hP hk (by omega) (by omega) (by omega)
  refine rw_of (fun rr hrr => q_invV hV3 (show SH 261 = (18, 0) from rfl) rfl rfl (okar_cons rfl okar_nil) (Nat.le_of_ble_eq_true rfl) hrr) ?_
  refine rw_if_eq ⟨by omega, by omega⟩ (t := 13) rfl (fun hc4 => ?_) (fun hc4 => ?_)
  · skip
    refine rw_blk lk_X10_rank_13 ?_
    refine rw_of (fun rr hrr => q_iconst hrr) ?_
    refine rw_blk lk_X10_rank_14 ?_
    obtain ⟨_, mm5, pp6, hV7, rfl, rfl, hw7, hF7⟩ := c_X10_fails1 (S := S) (fz := fz) (m := m) (p := p) (d := d) (by omega) (1) hP (by omega)
    refine rw_of (fun rr hrr => q_invV hV7 (show SH 261 = (18, 0) from rfl) rfl rfl (okar_cons rfl okar_nil) (Nat.le_of_ble_eq_true rfl) hrr) ?_
    refine rw_if_eq ⟨by omega, by omega⟩ (t := 24) rfl (fun hc8 => ?_) (fun hc8 => ?_)
    · exfalso; omega
    · skip
      refine rw_of (fun rr hrr => q_iconst (q_goto (t := 30) rfl hrr)) ?_
      refine rw_blk lk_X10_rank_30 ?_
      refine rw_ret hQ (q_ireturn (Or.inl rfl)) ?_
      first
        | exact ⟨rfl, rfl, QMx_w hw7 rfl⟩
        | (exfalso; omega)
      
  · exfalso; omega
theorem c_X10_numberS {d : Nat} {S : MC} {fz : Bool} {m : M1} {p : M2} (hd : 4 ≤ d) (s x : Int) (k : Nat) (hP : PI p) (hk : m 261 0 = nF k) (hk12 : k ≤ 12) (hr : (-2147483648 ≤ s ∧ s < 2147483648)) (h : ¬ (0 ≤ s ∧ s < k)) : Ct d k_X10_number S fz [.ref (261), .int (iI (s)), .int (iI (x))] m p (fun v m' p' => v = some (.int (iI (0))) ∧ p = p' ∧ QMx 1 m m') := by
  obtain ⟨d, rfl⟩ : ∃ e, d = e + 1 := ⟨d - 1, by omega⟩
  refine ct_go (lv := [some (.ref (261)), some (.int (iI (s))), some (.int (iI (x)))]) (Nat.le_of_ble_eq_true rfl) (okar_cons rfl (okar_cons rfl (okar_cons rfl okar_nil))) rfl (fun Qr hQ => ?_)
  refine rw_blk lk_X10_number_0 ?_
  refine rw_of (fun rr hrr => q_aload_n rfl (q_aload_n rfl (q_iload_n rfl hrr))) ?_
  obtain ⟨_, mm1, pp2, hV3, rfl, rfl, rfl⟩ := c_X10_isSystem0 (S := S) (fz := fz) (m := m) (p := p) (d := d) (by omega) (s) (k) hP hk (by omega) (by omega) (by omega)
  refine rw_of (fun rr hrr => q_invV hV3 (show SH 261 = (18, 0) from rfl) rfl rfl (okar_cons rfl okar_nil) (Nat.le_of_ble_eq_true rfl) hrr) ?_
  refine rw_if_ne ⟨by omega, by omega⟩ (t := 13) rfl (fun hc4 => ?_) (fun hc4 => ?_)
  · exfalso; omega
  · skip
    refine rw_of (fun rr hrr => q_iconst (q_goto (t := 28) rfl hrr)) ?_
    refine rw_blk lk_X10_number_28 ?_
    obtain ⟨_, mm5, pp6, hV7, rfl, rfl, hw7, hF7⟩ := c_X10_fails1 (S := S) (fz := fz) (m := m) (p := p) (d := d) (by omega) (1) hP (by omega)
    refine rw_of (fun rr hrr => q_invV hV7 (show SH 261 = (18, 0) from rfl) rfl rfl (okar_cons rfl okar_nil) (Nat.le_of_ble_eq_true rfl) hrr) ?_
    refine rw_if_eq ⟨by omega, by omega⟩ (t := 38) rfl (fun hc8 => ?_) (fun hc8 => ?_)
    · exfalso; omega
    · skip
      refine rw_of (fun rr hrr => q_iconst (q_goto (t := 44) rfl hrr)) ?_
      refine rw_blk lk_X10_number_44 ?_
      refine rw_ret hQ (q_ireturn (Or.inl rfl)) ?_
      first
        | exact ⟨rfl, rfl, QMx_w hw7 rfl⟩
        | (exfalso; omega)
      
theorem c_X10_numberK {d : Nat} {S : MC} {fz : Bool} {m : M1} {p : M2} (hd : 4 ≤ d) (s k n : Nat) (x : Int) (hP : PI p) (hk : m 261 0 = nF k) (hk12 : k ≤ 12) (hsk : s < k) (hm : m 262 s = nF n) (hn0 : 1 ≤ n) (hn : n ≤ 8) (hr : (-2147483648 ≤ x ∧ x < 2147483648)) (h : x < 0 ∨ 40 < x) : Ct d k_X10_number S fz [.ref (261), .int (iI (((s : Nat) : Int))), .int (iI (x))] m p (fun v m' p' => v = some (.int (iI (0))) ∧ p = p' ∧ QMx 2 m m') := by
  obtain ⟨d, rfl⟩ : ∃ e, d = e + 1 := ⟨d - 1, by omega⟩
  refine ct_go (lv := [some (.ref (261)), some (.int (iI (((s : Nat) : Int)))), some (.int (iI (x)))]) (Nat.le_of_ble_eq_true rfl) (okar_cons rfl (okar_cons rfl (okar_cons rfl okar_nil))) rfl (fun Qr hQ => ?_)
  refine rw_blk lk_X10_number_0 ?_
  refine rw_of (fun rr hrr => q_aload_n rfl (q_aload_n rfl (q_iload_n rfl hrr))) ?_
  obtain ⟨_, mm1, pp2, hV3, rfl, rfl, rfl⟩ := c_X10_isSystem1 (S := S) (fz := fz) (m := m) (p := p) (d := d) (by omega) (((s : Nat) : Int)) (k) hP hk (by omega) (by omega) (by omega)
  refine rw_of (fun rr hrr => q_invV hV3 (show SH 261 = (18, 0) from rfl) rfl rfl (okar_cons rfl okar_nil) (Nat.le_of_ble_eq_true rfl) hrr) ?_
  refine rw_if_ne ⟨by omega, by omega⟩ (t := 13) rfl (fun hc4 => ?_) (fun hc4 => ?_)
  · skip
    refine rw_blk lk_X10_number_13 ?_
    refine rw_of (fun rr hrr => q_iload_n rfl (q_iconst (q_bipush rfl hrr))) ?_
    obtain ⟨_, mm5, pp6, hV7, rfl, rfl, rfl⟩ := c_X10_isIn0 (S := S) (fz := fz) (m := m) (p := p) (d := d) (by omega) (x) (0) (40) (by omega) (by omega) (by omega)
    refine rw_of (fun rr hrr => q_invS hV7 rfl rfl (okar_cons rfl (okar_cons rfl (okar_cons rfl okar_nil))) (Nat.le_of_ble_eq_true rfl) hrr) ?_
    refine rw_if_eq ⟨by omega, by omega⟩ (t := 27) rfl (fun hc8 => ?_) (fun hc8 => ?_)
    · skip
      refine rw_blk lk_X10_number_27 ?_
      refine rw_of (fun rr hrr => q_iconst hrr) ?_
      refine rw_blk lk_X10_number_28 ?_
      obtain ⟨_, mm9, pp10, hV11, rfl, rfl, hw11, hF11⟩ := c_X10_fails1 (S := S) (fz := fz) (m := m) (p := p) (d := d) (by omega) (2) hP (by omega)
      refine rw_of (fun rr hrr => q_invV hV11 (show SH 261 = (18, 0) from rfl) rfl rfl (okar_cons rfl okar_nil) (Nat.le_of_ble_eq_true rfl) hrr) ?_
      refine rw_if_eq ⟨by omega, by omega⟩ (t := 38) rfl (fun hc12 => ?_) (fun hc12 => ?_)
      · exfalso; omega
      · skip
        refine rw_of (fun rr hrr => q_iconst (q_goto (t := 44) rfl hrr)) ?_
        refine rw_blk lk_X10_number_44 ?_
        refine rw_ret hQ (q_ireturn (Or.inl rfl)) ?_
        first
          | exact ⟨rfl, rfl, QMx_w hw11 rfl⟩
          | (exfalso; omega)
        
    · exfalso; omega
  · exfalso; omega
theorem c_X10_outputS {d : Nat} {S : MC} {fz : Bool} {m : M1} {p : M2} (hd : 3 ≤ d) (s x : Int) (k : Nat) (hP : PI p) (hk : m 261 0 = nF k) (hk12 : k ≤ 12) (hr : (-2147483648 ≤ s ∧ s < 2147483648)) (h : ¬ (0 ≤ s ∧ s < k)) : Ct d k_X10_output S fz [.ref (261), .int (iI (s)), .int (iI (x))] m p (fun v m' p' => v = some (.int (iI (0))) ∧ p = p' ∧ QMx 1 m m') := by
  obtain ⟨d, rfl⟩ : ∃ e, d = e + 1 := ⟨d - 1, by omega⟩
  refine ct_go (lv := [some (.ref (261)), some (.int (iI (s))), some (.int (iI (x))), none, none]) (Nat.le_of_ble_eq_true rfl) (okar_cons rfl (okar_cons rfl (okar_cons rfl okar_nil))) rfl (fun Qr hQ => ?_)
  refine rw_blk lk_X10_output_0 ?_
  refine rw_of (fun rr hrr => q_aload_n rfl (q_aload_n rfl (q_iload_n rfl hrr))) ?_
  obtain ⟨_, mm1, pp2, hV3, rfl, rfl, rfl⟩ := c_X10_isSystem0 (S := S) (fz := fz) (m := m) (p := p) (d := d) (by omega) (s) (k) hP hk (by omega) (by omega) (by omega)
  refine rw_of (fun rr hrr => q_invV hV3 (show SH 261 = (18, 0) from rfl) rfl rfl (okar_cons rfl okar_nil) (Nat.le_of_ble_eq_true rfl) hrr) ?_
  refine rw_if_ne ⟨by omega, by omega⟩ (t := 13) rfl (fun hc4 => ?_) (fun hc4 => ?_)
  · exfalso; omega
  · skip
    refine rw_of (fun rr hrr => q_iconst (q_goto (t := 28) rfl hrr)) ?_
    refine rw_blk lk_X10_output_28 ?_
    obtain ⟨_, mm5, pp6, hV7, rfl, rfl, hw7, hF7⟩ := c_X10_fails1 (S := S) (fz := fz) (m := m) (p := p) (d := d) (by omega) (1) hP (by omega)
    refine rw_of (fun rr hrr => q_invV hV7 (show SH 261 = (18, 0) from rfl) rfl rfl (okar_cons rfl okar_nil) (Nat.le_of_ble_eq_true rfl) hrr) ?_
    refine rw_if_eq ⟨by omega, by omega⟩ (t := 36) rfl (fun hc8 => ?_) (fun hc8 => ?_)
    · exfalso; omega
    · skip
      refine rw_of (fun rr hrr => q_iconst hrr) ?_
      refine rw_ret hQ (q_ireturn (Or.inl rfl)) ?_
      first
        | exact ⟨rfl, rfl, QMx_w hw7 rfl⟩
        | (exfalso; omega)
      
theorem c_X10_outputK {d : Nat} {S : MC} {fz : Bool} {m : M1} {p : M2} (hd : 3 ≤ d) (s k n : Nat) (x : Int) (hP : PI p) (hk : m 261 0 = nF k) (hk12 : k ≤ 12) (hsk : s < k) (hm : m 262 s = nF n) (hn0 : 1 ≤ n) (hn : n ≤ 8) (hr : (-2147483648 ≤ x ∧ x < 2147483648)) (h : x < 0 ∨ 40 < x) : Ct d k_X10_output S fz [.ref (261), .int (iI (((s : Nat) : Int))), .int (iI (x))] m p (fun v m' p' => v = some (.int (iI (0))) ∧ p = p' ∧ QMx 2 m m') := by
  obtain ⟨d, rfl⟩ : ∃ e, d = e + 1 := ⟨d - 1, by omega⟩
  refine ct_go (lv := [some (.ref (261)), some (.int (iI (((s : Nat) : Int)))), some (.int (iI (x))), none, none]) (Nat.le_of_ble_eq_true rfl) (okar_cons rfl (okar_cons rfl (okar_cons rfl okar_nil))) rfl (fun Qr hQ => ?_)
  refine rw_blk lk_X10_output_0 ?_
  refine rw_of (fun rr hrr => q_aload_n rfl (q_aload_n rfl (q_iload_n rfl hrr))) ?_
  obtain ⟨_, mm1, pp2, hV3, rfl, rfl, rfl⟩ := c_X10_isSystem1 (S := S) (fz := fz) (m := m) (p := p) (d := d) (by omega) (((s : Nat) : Int)) (k) hP hk (by omega) (by omega) (by omega)
  refine rw_of (fun rr hrr => q_invV hV3 (show SH 261 = (18, 0) from rfl) rfl rfl (okar_cons rfl okar_nil) (Nat.le_of_ble_eq_true rfl) hrr) ?_
  refine rw_if_ne ⟨by omega, by omega⟩ (t := 13) rfl (fun hc4 => ?_) (fun hc4 => ?_)
  · skip
    refine rw_blk lk_X10_output_13 ?_
    refine rw_of (fun rr hrr => q_iload_n rfl (q_iconst (q_bipush rfl hrr))) ?_
    obtain ⟨_, mm5, pp6, hV7, rfl, rfl, rfl⟩ := c_X10_isIn0 (S := S) (fz := fz) (m := m) (p := p) (d := d) (by omega) (x) (0) (40) (by omega) (by omega) (by omega)
    refine rw_of (fun rr hrr => q_invS hV7 rfl rfl (okar_cons rfl (okar_cons rfl (okar_cons rfl okar_nil))) (Nat.le_of_ble_eq_true rfl) hrr) ?_
    refine rw_if_eq ⟨by omega, by omega⟩ (t := 27) rfl (fun hc8 => ?_) (fun hc8 => ?_)
    · skip
      refine rw_blk lk_X10_output_27 ?_
      refine rw_of (fun rr hrr => q_iconst hrr) ?_
      refine rw_blk lk_X10_output_28 ?_
      obtain ⟨_, mm9, pp10, hV11, rfl, rfl, hw11, hF11⟩ := c_X10_fails1 (S := S) (fz := fz) (m := m) (p := p) (d := d) (by omega) (2) hP (by omega)
      refine rw_of (fun rr hrr => q_invV hV11 (show SH 261 = (18, 0) from rfl) rfl rfl (okar_cons rfl okar_nil) (Nat.le_of_ble_eq_true rfl) hrr) ?_
      refine rw_if_eq ⟨by omega, by omega⟩ (t := 36) rfl (fun hc12 => ?_) (fun hc12 => ?_)
      · exfalso; omega
      · skip
        refine rw_of (fun rr hrr => q_iconst hrr) ?_
        refine rw_ret hQ (q_ireturn (Or.inl rfl)) ?_
        first
          | exact ⟨rfl, rfl, QMx_w hw11 rfl⟩
          | (exfalso; omega)
        
    · exfalso; omega
  · exfalso; omega
theorem c_X10_number1 {d : Nat} {S : MC} {fz : Bool} {m : M1} {p : M2} (hd : 4 ≤ d) (s k n l : Nat) (hP : PI p) (hk : m 261 0 = nF k) (hk12 : k ≤ 12) (hsk : s < k) (hm : m 262 s = nF n) (hn0 : 1 ≤ n) (hn : n ≤ 8) (hl : l ≤ 40) : Ct d k_X10_number S fz [.ref (261), .int (iI (((s : Nat) : Int))), .int (iI (((l : Nat) : Int)))] m p (fun v m' p' => v = some (.int (iI (vF ((hs n (fun z w => m 263 (64 * s + 8 * z + w)) (fun z => m 264 (8 * s + z)) (fun z => m 265 (8 * s + z)) (m 266 s)) l)))) ∧ p = p' ∧ QMx 0 m m') := by
  obtain ⟨d, rfl⟩ : ∃ e, d = e + 1 := ⟨d - 1, by omega⟩
  refine ct_go (lv := [some (.ref (261)), some (.int (iI (((s : Nat) : Int)))), some (.int (iI (((l : Nat) : Int))))]) (Nat.le_of_ble_eq_true rfl) (okar_cons rfl (okar_cons rfl (okar_cons rfl okar_nil))) rfl (fun Qr hQ => ?_)
  refine rw_blk lk_X10_number_0 ?_
  refine rw_of (fun rr hrr => q_aload_n rfl (q_aload_n rfl (q_iload_n rfl hrr))) ?_
  obtain ⟨_, mm1, pp2, hV3, rfl, rfl, rfl⟩ := c_X10_isSystem1 (S := S) (fz := fz) (m := m) (p := p) (d := d) (by omega) (((s : Nat) : Int)) (k) hP hk (by omega) (by omega) (by omega)
  refine rw_of (fun rr hrr => q_invV hV3 (show SH 261 = (18, 0) from rfl) rfl rfl (okar_cons rfl okar_nil) (Nat.le_of_ble_eq_true rfl) hrr) ?_
  refine rw_if_ne ⟨by omega, by omega⟩ (t := 13) rfl (fun hc4 => ?_) (fun hc4 => ?_)
  · skip
    refine rw_blk lk_X10_number_13 ?_
    refine rw_of (fun rr hrr => q_iload_n rfl (q_iconst (q_bipush rfl hrr))) ?_
    obtain ⟨_, mm5, pp6, hV7, rfl, rfl, rfl⟩ := c_X10_isIn1 (S := S) (fz := fz) (m := m) (p := p) (d := d) (by omega) (((l : Nat) : Int)) (0) (40) (by omega) (by omega) (by omega)
    refine rw_of (fun rr hrr => q_invS hV7 rfl rfl (okar_cons rfl (okar_cons rfl (okar_cons rfl okar_nil))) (Nat.le_of_ble_eq_true rfl) hrr) ?_
    refine rw_if_eq ⟨by omega, by omega⟩ (t := 27) rfl (fun hc8 => ?_) (fun hc8 => ?_)
    · exfalso; omega
    · skip
      refine rw_of (fun rr hrr => q_iconst (q_goto (t := 28) rfl hrr)) ?_
      refine rw_blk lk_X10_number_28 ?_
      obtain ⟨_, mm9, pp10, hV11, rfl, rfl, hw11, hF11⟩ := c_X10_fails0 (S := S) (fz := fz) (m := m) (p := p) (d := d) (by omega) hP
      refine rw_of (fun rr hrr => q_invV hV11 (show SH 261 = (18, 0) from rfl) rfl rfl (okar_cons rfl okar_nil) (Nat.le_of_ble_eq_true rfl) hrr) ?_
      refine rw_if_eq ⟨by omega, by omega⟩ (t := 38) rfl (fun hc12 => ?_) (fun hc12 => ?_)
      · skip
        refine rw_blk lk_X10_number_38 ?_
        refine rw_of (fun rr hrr => q_aload_n rfl (q_iload_n rfl (q_iload_n rfl hrr))) ?_
        obtain ⟨_, mm13, pp14, hV15, rfl, rfl, hF15⟩ := c_X10_numberOf (S := S) (fz := fz) (m := mm9) (p := p) (d := d) (by omega) (s) (n) (l) hP ((congrFun (kw hw11 (by omega)) s).trans hm) (by omega) (by omega) (by omega) (by omega)
        refine rw_of (fun rr hrr => q_invV hV15 (show SH 261 = (18, 0) from rfl) rfl rfl (okar_cons rfl (okar_cons rfl okar_nil)) (Nat.le_of_ble_eq_true rfl) hrr) ?_
        refine rw_blk lk_X10_number_44 ?_
        refine rw_ret hQ (q_ireturn (Or.inl rfl)) ?_
        refine ⟨?_, rfl, QMx_fr (QMx_w hw11 rfl) hF15 (fun a ha => by omega)⟩
        rw [hF11 263 (by omega), hF11 264 (by omega), hF11 265 (by omega), hF11 266 (by omega)]
        
      · exfalso; omega
  · exfalso; omega
theorem c_X10_output1 {d : Nat} {S : MC} {fz : Bool} {m : M1} {p : M2} (hd : 3 ≤ d) (s k n l ci : Nat) (hP : PI p) (hk : m 261 0 = nF k) (hk12 : k ≤ 12) (hsk : s < k) (hm : m 262 s = nF n) (hn0 : 1 ≤ n) (hn : n ≤ 8) (hci : m 261 8 = nF ci) (hcil : ci ≤ 20) (hl : l ≤ 40) : Ct d k_X10_output S fz [.ref (261), .int (iI (((s : Nat) : Int))), .int (iI (((l : Nat) : Int)))] m p (fun v m' p' => v = some (.int (iI (vF (dot n (fun z => m 265 (8 * s + z)) ((xs n (fun z w => m 263 (64 * s + 8 * z + w)) (fun z => m 264 (8 * s + z)) (uu (m 268) ci)) l) + m 266 s * (uu (m 268) ci) l)))) ∧ p = p' ∧ QMx 0 m m') := by
  obtain ⟨d, rfl⟩ : ∃ e, d = e + 1 := ⟨d - 1, by omega⟩
  refine ct_go (lv := [some (.ref (261)), some (.int (iI (((s : Nat) : Int)))), some (.int (iI (((l : Nat) : Int)))), none, none]) (Nat.le_of_ble_eq_true rfl) (okar_cons rfl (okar_cons rfl (okar_cons rfl okar_nil))) rfl (fun Qr hQ => ?_)
  refine rw_blk lk_X10_output_0 ?_
  refine rw_of (fun rr hrr => q_aload_n rfl (q_aload_n rfl (q_iload_n rfl hrr))) ?_
  obtain ⟨_, mm1, pp2, hV3, rfl, rfl, rfl⟩ := c_X10_isSystem1 (S := S) (fz := fz) (m := m) (p := p) (d := d) (by omega) (((s : Nat) : Int)) (k) hP hk (by omega) (by omega) (by omega)
  refine rw_of (fun rr hrr => q_invV hV3 (show SH 261 = (18, 0) from rfl) rfl rfl (okar_cons rfl okar_nil) (Nat.le_of_ble_eq_true rfl) hrr) ?_
  refine rw_if_ne ⟨by omega, by omega⟩ (t := 13) rfl (fun hc4 => ?_) (fun hc4 => ?_)
  · skip
    refine rw_blk lk_X10_output_13 ?_
    refine rw_of (fun rr hrr => q_iload_n rfl (q_iconst (q_bipush rfl hrr))) ?_
    obtain ⟨_, mm5, pp6, hV7, rfl, rfl, rfl⟩ := c_X10_isIn1 (S := S) (fz := fz) (m := m) (p := p) (d := d) (by omega) (((l : Nat) : Int)) (0) (40) (by omega) (by omega) (by omega)
    refine rw_of (fun rr hrr => q_invS hV7 rfl rfl (okar_cons rfl (okar_cons rfl (okar_cons rfl okar_nil))) (Nat.le_of_ble_eq_true rfl) hrr) ?_
    refine rw_if_eq ⟨by omega, by omega⟩ (t := 27) rfl (fun hc8 => ?_) (fun hc8 => ?_)
    · exfalso; omega
    · skip
      refine rw_of (fun rr hrr => q_iconst (q_goto (t := 28) rfl hrr)) ?_
      refine rw_blk lk_X10_output_28 ?_
      obtain ⟨_, mm9, pp10, hV11, rfl, rfl, hw11, hF11⟩ := c_X10_fails0 (S := S) (fz := fz) (m := m) (p := p) (d := d) (by omega) hP
      refine rw_of (fun rr hrr => q_invV hV11 (show SH 261 = (18, 0) from rfl) rfl rfl (okar_cons rfl okar_nil) (Nat.le_of_ble_eq_true rfl) hrr) ?_
      refine rw_if_eq ⟨by omega, by omega⟩ (t := 36) rfl (fun hc12 => ?_) (fun hc12 => ?_)
      · skip
        refine rw_blk lk_X10_output_36 ?_
        refine rw_of (fun rr hrr => q_iconst (q_istore_n (Nat.le_of_ble_eq_true rfl) rfl hrr)) ?_
        have hL38 : ∀ i, i ≤ 8 → ∀ (m1 : M1), (Fr (fun a_ => a_ = 272 ∨ a_ = 273) mm9 m1 ∧ ∀ z, z < i → m1 272 z = 0) → Rw (Ev d) k_X10_output (38, [], [some (.ref (261)), some (.int (iI (((s : Nat) : Int)))), some (.int (iI (((l : Nat) : Int)))), some (.int (iI (((i : Nat) : Int)))), none], [], hpM S fz (m1, p), 0, 0) Qr := by
          refine loop_any (fun i hi38 ih38 => ?_)
          intro m1
          intro hI38
          obtain ⟨hF1, h1⟩ := hI38
          refine rw_blk lk_X10_output_38 ?_
          refine rw_of (fun rr hrr => q_iload_n rfl (q_bipush rfl hrr)) ?_
          refine rw_icmp_ge ⟨by omega, by omega⟩ ⟨by omega, by omega⟩ (t := 57) rfl (fun hc13 => ?_) (fun hc13 => ?_)
          · skip
            refine rw_blk lk_X10_output_57 ?_
            refine rw_of (fun rr hrr => q_iconst (q_istore_n (Nat.le_of_ble_eq_true rfl) rfl hrr)) ?_
            have hL59 : ∀ t, t ≤ l → ∀ (m2 : M1) (x59_4 : Option Value), (Fr (fun a_ => a_ = 272 ∨ a_ = 273) mm9 m2 ∧ ∀ z, z < n → m2 272 z = (xs n (fun z w => m 263 (64 * s + 8 * z + w)) (fun z => m 264 (8 * s + z)) (uu (m 268) ci)) t z) → Rw (Ev d) k_X10_output (59, [], [some (.ref (261)), some (.int (iI (((s : Nat) : Int)))), some (.int (iI (((l : Nat) : Int)))), some (.int (iI (((t : Nat) : Int)))), x59_4], [], hpM S fz (m2, p), 0, 0) Qr := by
              refine loop_any (fun t hi59 ih59 => ?_)
              intro m2 x59_4
              intro hI59
              obtain ⟨hF2, h2⟩ := hI59
              have e261 : m2 261 8 = nF ci := by rw [hF2 261 (by omega), ← hw11, w1_ne (by omega)]; exact hci
              refine rw_blk lk_X10_output_59 ?_
              refine rw_of (fun rr hrr => q_iload_n rfl (q_iload_n rfl hrr)) ?_
              refine rw_icmp_ge ⟨by omega, by omega⟩ ⟨by omega, by omega⟩ (t := 135) rfl (fun hc14 => ?_) (fun hc14 => ?_)
              · skip
                refine rw_blk lk_X10_output_135 ?_
                refine rw_of (fun rr hrr => q_aload_n rfl (q_iload_n rfl hrr)) ?_
                obtain ⟨_, mm15, pp16, hV17, rfl, rfl, rfl⟩ := c_X10_outputOf (S := S) (fz := fz) (m := m2) (p := p) (d := d) (by omega) (s) (n) hP ((congrFun ((hF2 262 (by show ¬ (262 = 272 ∨ 262 = 273); omega)).trans (kw hw11 (by omega))) s).trans hm) (by omega) (by omega) (by omega)
                refine rw_of (fun rr hrr => q_invV hV17 (show SH 261 = (18, 0) from rfl) rfl rfl (okar_cons rfl okar_nil) (Nat.le_of_ble_eq_true rfl) (q_aload_n rfl (q_getR (show SH 261 = (18, 0) from rfl) rfl (pt_261_5 hP) (q_iload_n rfl (q_iald (j := s) (show SH 266 = (1, 13) from rfl) rfl (by omega) rfl (q_aload_n rfl (q_iload_n rfl hrr))))))) ?_
                obtain ⟨_, mm18, pp19, hV20, rfl, rfl, rfl⟩ := c_X10_typed (S := S) (fz := fz) (m := m2) (p := p) (d := d) (by omega) (l) (ci) hP (by rw [(show m2 261 8 = mm9 261 8 from congrFun (hF2 261 (by show ¬ (261 = 272 ∨ 261 = 273); omega)) 8), (show mm9 261 8 = m 261 8 from by rw [← hw11, w1_ne (by omega)]), hci]) (by omega) (by omega)
                refine rw_of (fun rr hrr => q_invV hV20 (show SH 261 = (18, 0) from rfl) rfl rfl (okar_cons rfl okar_nil) (Nat.le_of_ble_eq_true rfl) hrr) ?_
                obtain ⟨_, mm21, pp22, hV23, rfl, rfl, rfl⟩ := c_X10_times (S := S) (fz := fz) (m := m2) (p := p) (d := d) (by omega) (m2 266 s) (uu (m2 268) ci l)
                refine rw_of (fun rr hrr => q_invS hV23 rfl rfl (okar_cons rfl (okar_cons rfl okar_nil)) (Nat.le_of_ble_eq_true rfl) (q_iadd (q_sipush rfl (q_irem (by have := vF_ge (dot n (fun z => m2 265 (8 * s + z)) (m2 272)); have := vF_lt (dot n (fun z => m2 265 (8 * s + z)) (m2 272)); have := vF_ge ((m2 266 s) * (uu (m2 268) ci l)); have := vF_lt ((m2 266 s) * (uu (m2 268) ci l)); exact ⟨by omega, by omega⟩) ⟨by omega, by omega⟩ (by omega) (remF (by have := vF_ge (dot n (fun z => m2 265 (8 * s + z)) (m2 272)); have := vF_lt (dot n (fun z => m2 265 (8 * s + z)) (m2 272)); have := vF_ge ((m2 266 s) * (uu (m2 268) ci l)); have := vF_lt ((m2 266 s) * (uu (m2 268) ci l)); omega) (show toF ((vF (dot n (fun z => m2 265 (8 * s + z)) (m2 272)) + vF ((m2 266 s) * (uu (m2 268) ci l)))) = ((dot n (fun z => m2 265 (8 * s + z)) (m2 272)) + ((m2 266 s) * (uu (m2 268) ci l))) by simp only [toF_add, toF_mul, toF_sub, toF_neg, toF_vF, toF_0, toF_1, toF_M, F_add0, F_0sub])) hrr)))) ?_
                refine rw_ret hQ (q_ireturn (Or.inl rfl)) ?_
                
                have e9 : l = t := (by omega)
                subst e9
                refine ⟨lvI (congrArg vF ?_), rfl, QMx_fr (QMx_w hw11 rfl) hF2 (fun a ha => by omega)⟩
                rw [hF2 265 (by omega), hF2 266 (by omega), hF2 268 (by omega), hF11 265 (by omega), hF11 266 (by omega), hF11 268 (by omega)]
                rw [dot_congr (fun _ _ => rfl) (fun c hc => h2 c hc)]
                
              · skip
                refine rw_of (fun rr hrr => q_aload_n rfl (q_iload_n rfl (q_iconst hrr))) ?_
                obtain ⟨_, mm24, pp25, hV26, rfl, rfl, hF26, hv26⟩ := c_X10_goes0 (S := S) (fz := fz) (m := m2) (p := p) (d := d) (by omega) (s) (n) hP ((congrFun ((hF2 262 (by show ¬ (262 = 272 ∨ 262 = 273); omega)).trans (kw hw11 (by omega))) s).trans hm) (by omega) (by omega) (by omega)
                refine rw_of (fun rr hrr => q_invV hV26 (show SH 261 = (18, 0) from rfl) rfl rfl (okar_cons rfl (okar_cons rfl okar_nil)) (Nat.le_of_ble_eq_true rfl) (q_iconst (q_istore (Nat.le_of_ble_eq_true rfl) rfl hrr))) ?_
                have hL73 : ∀ j, j ≤ n → ∀ (m3 : M1), (Fr (fun a_ => a_ = 272) mm24 m3 ∧ ∀ z, m3 272 z = if z < j then mm24 272 z + mm24 264 (8 * s + z) * uu (mm24 268) ci t else mm24 272 z) → Rw (Ev d) k_X10_output (73, [], [some (.ref (261)), some (.int (iI (((s : Nat) : Int)))), some (.int (iI (((l : Nat) : Int)))), some (.int (iI (((t : Nat) : Int)))), some (.int (iI (((j : Nat) : Int))))], [], hpM S fz (m3, p), 0, 0) Qr := by
                  refine loop_any (fun j hi73 ih73 => ?_)
                  intro m3
                  intro hI73
                  obtain ⟨hF3, h3⟩ := hI73
                  refine rw_blk lk_X10_output_73 ?_
                  refine rw_of (fun rr hrr => q_iload rfl (q_aload_n rfl (q_getR (show SH 261 = (18, 0) from rfl) rfl (pt_261_1 hP) (q_iload_n rfl (q_iald (j := s) (show SH 262 = (1, 13) from rfl) rfl (by omega) (ki ((hF3 262 (by show ¬ (262 = 272); omega)).trans ((hF26 262 (by show ¬ (262 = 272 ∨ 262 = 273); omega)).trans ((hF2 262 (by show ¬ (262 = 272 ∨ 262 = 273); omega)).trans (kw hw11 (by omega))))) hm (by omega)) hrr))))) ?_
                  refine rw_icmp_ge ⟨by omega, by omega⟩ ⟨by omega, by omega⟩ (t := 129) rfl (fun hc27 => ?_) (fun hc27 => ?_)
                  · skip
                    refine rw_blk lk_X10_output_129 ?_
                    refine rw_of (fun rr hrr => q_iinc rfl rfl (q_goto (t := 59) rfl hrr)) ?_
                    have hA28 : Fr (fun a_ => a_ = 272 ∨ a_ = 273) mm9 m3 ∧ ∀ z, z < n → m3 272 z = (xs n (fun z w => m 263 (64 * s + 8 * z + w)) (fun z => m 264 (8 * s + z)) (uu (m 268) ci)) (t + 1) z := by
                      refine ⟨Fr_trans hF2 (Fr_trans (Fr_mono hF26 (fun a ha => ha)) (Fr_mono hF3 (fun a ha => by omega))), fun z hz => ?_⟩
                      rw [h3, if_pos (by omega), hv26 z hz, hF26 264 (by omega), hF26 268 (by omega), hF2 263 (by omega), hF2 264 (by omega), hF2 268 (by omega), hF11 263 (by omega), hF11 264 (by omega), hF11 268 (by omega)]
                      show _ = dot n _ ((xs n (fun z w => m 263 (64 * s + 8 * z + w)) (fun z => m 264 (8 * s + z)) (uu (m 268) ci)) t) + _
                      rw [dot_congr (fun _ _ => rfl) (fun c hc => h2 c hc)]
                    exact rw_cast (ih59 (by omega) m3 (some (.int (iI (((j : Nat) : Int))))) hA28) (lcons rfl (lcons rfl (lcons rfl (lcons (lvI (by omega)) (lcons rfl rfl))))) rfl
                  · skip
                    refine rw_of (fun rr hrr => q_aload_n rfl (q_getR (show SH 261 = (18, 0) from rfl) rfl (pt_261_13 hP) (q_iload rfl (q_aload_n rfl (q_getR (show SH 261 = (18, 0) from rfl) rfl (pt_261_13 hP) (q_iload rfl (q_iald (j := j) (show SH 272 = (1, 8) from rfl) rfl (by omega) rfl (q_aload_n rfl (q_getR (show SH 261 = (18, 0) from rfl) rfl (pt_261_3 hP) (q_bipush rfl (q_iload_n rfl (q_imul (q_iload rfl (q_iadd (q_iald (j := 8 * s + j) (show SH 264 = (1, 104) from rfl) (by omega) (by omega) rfl (q_aload_n rfl (q_iload_n rfl hrr))))))))))))))))) ?_
                    obtain ⟨_, mm29, pp30, hV31, rfl, rfl, rfl⟩ := c_X10_typed (S := S) (fz := fz) (m := m3) (p := p) (d := d) (by omega) (t) (ci) hP (by rw [(show m3 261 8 = mm24 261 8 from congrFun (hF3 261 (by show ¬ (261 = 272); omega)) 8), (show mm24 261 8 = m2 261 8 from congrFun (hF26 261 (by show ¬ (261 = 272 ∨ 261 = 273); omega)) 8), (show m2 261 8 = mm9 261 8 from congrFun (hF2 261 (by show ¬ (261 = 272 ∨ 261 = 273); omega)) 8), (show mm9 261 8 = m 261 8 from by rw [← hw11, w1_ne (by omega)]), hci]) (by omega) (by omega)
                    refine rw_of (fun rr hrr => q_invV hV31 (show SH 261 = (18, 0) from rfl) rfl rfl (okar_cons rfl okar_nil) (Nat.le_of_ble_eq_true rfl) hrr) ?_
                    obtain ⟨_, mm32, pp33, hV34, rfl, rfl, rfl⟩ := c_X10_times (S := S) (fz := fz) (m := m3) (p := p) (d := d) (by omega) (m3 264 (8 * s + j)) (uu (m3 268) ci t)
                    refine rw_of (fun rr hrr => q_invS hV34 rfl rfl (okar_cons rfl (okar_cons rfl okar_nil)) (Nat.le_of_ble_eq_true rfl) (q_iadd (q_sipush rfl (q_irem (by have := vF_ge (m3 272 j); have := vF_lt (m3 272 j); have := vF_ge ((m3 264 (8 * s + j)) * (uu (m3 268) ci t)); have := vF_lt ((m3 264 (8 * s + j)) * (uu (m3 268) ci t)); exact ⟨by omega, by omega⟩) ⟨by omega, by omega⟩ (by omega) (remF (by have := vF_ge (m3 272 j); have := vF_lt (m3 272 j); have := vF_ge ((m3 264 (8 * s + j)) * (uu (m3 268) ci t)); have := vF_lt ((m3 264 (8 * s + j)) * (uu (m3 268) ci t)); omega) (show toF ((vF (m3 272 j) + vF ((m3 264 (8 * s + j)) * (uu (m3 268) ci t)))) = ((m3 272 j) + ((m3 264 (8 * s + j)) * (uu (m3 268) ci t))) by simp only [toF_add, toF_mul, toF_sub, toF_neg, toF_vF, toF_0, toF_1, toF_M, F_add0, F_0sub])) (q_iast (j := j) (xx := ((m3 272 j) + ((m3 264 (8 * s + j)) * (uu (m3 268) ci t)))) (show SH 272 = (1, 8) from rfl) rfl (by omega) rfl hrr))))) ?_
                    generalize hm36 : w1 m3 272 j (((m3 272 j) + ((m3 264 (8 * s + j)) * (uu (m3 268) ci t)))) = mm35
                    refine rw_of (fun rr hrr => q_iinc rfl rfl (q_goto (t := 73) rfl hrr)) ?_
                    exact rw_cast (ih73 (by omega) mm35 (by exact ⟨fr_w hm36 hF3 rfl, fill_w (f := fun z => mm24 272 z + mm24 264 (8 * s + z) * uu (mm24 268) ci t) hm36 h3 (by rw [h3, if_neg (by omega), hF3 264 (by omega), hF3 268 (by omega)])⟩)) (lcons rfl (lcons rfl (lcons rfl (lcons rfl (lcons (lvI (by omega)) rfl))))) rfl
                exact rw_cast (hL73 0 (by omega) mm24 (by exact ⟨Fr_rfl, fun z => (if_neg (Nat.not_lt_zero z)).symm⟩)) (lcons rfl (lcons rfl (lcons rfl (lcons rfl (lcons (lvI (by omega)) rfl))))) rfl
            exact rw_cast (hL59 0 (by omega) m1 none (by exact ⟨hF1, fun z hz => h1 z (by omega)⟩)) (lcons rfl (lcons rfl (lcons rfl (lcons (lvI (by omega)) (lcons rfl rfl))))) rfl
          · skip
            refine rw_of (fun rr hrr => q_aload_n rfl (q_getR (show SH 261 = (18, 0) from rfl) rfl (pt_261_13 hP) (q_iload_n rfl (q_iconst (q_iast (j := i) (xx := 0) (show SH 272 = (1, 8) from rfl) rfl (by omega) rfl hrr))))) ?_
            generalize hm38 : w1 m1 272 i 0 = mm37
            refine rw_of (fun rr hrr => q_iinc rfl rfl (q_goto (t := 38) rfl hrr)) ?_
            have hA39 : Fr (fun a_ => a_ = 272 ∨ a_ = 273) mm9 mm37 ∧ ∀ z, z < (i + 1) → mm37 272 z = 0 := by
              refine ⟨fr_w hm38 hF1 (by omega), fun z hz => ?_⟩
              rw [← hm38]
              by_cases q : z = i
              · rw [q, w1_at]
              · rw [w1_ne (fun w => q w.2)]
                exact h1 z (by omega)
            exact rw_cast (ih38 (by omega) mm37 hA39) (lcons rfl (lcons rfl (lcons rfl (lcons (lvI (by omega)) (lcons rfl rfl))))) rfl
        exact rw_cast (hL38 0 (by omega) mm9 (by exact ⟨Fr_rfl, fun z hz => absurd hz (Nat.not_lt_zero z)⟩)) (lcons rfl (lcons rfl (lcons rfl (lcons (lvI (by omega)) (lcons rfl rfl))))) rfl
      · exfalso; omega
  · exfalso; omega
theorem c_X10_polynomial0 {d : Nat} {S : MC} {fz : Bool} {m : M1} {p : M2} (hd : 4 ≤ d) (s k n g : Nat) (hP : PI p) (hk : m 261 0 = nF k) (hk12 : k ≤ 12) (hsk : s < k) (hm : m 262 s = nF n) (hn0 : 1 ≤ n) (hn : n ≤ 8) (hg : g ≤ n) : Ct d k_X10_polynomial S fz [.ref (261), .int (iI (((s : Nat) : Int))), .int (iI (((g : Nat) : Int))), .int (iI (0))] m p (fun v m' p' => v = some (.int (iI (vF ((pbl n (fun z w => m 263 (64 * s + 8 * z + w))) g)))) ∧ p = p' ∧ QMx 0 m m') := by
  obtain ⟨d, rfl⟩ : ∃ e, d = e + 1 := ⟨d - 1, by omega⟩
  refine ct_go (lv := [some (.ref (261)), some (.int (iI (((s : Nat) : Int)))), some (.int (iI (((g : Nat) : Int)))), some (.int (iI (0)))]) (Nat.le_of_ble_eq_true rfl) (okar_cons rfl (okar_cons rfl (okar_cons rfl (okar_cons rfl okar_nil)))) rfl (fun Qr hQ => ?_)
  refine rw_blk lk_X10_polynomial_0 ?_
  refine rw_of (fun rr hrr => q_aload_n rfl (q_aload_n rfl (q_iload_n rfl hrr))) ?_
  obtain ⟨_, mm1, pp2, hV3, rfl, rfl, rfl⟩ := c_X10_isSystem1 (S := S) (fz := fz) (m := m) (p := p) (d := d) (by omega) (((s : Nat) : Int)) (k) hP hk (by omega) (by omega) (by omega)
  refine rw_of (fun rr hrr => q_invV hV3 (show SH 261 = (18, 0) from rfl) rfl rfl (okar_cons rfl okar_nil) (Nat.le_of_ble_eq_true rfl) hrr) ?_
  refine rw_if_eq ⟨by omega, by omega⟩ (t := 39) rfl (fun hc4 => ?_) (fun hc4 => ?_)
  · exfalso; omega
  · skip
    refine rw_of (fun rr hrr => q_iload_n rfl (q_iconst (q_aload_n rfl (q_getR (show SH 261 = (18, 0) from rfl) rfl (pt_261_1 hP) (q_aload_n rfl (q_iload_n rfl hrr)))))) ?_
    obtain ⟨_, mm5, pp6, hV7, rfl, rfl, rfl⟩ := c_X10_isSystem1 (S := S) (fz := fz) (m := m) (p := p) (d := d) (by omega) (((s : Nat) : Int)) (k) hP hk (by omega) (by omega) (by omega)
    refine rw_of (fun rr hrr => q_invV hV7 (show SH 261 = (18, 0) from rfl) rfl rfl (okar_cons rfl okar_nil) (Nat.le_of_ble_eq_true rfl) hrr) ?_
    refine rw_if_eq ⟨by omega, by omega⟩ (t := 27) rfl (fun hc8 => ?_) (fun hc8 => ?_)
    · exfalso; omega
    · skip
      refine rw_of (fun rr hrr => q_iload_n rfl (q_goto (t := 28) rfl hrr)) ?_
      refine rw_blk lk_X10_polynomial_28 ?_
      refine rw_of (fun rr hrr => q_iald (j := s) (show SH 262 = (1, 13) from rfl) rfl (by omega) (ki rfl hm (by omega)) hrr) ?_
      obtain ⟨_, mm9, pp10, hV11, rfl, rfl, rfl⟩ := c_X10_isIn1 (S := S) (fz := fz) (m := m) (p := p) (d := d) (by omega) (((g : Nat) : Int)) (0) (((n : Nat) : Int)) (by omega) (by omega) (by omega)
      refine rw_of (fun rr hrr => q_invS hV11 rfl rfl (okar_cons rfl (okar_cons rfl (okar_cons rfl okar_nil))) (Nat.le_of_ble_eq_true rfl) hrr) ?_
      refine rw_if_eq ⟨by omega, by omega⟩ (t := 39) rfl (fun hc12 => ?_) (fun hc12 => ?_)
      · exfalso; omega
      · skip
        refine rw_of (fun rr hrr => q_iconst (q_goto (t := 40) rfl hrr)) ?_
        refine rw_blk lk_X10_polynomial_40 ?_
        obtain ⟨_, mm13, pp14, hV15, rfl, rfl, hw15, hF15⟩ := c_X10_fails0 (S := S) (fz := fz) (m := m) (p := p) (d := d) (by omega) hP
        refine rw_of (fun rr hrr => q_invV hV15 (show SH 261 = (18, 0) from rfl) rfl rfl (okar_cons rfl okar_nil) (Nat.le_of_ble_eq_true rfl) hrr) ?_
        refine rw_if_eq ⟨by omega, by omega⟩ (t := 48) rfl (fun hc16 => ?_) (fun hc16 => ?_)
        · skip
          refine rw_blk lk_X10_polynomial_48 ?_
          refine rw_of (fun rr hrr => q_aload_n rfl (q_iload_n rfl hrr)) ?_
          obtain ⟨_, mm17, pp18, hV19, rfl, rfl, hF19, hB19, hA19⟩ := c_X10_finds (S := S) (fz := fz) (m := mm13) (p := p) (d := d) (by omega) (s) (n) hP ((congrFun (kw hw15 (by omega)) s).trans hm) (by omega) (by omega) (by omega)
          refine rw_of (fun rr hrr => q_invV hV19 (show SH 261 = (18, 0) from rfl) rfl rfl (okar_cons rfl okar_nil) (Nat.le_of_ble_eq_true rfl) (q_iload_n rfl hrr)) ?_
          refine rw_if_eq ⟨by omega, by omega⟩ (t := 66) rfl (fun hc20 => ?_) (fun hc20 => ?_)
          · skip
            refine rw_blk lk_X10_polynomial_66 ?_
            refine rw_of (fun rr hrr => q_aload_n rfl (q_getR (show SH 261 = (18, 0) from rfl) rfl (pt_261_17 hP) (q_iload_n rfl (q_iald (j := g) (show SH 276 = (1, 9) from rfl) rfl (by omega) rfl hrr)))) ?_
            refine rw_blk lk_X10_polynomial_72 ?_
            refine rw_ret hQ (q_ireturn (Or.inl rfl)) ?_
            
            refine ⟨lvI (congrArg vF ?_), rfl, QMx_fr (QMx_w hw15 rfl) hF19 (fun a ha => by omega)⟩
            rw [hB19 g (by omega), hF15 263 (by omega)]
            unfold ctr
            rw [if_pos (by omega)]
            
          · exfalso; omega
        · exfalso; omega
theorem c_X10_polynomial1 {d : Nat} {S : MC} {fz : Bool} {m : M1} {p : M2} (hd : 4 ≤ d) (s k n g : Nat) (hP : PI p) (hk : m 261 0 = nF k) (hk12 : k ≤ 12) (hsk : s < k) (hm : m 262 s = nF n) (hn0 : 1 ≤ n) (hn : n ≤ 8) (hg : g ≤ n) : Ct d k_X10_polynomial S fz [.ref (261), .int (iI (((s : Nat) : Int))), .int (iI (((g : Nat) : Int))), .int (iI (1))] m p (fun v m' p' => v = some (.int (iI (vF ((pab n (fun z w => m 263 (64 * s + 8 * z + w)) (fun z => m 264 (8 * s + z)) (fun z => m 265 (8 * s + z))) g)))) ∧ p = p' ∧ QMx 0 m m') := by
  obtain ⟨d, rfl⟩ : ∃ e, d = e + 1 := ⟨d - 1, by omega⟩
  refine ct_go (lv := [some (.ref (261)), some (.int (iI (((s : Nat) : Int)))), some (.int (iI (((g : Nat) : Int)))), some (.int (iI (1)))]) (Nat.le_of_ble_eq_true rfl) (okar_cons rfl (okar_cons rfl (okar_cons rfl (okar_cons rfl okar_nil)))) rfl (fun Qr hQ => ?_)
  refine rw_blk lk_X10_polynomial_0 ?_
  refine rw_of (fun rr hrr => q_aload_n rfl (q_aload_n rfl (q_iload_n rfl hrr))) ?_
  obtain ⟨_, mm1, pp2, hV3, rfl, rfl, rfl⟩ := c_X10_isSystem1 (S := S) (fz := fz) (m := m) (p := p) (d := d) (by omega) (((s : Nat) : Int)) (k) hP hk (by omega) (by omega) (by omega)
  refine rw_of (fun rr hrr => q_invV hV3 (show SH 261 = (18, 0) from rfl) rfl rfl (okar_cons rfl okar_nil) (Nat.le_of_ble_eq_true rfl) hrr) ?_
  refine rw_if_eq ⟨by omega, by omega⟩ (t := 39) rfl (fun hc4 => ?_) (fun hc4 => ?_)
  · exfalso; omega
  · skip
    refine rw_of (fun rr hrr => q_iload_n rfl (q_iconst (q_aload_n rfl (q_getR (show SH 261 = (18, 0) from rfl) rfl (pt_261_1 hP) (q_aload_n rfl (q_iload_n rfl hrr)))))) ?_
    obtain ⟨_, mm5, pp6, hV7, rfl, rfl, rfl⟩ := c_X10_isSystem1 (S := S) (fz := fz) (m := m) (p := p) (d := d) (by omega) (((s : Nat) : Int)) (k) hP hk (by omega) (by omega) (by omega)
    refine rw_of (fun rr hrr => q_invV hV7 (show SH 261 = (18, 0) from rfl) rfl rfl (okar_cons rfl okar_nil) (Nat.le_of_ble_eq_true rfl) hrr) ?_
    refine rw_if_eq ⟨by omega, by omega⟩ (t := 27) rfl (fun hc8 => ?_) (fun hc8 => ?_)
    · exfalso; omega
    · skip
      refine rw_of (fun rr hrr => q_iload_n rfl (q_goto (t := 28) rfl hrr)) ?_
      refine rw_blk lk_X10_polynomial_28 ?_
      refine rw_of (fun rr hrr => q_iald (j := s) (show SH 262 = (1, 13) from rfl) rfl (by omega) (ki rfl hm (by omega)) hrr) ?_
      obtain ⟨_, mm9, pp10, hV11, rfl, rfl, rfl⟩ := c_X10_isIn1 (S := S) (fz := fz) (m := m) (p := p) (d := d) (by omega) (((g : Nat) : Int)) (0) (((n : Nat) : Int)) (by omega) (by omega) (by omega)
      refine rw_of (fun rr hrr => q_invS hV11 rfl rfl (okar_cons rfl (okar_cons rfl (okar_cons rfl okar_nil))) (Nat.le_of_ble_eq_true rfl) hrr) ?_
      refine rw_if_eq ⟨by omega, by omega⟩ (t := 39) rfl (fun hc12 => ?_) (fun hc12 => ?_)
      · exfalso; omega
      · skip
        refine rw_of (fun rr hrr => q_iconst (q_goto (t := 40) rfl hrr)) ?_
        refine rw_blk lk_X10_polynomial_40 ?_
        obtain ⟨_, mm13, pp14, hV15, rfl, rfl, hw15, hF15⟩ := c_X10_fails0 (S := S) (fz := fz) (m := m) (p := p) (d := d) (by omega) hP
        refine rw_of (fun rr hrr => q_invV hV15 (show SH 261 = (18, 0) from rfl) rfl rfl (okar_cons rfl okar_nil) (Nat.le_of_ble_eq_true rfl) hrr) ?_
        refine rw_if_eq ⟨by omega, by omega⟩ (t := 48) rfl (fun hc16 => ?_) (fun hc16 => ?_)
        · skip
          refine rw_blk lk_X10_polynomial_48 ?_
          refine rw_of (fun rr hrr => q_aload_n rfl (q_iload_n rfl hrr)) ?_
          obtain ⟨_, mm17, pp18, hV19, rfl, rfl, hF19, hB19, hA19⟩ := c_X10_finds (S := S) (fz := fz) (m := mm13) (p := p) (d := d) (by omega) (s) (n) hP ((congrFun (kw hw15 (by omega)) s).trans hm) (by omega) (by omega) (by omega)
          refine rw_of (fun rr hrr => q_invV hV19 (show SH 261 = (18, 0) from rfl) rfl rfl (okar_cons rfl okar_nil) (Nat.le_of_ble_eq_true rfl) (q_iload_n rfl hrr)) ?_
          refine rw_if_eq ⟨by omega, by omega⟩ (t := 66) rfl (fun hc20 => ?_) (fun hc20 => ?_)
          · exfalso; omega
          · skip
            refine rw_of (fun rr hrr => q_aload_n rfl (q_getR (show SH 261 = (18, 0) from rfl) rfl (pt_261_18 hP) (q_iload_n rfl (q_iald (j := g) (show SH 277 = (1, 9) from rfl) rfl (by omega) rfl (q_goto (t := 72) rfl hrr))))) ?_
            refine rw_blk lk_X10_polynomial_72 ?_
            refine rw_ret hQ (q_ireturn (Or.inl rfl)) ?_
            
            refine ⟨lvI (congrArg vF ?_), rfl, QMx_fr (QMx_w hw15 rfl) hF19 (fun a ha => by omega)⟩
            rw [hA19 g (by omega), hF15 263 (by omega), hF15 264 (by omega), hF15 265 (by omega)]
            unfold ctr
            by_cases q : g < n
            · rw [if_pos q]
            · rw [if_neg q]
              exact (if_pos (by omega)).symm
            
        · exfalso; omega
theorem c_X10_polynomialS {d : Nat} {S : MC} {fz : Bool} {m : M1} {p : M2} (hd : 4 ≤ d) (s x y : Int) (k : Nat) (hP : PI p) (hk : m 261 0 = nF k) (hk12 : k ≤ 12) (hr : (-2147483648 ≤ s ∧ s < 2147483648)) (h : ¬ (0 ≤ s ∧ s < k)) : Ct d k_X10_polynomial S fz [.ref (261), .int (iI (s)), .int (iI (x)), .int (iI (y))] m p (fun v m' p' => v = some (.int (iI (0))) ∧ p = p' ∧ QMx 1 m m') := by
  obtain ⟨d, rfl⟩ : ∃ e, d = e + 1 := ⟨d - 1, by omega⟩
  refine ct_go (lv := [some (.ref (261)), some (.int (iI (s))), some (.int (iI (x))), some (.int (iI (y)))]) (Nat.le_of_ble_eq_true rfl) (okar_cons rfl (okar_cons rfl (okar_cons rfl (okar_cons rfl okar_nil)))) rfl (fun Qr hQ => ?_)
  refine rw_blk lk_X10_polynomial_0 ?_
  refine rw_of (fun rr hrr => q_aload_n rfl (q_aload_n rfl (q_iload_n rfl hrr))) ?_
  obtain ⟨_, mm1, pp2, hV3, rfl, rfl, rfl⟩ := c_X10_isSystem0 (S := S) (fz := fz) (m := m) (p := p) (d := d) (by omega) (s) (k) hP hk (by omega) (by omega) (by omega)
  refine rw_of (fun rr hrr => q_invV hV3 (show SH 261 = (18, 0) from rfl) rfl rfl (okar_cons rfl okar_nil) (Nat.le_of_ble_eq_true rfl) hrr) ?_
  refine rw_if_eq ⟨by omega, by omega⟩ (t := 39) rfl (fun hc4 => ?_) (fun hc4 => ?_)
  · skip
    refine rw_blk lk_X10_polynomial_39 ?_
    refine rw_of (fun rr hrr => q_iconst hrr) ?_
    refine rw_blk lk_X10_polynomial_40 ?_
    obtain ⟨_, mm5, pp6, hV7, rfl, rfl, hw7, hF7⟩ := c_X10_fails1 (S := S) (fz := fz) (m := m) (p := p) (d := d) (by omega) (1) hP (by omega)
    refine rw_of (fun rr hrr => q_invV hV7 (show SH 261 = (18, 0) from rfl) rfl rfl (okar_cons rfl okar_nil) (Nat.le_of_ble_eq_true rfl) hrr) ?_
    refine rw_if_eq ⟨by omega, by omega⟩ (t := 48) rfl (fun hc8 => ?_) (fun hc8 => ?_)
    · exfalso; omega
    · skip
      refine rw_of (fun rr hrr => q_iconst hrr) ?_
      refine rw_ret hQ (q_ireturn (Or.inl rfl)) ?_
      first
        | exact ⟨rfl, rfl, QMx_w hw7 rfl⟩
        | (exfalso; omega)
      
  · exfalso; omega
theorem c_X10_polynomialP {d : Nat} {S : MC} {fz : Bool} {m : M1} {p : M2} (hd : 4 ≤ d) (s k n : Nat) (x y : Int) (hP : PI p) (hk : m 261 0 = nF k) (hk12 : k ≤ 12) (hsk : s < k) (hm : m 262 s = nF n) (hn0 : 1 ≤ n) (hn : n ≤ 8) (hr : (-2147483648 ≤ x ∧ x < 2147483648)) (h : x < 0 ∨ n < x) : Ct d k_X10_polynomial S fz [.ref (261), .int (iI (((s : Nat) : Int))), .int (iI (x)), .int (iI (y))] m p (fun v m' p' => v = some (.int (iI (0))) ∧ p = p' ∧ QMx 1 m m') := by
  obtain ⟨d, rfl⟩ : ∃ e, d = e + 1 := ⟨d - 1, by omega⟩
  refine ct_go (lv := [some (.ref (261)), some (.int (iI (((s : Nat) : Int)))), some (.int (iI (x))), some (.int (iI (y)))]) (Nat.le_of_ble_eq_true rfl) (okar_cons rfl (okar_cons rfl (okar_cons rfl (okar_cons rfl okar_nil)))) rfl (fun Qr hQ => ?_)
  refine rw_blk lk_X10_polynomial_0 ?_
  refine rw_of (fun rr hrr => q_aload_n rfl (q_aload_n rfl (q_iload_n rfl hrr))) ?_
  obtain ⟨_, mm1, pp2, hV3, rfl, rfl, rfl⟩ := c_X10_isSystem1 (S := S) (fz := fz) (m := m) (p := p) (d := d) (by omega) (((s : Nat) : Int)) (k) hP hk (by omega) (by omega) (by omega)
  refine rw_of (fun rr hrr => q_invV hV3 (show SH 261 = (18, 0) from rfl) rfl rfl (okar_cons rfl okar_nil) (Nat.le_of_ble_eq_true rfl) hrr) ?_
  refine rw_if_eq ⟨by omega, by omega⟩ (t := 39) rfl (fun hc4 => ?_) (fun hc4 => ?_)
  · exfalso; omega
  · skip
    refine rw_of (fun rr hrr => q_iload_n rfl (q_iconst (q_aload_n rfl (q_getR (show SH 261 = (18, 0) from rfl) rfl (pt_261_1 hP) (q_aload_n rfl (q_iload_n rfl hrr)))))) ?_
    obtain ⟨_, mm5, pp6, hV7, rfl, rfl, rfl⟩ := c_X10_isSystem1 (S := S) (fz := fz) (m := m) (p := p) (d := d) (by omega) (((s : Nat) : Int)) (k) hP hk (by omega) (by omega) (by omega)
    refine rw_of (fun rr hrr => q_invV hV7 (show SH 261 = (18, 0) from rfl) rfl rfl (okar_cons rfl okar_nil) (Nat.le_of_ble_eq_true rfl) hrr) ?_
    refine rw_if_eq ⟨by omega, by omega⟩ (t := 27) rfl (fun hc8 => ?_) (fun hc8 => ?_)
    · exfalso; omega
    · skip
      refine rw_of (fun rr hrr => q_iload_n rfl (q_goto (t := 28) rfl hrr)) ?_
      refine rw_blk lk_X10_polynomial_28 ?_
      refine rw_of (fun rr hrr => q_iald (j := s) (show SH 262 = (1, 13) from rfl) rfl (by omega) (ki rfl hm (by omega)) hrr) ?_
      obtain ⟨_, mm9, pp10, hV11, rfl, rfl, rfl⟩ := c_X10_isIn0 (S := S) (fz := fz) (m := m) (p := p) (d := d) (by omega) (x) (0) (((n : Nat) : Int)) (by omega) (by omega) (by omega)
      refine rw_of (fun rr hrr => q_invS hV11 rfl rfl (okar_cons rfl (okar_cons rfl (okar_cons rfl okar_nil))) (Nat.le_of_ble_eq_true rfl) hrr) ?_
      refine rw_if_eq ⟨by omega, by omega⟩ (t := 39) rfl (fun hc12 => ?_) (fun hc12 => ?_)
      · skip
        refine rw_blk lk_X10_polynomial_39 ?_
        refine rw_of (fun rr hrr => q_iconst hrr) ?_
        refine rw_blk lk_X10_polynomial_40 ?_
        obtain ⟨_, mm13, pp14, hV15, rfl, rfl, hw15, hF15⟩ := c_X10_fails1 (S := S) (fz := fz) (m := m) (p := p) (d := d) (by omega) (1) hP (by omega)
        refine rw_of (fun rr hrr => q_invV hV15 (show SH 261 = (18, 0) from rfl) rfl rfl (okar_cons rfl okar_nil) (Nat.le_of_ble_eq_true rfl) hrr) ?_
        refine rw_if_eq ⟨by omega, by omega⟩ (t := 48) rfl (fun hc16 => ?_) (fun hc16 => ?_)
        · exfalso; omega
        · skip
          refine rw_of (fun rr hrr => q_iconst hrr) ?_
          refine rw_ret hQ (q_ireturn (Or.inl rfl)) ?_
          first
            | exact ⟨rfl, rfl, QMx_w hw15 rfl⟩
            | (exfalso; omega)
          
      · exfalso; omega
