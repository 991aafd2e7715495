/-! WHAT the model makes: a system behind the others. -/
def Ot (k : Nat) (m m' : M1) : Prop := (∀ x, x < 64 * k → m' 263 x = m 263 x) ∧ (∀ x, x < 8 * k → m' 264 x = m 264 x ∧ m' 265 x = m 265 x) ∧ ∀ x, x < k → m' 262 x = m 262 x ∧ m' 266 x = m 266 x
theorem Ot_rfl {k : Nat} {m : M1} : Ot k m m := ⟨fun _ _ => rfl, fun _ _ => ⟨rfl, rfl⟩, fun _ _ => ⟨rfl, rfl⟩⟩
theorem Ot_trans {k : Nat} {m m1 m2 : M1} (h : Ot k m m1) (h' : Ot k m1 m2) : Ot k m m2 := ⟨fun x hx => (h'.1 x hx).trans (h.1 x hx), fun x hx => ⟨(h'.2.1 x hx).1.trans (h.2.1 x hx).1, (h'.2.1 x hx).2.trans (h.2.1 x hx).2⟩, fun x hx => ⟨(h'.2.2 x hx).1.trans (h.2.2 x hx).1, (h'.2.2 x hx).2.trans (h.2.2 x hx).2⟩⟩
theorem Ot_fr {k : Nat} {m m1 : M1} {Y : Nat → Prop} (f : Fr Y m m1) (hY : ∀ a, Y a → a < 262 ∨ 266 < a) : Ot k m m1 := by
  have g : ∀ a, 262 ≤ a ∧ a ≤ 266 → m1 a = m a := fun a ha => f a (fun z => by have := hY a z; omega)
  exact ⟨fun x _ => congrFun (g 263 (by omega)) x, fun x _ => ⟨congrFun (g 264 (by omega)) x, congrFun (g 265 (by omega)) x⟩, fun x _ => ⟨congrFun (g 262 (by omega)) x, congrFun (g 266 (by omega)) x⟩⟩
theorem Ot_w {k a i : Nat} {m m1 m2 : M1} {x : F} (h : w1 m1 a i x = m2) (h0 : Ot k m m1) (ha : a = 263 ∧ 64 * k ≤ i ∨ (a = 264 ∨ a = 265) ∧ 8 * k ≤ i ∨ (a = 262 ∨ a = 266) ∧ k ≤ i ∨ a < 262 ∨ 266 < a) : Ot k m m2 := by
  subst h
  refine Ot_trans h0 ⟨fun x hx => w1_ne (by omega), fun x hx => ⟨w1_ne (by omega), w1_ne (by omega)⟩, fun x hx => ⟨w1_ne (by omega), w1_ne (by omega)⟩⟩
theorem Ot_of {k : Nat} {m m' : M1} {g2 g6 : F} {g3 g4 g5 : Nat → F} (h2 : ∀ x, m' 262 x = if x = k then g2 else m 262 x) (h6 : ∀ x, m' 266 x = if x = k then g6 else m 266 x) (h3 : ∀ x, m' 263 x = if 64 * k ≤ x ∧ x < 64 * k + 64 then g3 x else m 263 x) (h4 : ∀ x, m' 264 x = if 8 * k ≤ x ∧ x < 8 * k + 8 then g4 x else m 264 x) (h5 : ∀ x, m' 265 x = if 8 * k ≤ x ∧ x < 8 * k + 8 then g5 x else m 265 x) : Ot k m m' :=
  ⟨fun x hx => (h3 x).trans (if_neg (by omega)), fun x hx => ⟨(h4 x).trans (if_neg (by omega)), (h5 x).trans (if_neg (by omega))⟩, fun x hx => ⟨(h2 x).trans (if_neg (by omega)), (h6 x).trans (if_neg (by omega))⟩⟩
/-- ahead of the last step -/
def MKb (k n : Nat) (X : Nat → Nat → F) (Y Z : Nat → F) (W : F) (m m' : M1) : Prop := (∀ a, a ≠ 261 → a < 262 ∨ 266 < a → a < 269 ∨ 280 ≤ a → m' a = m a) ∧ (∀ y, y ≠ 21 → m' 261 y = m 261 y) ∧ m' 261 21 = 0 ∧ Ot k m m' ∧ m' 262 k = nF n ∧ (∀ i, i < n → ∀ j, j < n → m' 263 (64 * k + 8 * i + j) = X i j) ∧ (∀ i, i < n → m' 264 (8 * k + i) = Y i ∧ m' 265 (8 * k + i) = Z i) ∧ m' 266 k = W
def MK (k n : Nat) (X : Nat → Nat → F) (Y Z : Nat → F) (W : F) (m m' : M1) : Prop := (∀ a, a ≠ 261 → a < 262 ∨ 266 < a → a < 269 ∨ 280 ≤ a → m' a = m a) ∧ (∀ y, y ≠ 0 → y ≠ 21 → m' 261 y = m 261 y) ∧ m' 261 21 = 0 ∧ m' 261 0 = nF (k + 1) ∧ Ot k m m' ∧ m' 262 k = nF n ∧ (∀ i, i < n → ∀ j, j < n → m' 263 (64 * k + 8 * i + j) = X i j) ∧ (∀ i, i < n → m' 264 (8 * k + i) = Y i ∧ m' 265 (8 * k + i) = Z i) ∧ m' 266 k = W
theorem MK_end {k n : Nat} {X : Nat → Nat → F} {Y Z : Nat → F} {W : F} {m m1 m' : M1} (h : MKb k n X Y Z W m m1) (hw : w1 m1 261 0 (nF (k + 1)) = m') : MK k n X Y Z W m m' := by
  obtain ⟨h1, h2, h3, h4, h5, h6, h7, h8⟩ := h
  have e : ∀ a, a ≠ 261 → m' a = m1 a := fun a ha => by rw [← hw, w1_a ha]
  refine ⟨fun a ha hb hc => (e a ha).trans (h1 a ha hb hc), fun y hy hy' => ?_, ?_, by rw [← hw, w1_at], Ot_w hw h4 (by omega), ?_, fun i hi j hj => ?_, fun i hi => ?_, ?_⟩
  · rw [← hw, w1_ne (fun z => hy z.2)]
    exact h2 y hy'
  · rw [← hw, w1_ne (by omega)]
    exact h3
  · rw [e 262 (by omega)]
    exact h5
  · rw [e 263 (by omega)]
    exact h6 i hi j hj
  · rw [e 264 (by omega), e 265 (by omega)]
    exact h7 i hi
  · rw [e 266 (by omega)]
    exact h8
theorem fr_out {Y : Nat → Prop} {m m1 : M1} (f : Fr Y m m1) (hY : ∀ a, Y a → (262 ≤ a ∧ a ≤ 266) ∨ (269 ≤ a ∧ a < 280)) : (∀ a, a < 262 ∨ 266 < a → a < 269 ∨ 280 ≤ a → m1 a = m a) ∧ m1 261 = m 261 :=
  ⟨fun a h1 h2 => f a (fun z => by have := hY a z; omega), f 261 (fun z => by have := hY 261 z; omega)⟩
/-- what stood ahead of fails, and fails itself, and what came behind -/
theorem MKb_of {k n : Nat} {X : Nat → Nat → F} {Y Z : Nat → F} {W : F} {m m0 m1 m' : M1} {Y0 Y1 : Nat → Prop} (f0 : Fr Y0 m m0) (h0 : ∀ a, Y0 a → 269 ≤ a ∧ a < 280) (hw : w1 m0 261 21 0 = m1) (f1 : Fr Y1 m1 m') (h1 : ∀ a, Y1 a → (262 ≤ a ∧ a ≤ 266) ∨ (269 ≤ a ∧ a < 280)) (ot : Ot k m1 m') (h5 : m' 262 k = nF n) (h6 : ∀ i, i < n → ∀ j, j < n → m' 263 (64 * k + 8 * i + j) = X i j) (h7 : ∀ i, i < n → m' 264 (8 * k + i) = Y i ∧ m' 265 (8 * k + i) = Z i) (h8 : m' 266 k = W) : MKb k n X Y Z W m m' := by
  obtain ⟨g1, g2⟩ := fr_out f1 h1
  have g3 : ∀ a, a < 269 ∨ 280 ≤ a → m0 a = m a := fun a ha => f0 a (fun z => by have := h0 a z; omega)
  refine ⟨fun a ha hb hc => ?_, fun y hy => ?_, ?_, ?_, h5, h6, h7, h8⟩
  · rw [g1 a hb hc, ← hw, w1_a ha, g3 a hc]
  · rw [congrFun g2 y, ← hw, w1_ne (fun z => hy z.2), congrFun (g3 261 (by omega)) y]
  · rw [congrFun g2 21, ← hw, w1_at]
  · exact Ot_trans (Ot_trans (Ot_fr f0 (fun a ha => by have := h0 a ha; omega)) (Ot_w hw Ot_rfl (by omega))) ot
theorem c_X10_system1 {d : Nat} {S : MC} {fz : Bool} {m : M1} {p : M2} (hd : 2 ≤ d) (n k : Nat) (hP : PI p) (hk : m 261 0 = nF k) (hk12 : k ≤ 12) (hk1 : k < 12) (hn : 1 ≤ n ∧ n ≤ 4) : Ct d k_X10_system S fz [.ref (261), .int (iI (((n : Nat) : Int)))] m p (fun v m' p' => v = some (.int (iI ((k : Nat) : Int))) ∧ p = p' ∧ MK k (n) (fun _ _ => 0) (fun _ => 0) (fun _ => 0) 0 m m') := by
  obtain ⟨d, rfl⟩ : ∃ e, d = e + 1 := ⟨d - 1, by omega⟩
  refine ct_go (lv := [some (.ref (261)), some (.int (iI (((n : Nat) : Int))))]) (Nat.le_of_ble_eq_true rfl) (okar_cons rfl (okar_cons rfl okar_nil)) rfl (fun Qr hQ => ?_)
  refine rw_blk lk_X10_system_0 ?_
  refine rw_of (fun rr hrr => q_aload_n rfl (q_iload_n rfl (q_iconst (q_iconst hrr)))) ?_
  obtain ⟨_, mm1, pp2, hV3, rfl, rfl, rfl⟩ := c_X10_isIn1 (S := S) (fz := fz) (m := m) (p := p) (d := d) (by omega) (((n : Nat) : Int)) (1) (4) (by omega) (by omega) (by omega)
  refine rw_of (fun rr hrr => q_invS hV3 rfl rfl (okar_cons rfl (okar_cons rfl (okar_cons rfl okar_nil))) (Nat.le_of_ble_eq_true rfl) hrr) ?_
  refine rw_if_ne ⟨by omega, by omega⟩ (t := 14) rfl (fun hc4 => ?_) (fun hc4 => ?_)
  · skip
    refine rw_blk lk_X10_system_14 ?_
    refine rw_of (fun rr hrr => q_aload_n rfl (q_getI (show SH 261 = (18, 0) from rfl) rfl (ki rfl hk (by omega)) (q_bipush rfl hrr))) ?_
    refine rw_icmp_ne ⟨by omega, by omega⟩ ⟨by omega, by omega⟩ (t := 27) rfl (fun hc5 => ?_) (fun hc5 => ?_)
    · skip
      refine rw_blk lk_X10_system_27 ?_
      refine rw_of (fun rr hrr => q_iconst hrr) ?_
      refine rw_blk lk_X10_system_28 ?_
      obtain ⟨_, mm6, pp7, hV8, rfl, rfl, hw8, hF8⟩ := c_X10_fails0 (S := S) (fz := fz) (m := m) (p := p) (d := d) (by omega) hP
      refine rw_of (fun rr hrr => q_invV hV8 (show SH 261 = (18, 0) from rfl) rfl rfl (okar_cons rfl okar_nil) (Nat.le_of_ble_eq_true rfl) hrr) ?_
      refine rw_if_eq ⟨by omega, by omega⟩ (t := 36) rfl (fun hc9 => ?_) (fun hc9 => ?_)
      · skip
        refine rw_blk lk_X10_system_36 ?_
        refine rw_of (fun rr hrr => q_aload_n rfl (q_aload_n rfl (q_getI (show SH 261 = (18, 0) from rfl) rfl (by rw [(show mm6 261 0 = m 261 0 from by rw [← hw8, w1_ne (by omega)]), hk, vF_nF (by omega)]) (q_iload_n rfl hrr)))) ?_
        obtain ⟨_, mm10, pp11, hV12, rfl, rfl, hF12, ho12, hd12, hA12, hb12, hc12⟩ := c_X10_begins (S := S) (fz := fz) (m := mm6) (p := p) (d := d) (by omega) (k) (n) hP (by omega) (by omega)
        refine rw_of (fun rr hrr => q_invV hV12 (show SH 261 = (18, 0) from rfl) rfl rfl (okar_cons rfl (okar_cons rfl okar_nil)) (Nat.le_of_ble_eq_true rfl) (q_aload_n rfl (q_dup rfl (q_getI (show SH 261 = (18, 0) from rfl) rfl (by rw [(show mm10 261 0 = mm6 261 0 from congrFun (hF12 261 (by show ¬ (262 ≤ 261 ∧ 261 ≤ 266); omega)) 0), (show mm6 261 0 = m 261 0 from by rw [← hw8, w1_ne (by omega)]), hk, vF_nF (by omega)]) (q_iconst (q_iadd (q_putI (xx := nF (k + 1)) (show SH 261 = (18, 0) from rfl) rfl rfl ((show _ = ((k + 1 : Nat) : Int) by omega).trans (vF_nF (by omega)).symm) hrr))))))) ?_
        generalize hm14 : w1 mm10 261 0 (nF (k + 1)) = mm13
        refine rw_of (fun rr hrr => q_aload_n rfl (q_getI (show SH 261 = (18, 0) from rfl) rfl (ki rfl (by rw [← hm14, w1_at]) (by omega)) (q_iconst (q_isub hrr)))) ?_
        refine rw_ret hQ (q_ireturn (Or.inl rfl)) ?_
        
        refine ⟨lvI (by omega), rfl, MK_end (MKb_of Fr_rfl (fun a (ha : False) => ha.elim) hw8 hF12 (fun a ha => by omega) (Ot_of ho12 hd12 hA12 hb12 hc12) ?_ ?_ ?_ ?_) hm14⟩
        · rw [ho12, if_pos rfl]
        · intro i hi j hj
          rw [hA12, if_pos (by omega)]
        · intro i hi
          rw [hb12, if_pos (by omega), hc12, if_pos (by omega)]
          exact ⟨rfl, rfl⟩
        · rw [hd12, if_pos rfl]
        
      · exfalso; omega
    · exfalso; omega
  · exfalso; omega
theorem c_X10_systemN {d : Nat} {S : MC} {fz : Bool} {m : M1} {p : M2} (hd : 2 ≤ d) (x : Int) (k : Nat) (hP : PI p) (hk : m 261 0 = nF k) (hk12 : k ≤ 12) (hr : (-2147483648 ≤ x ∧ x < 2147483648)) (h : x < 1 ∨ 4 < x) : Ct d k_X10_system S fz [.ref (261), .int (iI (x))] m p (fun v m' p' => v = some (.int (iI (0))) ∧ p = p' ∧ QMx 1 m m') := by
  obtain ⟨d, rfl⟩ : ∃ e, d = e + 1 := ⟨d - 1, by omega⟩
  refine ct_go (lv := [some (.ref (261)), some (.int (iI (x)))]) (Nat.le_of_ble_eq_true rfl) (okar_cons rfl (okar_cons rfl okar_nil)) rfl (fun Qr hQ => ?_)
  refine rw_blk lk_X10_system_0 ?_
  refine rw_of (fun rr hrr => q_aload_n rfl (q_iload_n rfl (q_iconst (q_iconst hrr)))) ?_
  obtain ⟨_, mm1, pp2, hV3, rfl, rfl, rfl⟩ := c_X10_isIn0 (S := S) (fz := fz) (m := m) (p := p) (d := d) (by omega) (x) (1) (4) (by omega) (by omega) (by omega)
  refine rw_of (fun rr hrr => q_invS hV3 rfl rfl (okar_cons rfl (okar_cons rfl (okar_cons rfl okar_nil))) (Nat.le_of_ble_eq_true rfl) hrr) ?_
  refine rw_if_ne ⟨by omega, by omega⟩ (t := 14) rfl (fun hc4 => ?_) (fun hc4 => ?_)
  · exfalso; omega
  · skip
    refine rw_of (fun rr hrr => q_iconst (q_goto (t := 28) rfl hrr)) ?_
    refine rw_blk lk_X10_system_28 ?_
    obtain ⟨_, mm5, pp6, hV7, rfl, rfl, hw7, hF7⟩ := c_X10_fails1 (S := S) (fz := fz) (m := m) (p := p) (d := d) (by omega) (1) hP (by omega)
    refine rw_of (fun rr hrr => q_invV hV7 (show SH 261 = (18, 0) from rfl) rfl rfl (okar_cons rfl okar_nil) (Nat.le_of_ble_eq_true rfl) hrr) ?_
    refine rw_if_eq ⟨by omega, by omega⟩ (t := 36) rfl (fun hc8 => ?_) (fun hc8 => ?_)
    · exfalso; omega
    · skip
      refine rw_of (fun rr hrr => q_iconst hrr) ?_
      refine rw_ret hQ (q_ireturn (Or.inl rfl)) ?_
      first
        | exact ⟨rfl, rfl, QMx_w hw7 rfl⟩
        | (exfalso; omega)
      
theorem c_X10_systemF {d : Nat} {S : MC} {fz : Bool} {m : M1} {p : M2} (hd : 2 ≤ d) (n k : Nat) (hP : PI p) (hk : m 261 0 = nF k) (hk12 : k ≤ 12) (hk1 : k = 12) (hn : 1 ≤ n ∧ n ≤ 4) : Ct d k_X10_system S fz [.ref (261), .int (iI (((n : Nat) : Int)))] m p (fun v m' p' => v = some (.int (iI (0))) ∧ p = p' ∧ QMx 2 m m') := by
  obtain ⟨d, rfl⟩ : ∃ e, d = e + 1 := ⟨d - 1, by omega⟩
  refine ct_go (lv := [some (.ref (261)), some (.int (iI (((n : Nat) : Int))))]) (Nat.le_of_ble_eq_true rfl) (okar_cons rfl (okar_cons rfl okar_nil)) rfl (fun Qr hQ => ?_)
  refine rw_blk lk_X10_system_0 ?_
  refine rw_of (fun rr hrr => q_aload_n rfl (q_iload_n rfl (q_iconst (q_iconst hrr)))) ?_
  obtain ⟨_, mm1, pp2, hV3, rfl, rfl, rfl⟩ := c_X10_isIn1 (S := S) (fz := fz) (m := m) (p := p) (d := d) (by omega) (((n : Nat) : Int)) (1) (4) (by omega) (by omega) (by omega)
  refine rw_of (fun rr hrr => q_invS hV3 rfl rfl (okar_cons rfl (okar_cons rfl (okar_cons rfl okar_nil))) (Nat.le_of_ble_eq_true rfl) hrr) ?_
  refine rw_if_ne ⟨by omega, by omega⟩ (t := 14) rfl (fun hc4 => ?_) (fun hc4 => ?_)
  · skip
    refine rw_blk lk_X10_system_14 ?_
    refine rw_of (fun rr hrr => q_aload_n rfl (q_getI (show SH 261 = (18, 0) from rfl) rfl (ki rfl hk (by omega)) (q_bipush rfl hrr))) ?_
    refine rw_icmp_ne ⟨by omega, by omega⟩ ⟨by omega, by omega⟩ (t := 27) rfl (fun hc5 => ?_) (fun hc5 => ?_)
    · exfalso; omega
    · skip
      refine rw_of (fun rr hrr => q_iconst (q_goto (t := 28) rfl hrr)) ?_
      refine rw_blk lk_X10_system_28 ?_
      obtain ⟨_, mm6, pp7, hV8, rfl, rfl, hw8, hF8⟩ := c_X10_fails1 (S := S) (fz := fz) (m := m) (p := p) (d := d) (by omega) (2) hP (by omega)
      refine rw_of (fun rr hrr => q_invV hV8 (show SH 261 = (18, 0) from rfl) rfl rfl (okar_cons rfl okar_nil) (Nat.le_of_ble_eq_true rfl) hrr) ?_
      refine rw_if_eq ⟨by omega, by omega⟩ (t := 36) rfl (fun hc9 => ?_) (fun hc9 => ?_)
      · exfalso; omega
      · skip
        refine rw_of (fun rr hrr => q_iconst hrr) ?_
        refine rw_ret hQ (q_ireturn (Or.inl rfl)) ?_
        first
          | exact ⟨rfl, rfl, QMx_w hw8 rfl⟩
          | (exfalso; omega)
        
  · exfalso; omega
theorem c_X10_set0 {d : Nat} {S : MC} {fz : Bool} {m : M1} {p : M2} (hd : 4 ≤ d) (s k n : Nat) (i : Nat) (j : Nat) (x : Int) (hP : PI p) (hk : m 261 0 = nF k) (hk12 : k ≤ 12) (hsk : s < k) (hm : m 262 s = nF n) (hn0 : 1 ≤ n) (hn : n ≤ 8) (hi : i < n) (hj : j < n) (hx : -10007 < x ∧ x < 10007) : Ct d k_X10_set S fz [.ref (261), .int (iI (((s : Nat) : Int))), .int (iI (0)), .int (iI (((i : Nat) : Int))), .int (iI (((j : Nat) : Int))), .int (iI (x))] m p (fun v m' p' => v = some (.int (iI (vF (m 263 (64 * s + 8 * i + j))))) ∧ p = p' ∧ w1 (w1 m 261 21 0) 263 (64 * s + 8 * i + j) (toF x) = m') := by
  obtain ⟨d, rfl⟩ : ∃ e, d = e + 1 := ⟨d - 1, by omega⟩
  refine ct_go (lv := [some (.ref (261)), some (.int (iI (((s : Nat) : Int)))), some (.int (iI (0))), some (.int (iI (((i : Nat) : Int)))), some (.int (iI (((j : Nat) : Int)))), some (.int (iI (x))), none, none]) (Nat.le_of_ble_eq_true rfl) (okar_cons rfl (okar_cons rfl (okar_cons rfl (okar_cons rfl (okar_cons rfl (okar_cons rfl okar_nil)))))) rfl (fun Qr hQ => ?_)
  refine rw_blk lk_X10_set_0 ?_
  refine rw_of (fun rr hrr => q_aload_n rfl (q_aload_n rfl (q_iload_n rfl (q_iload_n rfl (q_iload_n rfl (q_iload rfl hrr)))))) ?_
  obtain ⟨_, mm1, pp2, hV3, rfl, rfl, rfl⟩ := c_X10_isPlace0_11 (S := S) (fz := fz) (m := m) (p := p) (d := d) (by omega) (s) (k) (n) (((i : Nat) : Int)) (((j : Nat) : Int)) hP hk (by omega) (by omega) hm (by omega) (by omega) (by omega) (by omega) (by omega) (by omega)
  refine rw_of (fun rr hrr => q_invV hV3 (show SH 261 = (18, 0) from rfl) rfl rfl (okar_cons rfl (okar_cons rfl (okar_cons rfl (okar_cons rfl okar_nil)))) (Nat.le_of_ble_eq_true rfl) hrr) ?_
  refine rw_if_ne ⟨by omega, by omega⟩ (t := 17) rfl (fun hc4 => ?_) (fun hc4 => ?_)
  · skip
    refine rw_blk lk_X10_set_17 ?_
    refine rw_of (fun rr hrr => q_iload rfl hrr) ?_
    obtain ⟨_, mm5, pp6, hV7, rfl, rfl, rfl⟩ := c_X10_isValue1 (S := S) (fz := fz) (m := m) (p := p) (d := d) (by omega) (x) (by omega) (by omega)
    refine rw_of (fun rr hrr => q_invS hV7 rfl rfl (okar_cons rfl okar_nil) (Nat.le_of_ble_eq_true rfl) hrr) ?_
    refine rw_if_eq ⟨by omega, by omega⟩ (t := 29) rfl (fun hc8 => ?_) (fun hc8 => ?_)
    · exfalso; omega
    · skip
      refine rw_of (fun rr hrr => q_iconst (q_goto (t := 30) rfl hrr)) ?_
      refine rw_blk lk_X10_set_30 ?_
      obtain ⟨_, mm9, pp10, hV11, rfl, rfl, hw11, hF11⟩ := c_X10_fails0 (S := S) (fz := fz) (m := m) (p := p) (d := d) (by omega) hP
      refine rw_of (fun rr hrr => q_invV hV11 (show SH 261 = (18, 0) from rfl) rfl rfl (okar_cons rfl okar_nil) (Nat.le_of_ble_eq_true rfl) hrr) ?_
      refine rw_if_eq ⟨by omega, by omega⟩ (t := 38) rfl (fun hc12 => ?_) (fun hc12 => ?_)
      · skip
        refine rw_blk lk_X10_set_38 ?_
        refine rw_of (fun rr hrr => q_aload_n rfl (q_iload_n rfl (q_iload_n rfl (q_iload_n rfl (q_iload rfl hrr))))) ?_
        obtain ⟨_, mm13, pp14, hV15, rfl, rfl, rfl⟩ := c_X10_told0 (S := S) (fz := fz) (m := mm9) (p := p) (d := d) (by omega) (s) (i) (j) hP (by omega) (by omega) (by omega)
        refine rw_of (fun rr hrr => q_invV hV15 (show SH 261 = (18, 0) from rfl) rfl rfl (okar_cons rfl (okar_cons rfl (okar_cons rfl (okar_cons rfl okar_nil)))) (Nat.le_of_ble_eq_true rfl) (q_istore (Nat.le_of_ble_eq_true rfl) rfl (q_iload rfl hrr))) ?_
        obtain ⟨_, mm16, pp17, hV18, rfl, rfl, rfl⟩ := c_X10_rest (S := S) (fz := fz) (m := mm9) (p := p) (d := d) (by omega) (x) (by omega)
        refine rw_of (fun rr hrr => q_invS hV18 rfl rfl (okar_cons rfl okar_nil) (Nat.le_of_ble_eq_true rfl) (q_istore (Nat.le_of_ble_eq_true rfl) rfl (q_iload_n rfl (q_table (v := iI 0) (t := 84) rfl hrr)))) ?_
        refine rw_blk lk_X10_set_84 ?_
        refine rw_of (fun rr hrr => q_aload_n rfl (q_getR (show SH 261 = (18, 0) from rfl) rfl (pt_261_2 hP) (q_bipush rfl (q_iload_n rfl (q_imul (q_bipush rfl (q_iload_n rfl (q_imul (q_iadd (q_iload rfl (q_iadd (q_iload rfl (q_iast (j := 64 * s + (8 * i) + j) (xx := toF x) (show SH 263 = (1, 832) from rfl) (by omega) (by omega) rfl hrr))))))))))))) ?_
        generalize hm20 : w1 mm9 263 (64 * s + (8 * i) + j) (toF x) = mm19
        refine rw_of (fun rr hrr => q_goto (t := 147) rfl hrr) ?_
        refine rw_blk lk_X10_set_147 ?_
        refine rw_of (fun rr hrr => q_iload rfl hrr) ?_
        exact rw_ret hQ (q_ireturn (Or.inl rfl)) (by exact ⟨lvI (congrArg vF (congrFun (hF11 263 (by omega)) _)), rfl, by rw [hw11, hm20]⟩)
      · exfalso; omega
  · exfalso; omega
theorem c_X10_setV0 {d : Nat} {S : MC} {fz : Bool} {m : M1} {p : M2} (hd : 4 ≤ d) (s k n : Nat) (i : Nat) (j : Nat) (x : Int) (hP : PI p) (hk : m 261 0 = nF k) (hk12 : k ≤ 12) (hsk : s < k) (hm : m 262 s = nF n) (hn0 : 1 ≤ n) (hn : n ≤ 8) (hi : i < n) (hj : j < n) (hr : (-2147483648 ≤ x ∧ x < 2147483648)) (hx : x ≤ -10007 ∨ 10007 ≤ x) : Ct d k_X10_set S fz [.ref (261), .int (iI (((s : Nat) : Int))), .int (iI (0)), .int (iI (((i : Nat) : Int))), .int (iI (((j : Nat) : Int))), .int (iI (x))] m p (fun v m' p' => v = some (.int (iI (0))) ∧ p = p' ∧ QMx 2 m m') := by
  obtain ⟨d, rfl⟩ : ∃ e, d = e + 1 := ⟨d - 1, by omega⟩
  refine ct_go (lv := [some (.ref (261)), some (.int (iI (((s : Nat) : Int)))), some (.int (iI (0))), some (.int (iI (((i : Nat) : Int)))), some (.int (iI (((j : Nat) : Int)))), some (.int (iI (x))), none, none]) (Nat.le_of_ble_eq_true rfl) (okar_cons rfl (okar_cons rfl (okar_cons rfl (okar_cons rfl (okar_cons rfl (okar_cons rfl okar_nil)))))) rfl (fun Qr hQ => ?_)
  refine rw_blk lk_X10_set_0 ?_
  refine rw_of (fun rr hrr => q_aload_n rfl (q_aload_n rfl (q_iload_n rfl (q_iload_n rfl (q_iload_n rfl (q_iload rfl hrr)))))) ?_
  obtain ⟨_, mm1, pp2, hV3, rfl, rfl, rfl⟩ := c_X10_isPlace0_11 (S := S) (fz := fz) (m := m) (p := p) (d := d) (by omega) (s) (k) (n) (((i : Nat) : Int)) (((j : Nat) : Int)) hP hk (by omega) (by omega) hm (by omega) (by omega) (by omega) (by omega) (by omega) (by omega)
  refine rw_of (fun rr hrr => q_invV hV3 (show SH 261 = (18, 0) from rfl) rfl rfl (okar_cons rfl (okar_cons rfl (okar_cons rfl (okar_cons rfl okar_nil)))) (Nat.le_of_ble_eq_true rfl) hrr) ?_
  refine rw_if_ne ⟨by omega, by omega⟩ (t := 17) rfl (fun hc4 => ?_) (fun hc4 => ?_)
  · skip
    refine rw_blk lk_X10_set_17 ?_
    refine rw_of (fun rr hrr => q_iload rfl hrr) ?_
    obtain ⟨_, mm5, pp6, hV7, rfl, rfl, rfl⟩ := c_X10_isValue0 (S := S) (fz := fz) (m := m) (p := p) (d := d) (by omega) (x) (by omega) (by omega)
    refine rw_of (fun rr hrr => q_invS hV7 rfl rfl (okar_cons rfl okar_nil) (Nat.le_of_ble_eq_true rfl) hrr) ?_
    refine rw_if_eq ⟨by omega, by omega⟩ (t := 29) rfl (fun hc8 => ?_) (fun hc8 => ?_)
    · skip
      refine rw_blk lk_X10_set_29 ?_
      refine rw_of (fun rr hrr => q_iconst hrr) ?_
      refine rw_blk lk_X10_set_30 ?_
      obtain ⟨_, mm9, pp10, hV11, rfl, rfl, hw11, hF11⟩ := c_X10_fails1 (S := S) (fz := fz) (m := m) (p := p) (d := d) (by omega) (2) hP (by omega)
      refine rw_of (fun rr hrr => q_invV hV11 (show SH 261 = (18, 0) from rfl) rfl rfl (okar_cons rfl okar_nil) (Nat.le_of_ble_eq_true rfl) hrr) ?_
      refine rw_if_eq ⟨by omega, by omega⟩ (t := 38) rfl (fun hc12 => ?_) (fun hc12 => ?_)
      · exfalso; omega
      · skip
        refine rw_of (fun rr hrr => q_iconst hrr) ?_
        refine rw_ret hQ (q_ireturn (Or.inl rfl)) ?_
        first
          | exact ⟨rfl, rfl, QMx_w hw11 rfl⟩
          | (exfalso; omega)
        
    · exfalso; omega
  · exfalso; omega
theorem c_X10_set0_10 {d : Nat} {S : MC} {fz : Bool} {m : M1} {p : M2} (hd : 4 ≤ d) (s k n : Nat) (i j x : Int) (hP : PI p) (hk : m 261 0 = nF k) (hk12 : k ≤ 12) (hsk : s < k) (hm : m 262 s = nF n) (hn0 : 1 ≤ n) (hn : n ≤ 8) (hri : (-2147483648 ≤ i ∧ i < 2147483648)) (hrj : (-2147483648 ≤ j ∧ j < 2147483648)) (hi : 0 ≤ i ∧ i < n) (hj : j < 0 ∨ n ≤ j) : Ct d k_X10_set S fz [.ref (261), .int (iI (((s : Nat) : Int))), .int (iI (0)), .int (iI (i)), .int (iI (j)), .int (iI (x))] m p (fun v m' p' => v = some (.int (iI (0))) ∧ p = p' ∧ QMx 1 m m') := by
  obtain ⟨d, rfl⟩ : ∃ e, d = e + 1 := ⟨d - 1, by omega⟩
  refine ct_go (lv := [some (.ref (261)), some (.int (iI (((s : Nat) : Int)))), some (.int (iI (0))), some (.int (iI (i))), some (.int (iI (j))), some (.int (iI (x))), none, none]) (Nat.le_of_ble_eq_true rfl) (okar_cons rfl (okar_cons rfl (okar_cons rfl (okar_cons rfl (okar_cons rfl (okar_cons rfl okar_nil)))))) rfl (fun Qr hQ => ?_)
  refine rw_blk lk_X10_set_0 ?_
  refine rw_of (fun rr hrr => q_aload_n rfl (q_aload_n rfl (q_iload_n rfl (q_iload_n rfl (q_iload_n rfl (q_iload rfl hrr)))))) ?_
  obtain ⟨_, mm1, pp2, hV3, rfl, rfl, rfl⟩ := c_X10_isPlace0_10 (S := S) (fz := fz) (m := m) (p := p) (d := d) (by omega) (s) (k) (n) (i) (j) hP hk (by omega) (by omega) hm (by omega) (by omega) (by omega) (by omega) (by omega) (by omega)
  refine rw_of (fun rr hrr => q_invV hV3 (show SH 261 = (18, 0) from rfl) rfl rfl (okar_cons rfl (okar_cons rfl (okar_cons rfl (okar_cons rfl okar_nil)))) (Nat.le_of_ble_eq_true rfl) hrr) ?_
  refine rw_if_ne ⟨by omega, by omega⟩ (t := 17) rfl (fun hc4 => ?_) (fun hc4 => ?_)
  · exfalso; omega
  · skip
    refine rw_of (fun rr hrr => q_iconst (q_goto (t := 30) rfl hrr)) ?_
    refine rw_blk lk_X10_set_30 ?_
    obtain ⟨_, mm5, pp6, hV7, rfl, rfl, hw7, hF7⟩ := c_X10_fails1 (S := S) (fz := fz) (m := m) (p := p) (d := d) (by omega) (1) hP (by omega)
    refine rw_of (fun rr hrr => q_invV hV7 (show SH 261 = (18, 0) from rfl) rfl rfl (okar_cons rfl okar_nil) (Nat.le_of_ble_eq_true rfl) hrr) ?_
    refine rw_if_eq ⟨by omega, by omega⟩ (t := 38) rfl (fun hc8 => ?_) (fun hc8 => ?_)
    · exfalso; omega
    · skip
      refine rw_of (fun rr hrr => q_iconst hrr) ?_
      refine rw_ret hQ (q_ireturn (Or.inl rfl)) ?_
      first
        | exact ⟨rfl, rfl, QMx_w hw7 rfl⟩
        | (exfalso; omega)
      
theorem c_X10_set0_01 {d : Nat} {S : MC} {fz : Bool} {m : M1} {p : M2} (hd : 4 ≤ d) (s k n : Nat) (i j x : Int) (hP : PI p) (hk : m 261 0 = nF k) (hk12 : k ≤ 12) (hsk : s < k) (hm : m 262 s = nF n) (hn0 : 1 ≤ n) (hn : n ≤ 8) (hri : (-2147483648 ≤ i ∧ i < 2147483648)) (hrj : (-2147483648 ≤ j ∧ j < 2147483648)) (hi : i < 0 ∨ n ≤ i) (hj : 0 ≤ j ∧ j < n) : Ct d k_X10_set S fz [.ref (261), .int (iI (((s : Nat) : Int))), .int (iI (0)), .int (iI (i)), .int (iI (j)), .int (iI (x))] m p (fun v m' p' => v = some (.int (iI (0))) ∧ p = p' ∧ QMx 1 m m') := by
  obtain ⟨d, rfl⟩ : ∃ e, d = e + 1 := ⟨d - 1, by omega⟩
  refine ct_go (lv := [some (.ref (261)), some (.int (iI (((s : Nat) : Int)))), some (.int (iI (0))), some (.int (iI (i))), some (.int (iI (j))), some (.int (iI (x))), none, none]) (Nat.le_of_ble_eq_true rfl) (okar_cons rfl (okar_cons rfl (okar_cons rfl (okar_cons rfl (okar_cons rfl (okar_cons rfl okar_nil)))))) rfl (fun Qr hQ => ?_)
  refine rw_blk lk_X10_set_0 ?_
  refine rw_of (fun rr hrr => q_aload_n rfl (q_aload_n rfl (q_iload_n rfl (q_iload_n rfl (q_iload_n rfl (q_iload rfl hrr)))))) ?_
  obtain ⟨_, mm1, pp2, hV3, rfl, rfl, rfl⟩ := c_X10_isPlace0_01 (S := S) (fz := fz) (m := m) (p := p) (d := d) (by omega) (s) (k) (n) (i) (j) hP hk (by omega) (by omega) hm (by omega) (by omega) (by omega) (by omega) (by omega) (by omega)
  refine rw_of (fun rr hrr => q_invV hV3 (show SH 261 = (18, 0) from rfl) rfl rfl (okar_cons rfl (okar_cons rfl (okar_cons rfl (okar_cons rfl okar_nil)))) (Nat.le_of_ble_eq_true rfl) hrr) ?_
  refine rw_if_ne ⟨by omega, by omega⟩ (t := 17) rfl (fun hc4 => ?_) (fun hc4 => ?_)
  · exfalso; omega
  · skip
    refine rw_of (fun rr hrr => q_iconst (q_goto (t := 30) rfl hrr)) ?_
    refine rw_blk lk_X10_set_30 ?_
    obtain ⟨_, mm5, pp6, hV7, rfl, rfl, hw7, hF7⟩ := c_X10_fails1 (S := S) (fz := fz) (m := m) (p := p) (d := d) (by omega) (1) hP (by omega)
    refine rw_of (fun rr hrr => q_invV hV7 (show SH 261 = (18, 0) from rfl) rfl rfl (okar_cons rfl okar_nil) (Nat.le_of_ble_eq_true rfl) hrr) ?_
    refine rw_if_eq ⟨by omega, by omega⟩ (t := 38) rfl (fun hc8 => ?_) (fun hc8 => ?_)
    · exfalso; omega
    · skip
      refine rw_of (fun rr hrr => q_iconst hrr) ?_
      refine rw_ret hQ (q_ireturn (Or.inl rfl)) ?_
      first
        | exact ⟨rfl, rfl, QMx_w hw7 rfl⟩
        | (exfalso; omega)
      
theorem c_X10_set0_00 {d : Nat} {S : MC} {fz : Bool} {m : M1} {p : M2} (hd : 4 ≤ d) (s k n : Nat) (i j x : Int) (hP : PI p) (hk : m 261 0 = nF k) (hk12 : k ≤ 12) (hsk : s < k) (hm : m 262 s = nF n) (hn0 : 1 ≤ n) (hn : n ≤ 8) (hri : (-2147483648 ≤ i ∧ i < 2147483648)) (hrj : (-2147483648 ≤ j ∧ j < 2147483648)) (hi : i < 0 ∨ n ≤ i) (hj : j < 0 ∨ n ≤ j) : Ct d k_X10_set S fz [.ref (261), .int (iI (((s : Nat) : Int))), .int (iI (0)), .int (iI (i)), .int (iI (j)), .int (iI (x))] m p (fun v m' p' => v = some (.int (iI (0))) ∧ p = p' ∧ QMx 1 m m') := by
  obtain ⟨d, rfl⟩ : ∃ e, d = e + 1 := ⟨d - 1, by omega⟩
  refine ct_go (lv := [some (.ref (261)), some (.int (iI (((s : Nat) : Int)))), some (.int (iI (0))), some (.int (iI (i))), some (.int (iI (j))), some (.int (iI (x))), none, none]) (Nat.le_of_ble_eq_true rfl) (okar_cons rfl (okar_cons rfl (okar_cons rfl (okar_cons rfl (okar_cons rfl (okar_cons rfl okar_nil)))))) rfl (fun Qr hQ => ?_)
  refine rw_blk lk_X10_set_0 ?_
  refine rw_of (fun rr hrr => q_aload_n rfl (q_aload_n rfl (q_iload_n rfl (q_iload_n rfl (q_iload_n rfl (q_iload rfl hrr)))))) ?_
  obtain ⟨_, mm1, pp2, hV3, rfl, rfl, rfl⟩ := c_X10_isPlace0_00 (S := S) (fz := fz) (m := m) (p := p) (d := d) (by omega) (s) (k) (n) (i) (j) hP hk (by omega) (by omega) hm (by omega) (by omega) (by omega) (by omega) (by omega) (by omega)
  refine rw_of (fun rr hrr => q_invV hV3 (show SH 261 = (18, 0) from rfl) rfl rfl (okar_cons rfl (okar_cons rfl (okar_cons rfl (okar_cons rfl okar_nil)))) (Nat.le_of_ble_eq_true rfl) hrr) ?_
  refine rw_if_ne ⟨by omega, by omega⟩ (t := 17) rfl (fun hc4 => ?_) (fun hc4 => ?_)
  · exfalso; omega
  · skip
    refine rw_of (fun rr hrr => q_iconst (q_goto (t := 30) rfl hrr)) ?_
    refine rw_blk lk_X10_set_30 ?_
    obtain ⟨_, mm5, pp6, hV7, rfl, rfl, hw7, hF7⟩ := c_X10_fails1 (S := S) (fz := fz) (m := m) (p := p) (d := d) (by omega) (1) hP (by omega)
    refine rw_of (fun rr hrr => q_invV hV7 (show SH 261 = (18, 0) from rfl) rfl rfl (okar_cons rfl okar_nil) (Nat.le_of_ble_eq_true rfl) hrr) ?_
    refine rw_if_eq ⟨by omega, by omega⟩ (t := 38) rfl (fun hc8 => ?_) (fun hc8 => ?_)
    · exfalso; omega
    · skip
      refine rw_of (fun rr hrr => q_iconst hrr) ?_
      refine rw_ret hQ (q_ireturn (Or.inl rfl)) ?_
      first
        | exact ⟨rfl, rfl, QMx_w hw7 rfl⟩
        | (exfalso; omega)
      
theorem c_X10_set1 {d : Nat} {S : MC} {fz : Bool} {m : M1} {p : M2} (hd : 4 ≤ d) (s k n : Nat) (i : Nat) (j : Int) (x : Int) (hP : PI p) (hk : m 261 0 = nF k) (hk12 : k ≤ 12) (hsk : s < k) (hm : m 262 s = nF n) (hn0 : 1 ≤ n) (hn : n ≤ 8) (hi : i < n) (hrj : (-2147483648 ≤ j ∧ j < 2147483648)) (hx : -10007 < x ∧ x < 10007) : Ct d k_X10_set S fz [.ref (261), .int (iI (((s : Nat) : Int))), .int (iI (1)), .int (iI (((i : Nat) : Int))), .int (iI (j)), .int (iI (x))] m p (fun v m' p' => v = some (.int (iI (vF (m 264 (8 * s + i))))) ∧ p = p' ∧ w1 (w1 m 261 21 0) 264 (8 * s + i) (toF x) = m') := by
  obtain ⟨d, rfl⟩ : ∃ e, d = e + 1 := ⟨d - 1, by omega⟩
  refine ct_go (lv := [some (.ref (261)), some (.int (iI (((s : Nat) : Int)))), some (.int (iI (1))), some (.int (iI (((i : Nat) : Int)))), some (.int (iI (j))), some (.int (iI (x))), none, none]) (Nat.le_of_ble_eq_true rfl) (okar_cons rfl (okar_cons rfl (okar_cons rfl (okar_cons rfl (okar_cons rfl (okar_cons rfl okar_nil)))))) rfl (fun Qr hQ => ?_)
  refine rw_blk lk_X10_set_0 ?_
  refine rw_of (fun rr hrr => q_aload_n rfl (q_aload_n rfl (q_iload_n rfl (q_iload_n rfl (q_iload_n rfl (q_iload rfl hrr)))))) ?_
  obtain ⟨_, mm1, pp2, hV3, rfl, rfl, rfl⟩ := c_X10_isPlace1_11 (S := S) (fz := fz) (m := m) (p := p) (d := d) (by omega) (s) (k) (n) (((i : Nat) : Int)) (j) hP hk (by omega) (by omega) hm (by omega) (by omega) (by omega) (by omega) (by omega)
  refine rw_of (fun rr hrr => q_invV hV3 (show SH 261 = (18, 0) from rfl) rfl rfl (okar_cons rfl (okar_cons rfl (okar_cons rfl (okar_cons rfl okar_nil)))) (Nat.le_of_ble_eq_true rfl) hrr) ?_
  refine rw_if_ne ⟨by omega, by omega⟩ (t := 17) rfl (fun hc4 => ?_) (fun hc4 => ?_)
  · skip
    refine rw_blk lk_X10_set_17 ?_
    refine rw_of (fun rr hrr => q_iload rfl hrr) ?_
    obtain ⟨_, mm5, pp6, hV7, rfl, rfl, rfl⟩ := c_X10_isValue1 (S := S) (fz := fz) (m := m) (p := p) (d := d) (by omega) (x) (by omega) (by omega)
    refine rw_of (fun rr hrr => q_invS hV7 rfl rfl (okar_cons rfl okar_nil) (Nat.le_of_ble_eq_true rfl) hrr) ?_
    refine rw_if_eq ⟨by omega, by omega⟩ (t := 29) rfl (fun hc8 => ?_) (fun hc8 => ?_)
    · exfalso; omega
    · skip
      refine rw_of (fun rr hrr => q_iconst (q_goto (t := 30) rfl hrr)) ?_
      refine rw_blk lk_X10_set_30 ?_
      obtain ⟨_, mm9, pp10, hV11, rfl, rfl, hw11, hF11⟩ := c_X10_fails0 (S := S) (fz := fz) (m := m) (p := p) (d := d) (by omega) hP
      refine rw_of (fun rr hrr => q_invV hV11 (show SH 261 = (18, 0) from rfl) rfl rfl (okar_cons rfl okar_nil) (Nat.le_of_ble_eq_true rfl) hrr) ?_
      refine rw_if_eq ⟨by omega, by omega⟩ (t := 38) rfl (fun hc12 => ?_) (fun hc12 => ?_)
      · skip
        refine rw_blk lk_X10_set_38 ?_
        refine rw_of (fun rr hrr => q_aload_n rfl (q_iload_n rfl (q_iload_n rfl (q_iload_n rfl (q_iload rfl hrr))))) ?_
        obtain ⟨_, mm13, pp14, hV15, rfl, rfl, rfl⟩ := c_X10_told1 (S := S) (fz := fz) (m := mm9) (p := p) (d := d) (by omega) (s) (i) (j) hP (by omega) (by omega)
        refine rw_of (fun rr hrr => q_invV hV15 (show SH 261 = (18, 0) from rfl) rfl rfl (okar_cons rfl (okar_cons rfl (okar_cons rfl (okar_cons rfl okar_nil)))) (Nat.le_of_ble_eq_true rfl) (q_istore (Nat.le_of_ble_eq_true rfl) rfl (q_iload rfl hrr))) ?_
        obtain ⟨_, mm16, pp17, hV18, rfl, rfl, rfl⟩ := c_X10_rest (S := S) (fz := fz) (m := mm9) (p := p) (d := d) (by omega) (x) (by omega)
        refine rw_of (fun rr hrr => q_invS hV18 rfl rfl (okar_cons rfl okar_nil) (Nat.le_of_ble_eq_true rfl) (q_istore (Nat.le_of_ble_eq_true rfl) rfl (q_iload_n rfl (q_table (v := iI 1) (t := 106) rfl hrr)))) ?_
        refine rw_blk lk_X10_set_106 ?_
        refine rw_of (fun rr hrr => q_aload_n rfl (q_getR (show SH 261 = (18, 0) from rfl) rfl (pt_261_3 hP) (q_bipush rfl (q_iload_n rfl (q_imul (q_iload_n rfl (q_iadd (q_iload rfl (q_iast (j := 8 * s + i) (xx := toF x) (show SH 264 = (1, 104) from rfl) (by omega) (by omega) rfl hrr))))))))) ?_
        generalize hm20 : w1 mm9 264 (8 * s + i) (toF x) = mm19
        refine rw_of (fun rr hrr => q_goto (t := 147) rfl hrr) ?_
        refine rw_blk lk_X10_set_147 ?_
        refine rw_of (fun rr hrr => q_iload rfl hrr) ?_
        exact rw_ret hQ (q_ireturn (Or.inl rfl)) (by exact ⟨lvI (congrArg vF (congrFun (hF11 264 (by omega)) _)), rfl, by rw [hw11, hm20]⟩)
      · exfalso; omega
  · exfalso; omega
theorem c_X10_setV1 {d : Nat} {S : MC} {fz : Bool} {m : M1} {p : M2} (hd : 4 ≤ d) (s k n : Nat) (i : Nat) (j : Int) (x : Int) (hP : PI p) (hk : m 261 0 = nF k) (hk12 : k ≤ 12) (hsk : s < k) (hm : m 262 s = nF n) (hn0 : 1 ≤ n) (hn : n ≤ 8) (hi : i < n) (hrj : (-2147483648 ≤ j ∧ j < 2147483648)) (hr : (-2147483648 ≤ x ∧ x < 2147483648)) (hx : x ≤ -10007 ∨ 10007 ≤ x) : Ct d k_X10_set S fz [.ref (261), .int (iI (((s : Nat) : Int))), .int (iI (1)), .int (iI (((i : Nat) : Int))), .int (iI (j)), .int (iI (x))] m p (fun v m' p' => v = some (.int (iI (0))) ∧ p = p' ∧ QMx 2 m m') := by
  obtain ⟨d, rfl⟩ : ∃ e, d = e + 1 := ⟨d - 1, by omega⟩
  refine ct_go (lv := [some (.ref (261)), some (.int (iI (((s : Nat) : Int)))), some (.int (iI (1))), some (.int (iI (((i : Nat) : Int)))), some (.int (iI (j))), some (.int (iI (x))), none, none]) (Nat.le_of_ble_eq_true rfl) (okar_cons rfl (okar_cons rfl (okar_cons rfl (okar_cons rfl (okar_cons rfl (okar_cons rfl okar_nil)))))) rfl (fun Qr hQ => ?_)
  refine rw_blk lk_X10_set_0 ?_
  refine rw_of (fun rr hrr => q_aload_n rfl (q_aload_n rfl (q_iload_n rfl (q_iload_n rfl (q_iload_n rfl (q_iload rfl hrr)))))) ?_
  obtain ⟨_, mm1, pp2, hV3, rfl, rfl, rfl⟩ := c_X10_isPlace1_11 (S := S) (fz := fz) (m := m) (p := p) (d := d) (by omega) (s) (k) (n) (((i : Nat) : Int)) (j) hP hk (by omega) (by omega) hm (by omega) (by omega) (by omega) (by omega) (by omega)
  refine rw_of (fun rr hrr => q_invV hV3 (show SH 261 = (18, 0) from rfl) rfl rfl (okar_cons rfl (okar_cons rfl (okar_cons rfl (okar_cons rfl okar_nil)))) (Nat.le_of_ble_eq_true rfl) hrr) ?_
  refine rw_if_ne ⟨by omega, by omega⟩ (t := 17) rfl (fun hc4 => ?_) (fun hc4 => ?_)
  · skip
    refine rw_blk lk_X10_set_17 ?_
    refine rw_of (fun rr hrr => q_iload rfl hrr) ?_
    obtain ⟨_, mm5, pp6, hV7, rfl, rfl, rfl⟩ := c_X10_isValue0 (S := S) (fz := fz) (m := m) (p := p) (d := d) (by omega) (x) (by omega) (by omega)
    refine rw_of (fun rr hrr => q_invS hV7 rfl rfl (okar_cons rfl okar_nil) (Nat.le_of_ble_eq_true rfl) hrr) ?_
    refine rw_if_eq ⟨by omega, by omega⟩ (t := 29) rfl (fun hc8 => ?_) (fun hc8 => ?_)
    · skip
      refine rw_blk lk_X10_set_29 ?_
      refine rw_of (fun rr hrr => q_iconst hrr) ?_
      refine rw_blk lk_X10_set_30 ?_
      obtain ⟨_, mm9, pp10, hV11, rfl, rfl, hw11, hF11⟩ := c_X10_fails1 (S := S) (fz := fz) (m := m) (p := p) (d := d) (by omega) (2) hP (by omega)
      refine rw_of (fun rr hrr => q_invV hV11 (show SH 261 = (18, 0) from rfl) rfl rfl (okar_cons rfl okar_nil) (Nat.le_of_ble_eq_true rfl) hrr) ?_
      refine rw_if_eq ⟨by omega, by omega⟩ (t := 38) rfl (fun hc12 => ?_) (fun hc12 => ?_)
      · exfalso; omega
      · skip
        refine rw_of (fun rr hrr => q_iconst hrr) ?_
        refine rw_ret hQ (q_ireturn (Or.inl rfl)) ?_
        first
          | exact ⟨rfl, rfl, QMx_w hw11 rfl⟩
          | (exfalso; omega)
        
    · exfalso; omega
  · exfalso; omega
theorem c_X10_set1_01 {d : Nat} {S : MC} {fz : Bool} {m : M1} {p : M2} (hd : 4 ≤ d) (s k n : Nat) (i j x : Int) (hP : PI p) (hk : m 261 0 = nF k) (hk12 : k ≤ 12) (hsk : s < k) (hm : m 262 s = nF n) (hn0 : 1 ≤ n) (hn : n ≤ 8) (hri : (-2147483648 ≤ i ∧ i < 2147483648)) (hrj : (-2147483648 ≤ j ∧ j < 2147483648)) (hi : i < 0 ∨ n ≤ i) : Ct d k_X10_set S fz [.ref (261), .int (iI (((s : Nat) : Int))), .int (iI (1)), .int (iI (i)), .int (iI (j)), .int (iI (x))] m p (fun v m' p' => v = some (.int (iI (0))) ∧ p = p' ∧ QMx 1 m m') := by
  obtain ⟨d, rfl⟩ : ∃ e, d = e + 1 := ⟨d - 1, by omega⟩
  refine ct_go (lv := [some (.ref (261)), some (.int (iI (((s : Nat) : Int)))), some (.int (iI (1))), some (.int (iI (i))), some (.int (iI (j))), some (.int (iI (x))), none, none]) (Nat.le_of_ble_eq_true rfl) (okar_cons rfl (okar_cons rfl (okar_cons rfl (okar_cons rfl (okar_cons rfl (okar_cons rfl okar_nil)))))) rfl (fun Qr hQ => ?_)
  refine rw_blk lk_X10_set_0 ?_
  refine rw_of (fun rr hrr => q_aload_n rfl (q_aload_n rfl (q_iload_n rfl (q_iload_n rfl (q_iload_n rfl (q_iload rfl hrr)))))) ?_
  obtain ⟨_, mm1, pp2, hV3, rfl, rfl, rfl⟩ := c_X10_isPlace1_01 (S := S) (fz := fz) (m := m) (p := p) (d := d) (by omega) (s) (k) (n) (i) (j) hP hk (by omega) (by omega) hm (by omega) (by omega) (by omega) (by omega) (by omega)
  refine rw_of (fun rr hrr => q_invV hV3 (show SH 261 = (18, 0) from rfl) rfl rfl (okar_cons rfl (okar_cons rfl (okar_cons rfl (okar_cons rfl okar_nil)))) (Nat.le_of_ble_eq_true rfl) hrr) ?_
  refine rw_if_ne ⟨by omega, by omega⟩ (t := 17) rfl (fun hc4 => ?_) (fun hc4 => ?_)
  · exfalso; omega
  · skip
    refine rw_of (fun rr hrr => q_iconst (q_goto (t := 30) rfl hrr)) ?_
    refine rw_blk lk_X10_set_30 ?_
    obtain ⟨_, mm5, pp6, hV7, rfl, rfl, hw7, hF7⟩ := c_X10_fails1 (S := S) (fz := fz) (m := m) (p := p) (d := d) (by omega) (1) hP (by omega)
    refine rw_of (fun rr hrr => q_invV hV7 (show SH 261 = (18, 0) from rfl) rfl rfl (okar_cons rfl okar_nil) (Nat.le_of_ble_eq_true rfl) hrr) ?_
    refine rw_if_eq ⟨by omega, by omega⟩ (t := 38) rfl (fun hc8 => ?_) (fun hc8 => ?_)
    · exfalso; omega
    · skip
      refine rw_of (fun rr hrr => q_iconst hrr) ?_
      refine rw_ret hQ (q_ireturn (Or.inl rfl)) ?_
      first
        | exact ⟨rfl, rfl, QMx_w hw7 rfl⟩
        | (exfalso; omega)
      
theorem c_X10_set2 {d : Nat} {S : MC} {fz : Bool} {m : M1} {p : M2} (hd : 4 ≤ d) (s k n : Nat) (i : Int) (j : Nat) (x : Int) (hP : PI p) (hk : m 261 0 = nF k) (hk12 : k ≤ 12) (hsk : s < k) (hm : m 262 s = nF n) (hn0 : 1 ≤ n) (hn : n ≤ 8) (hri : (-2147483648 ≤ i ∧ i < 2147483648)) (hj : j < n) (hx : -10007 < x ∧ x < 10007) : Ct d k_X10_set S fz [.ref (261), .int (iI (((s : Nat) : Int))), .int (iI (2)), .int (iI (i)), .int (iI (((j : Nat) : Int))), .int (iI (x))] m p (fun v m' p' => v = some (.int (iI (vF (m 265 (8 * s + j))))) ∧ p = p' ∧ w1 (w1 m 261 21 0) 265 (8 * s + j) (toF x) = m') := by
  obtain ⟨d, rfl⟩ : ∃ e, d = e + 1 := ⟨d - 1, by omega⟩
  refine ct_go (lv := [some (.ref (261)), some (.int (iI (((s : Nat) : Int)))), some (.int (iI (2))), some (.int (iI (i))), some (.int (iI (((j : Nat) : Int)))), some (.int (iI (x))), none, none]) (Nat.le_of_ble_eq_true rfl) (okar_cons rfl (okar_cons rfl (okar_cons rfl (okar_cons rfl (okar_cons rfl (okar_cons rfl okar_nil)))))) rfl (fun Qr hQ => ?_)
  refine rw_blk lk_X10_set_0 ?_
  refine rw_of (fun rr hrr => q_aload_n rfl (q_aload_n rfl (q_iload_n rfl (q_iload_n rfl (q_iload_n rfl (q_iload rfl hrr)))))) ?_
  obtain ⟨_, mm1, pp2, hV3, rfl, rfl, rfl⟩ := c_X10_isPlace2_11 (S := S) (fz := fz) (m := m) (p := p) (d := d) (by omega) (s) (k) (n) (i) (((j : Nat) : Int)) hP hk (by omega) (by omega) hm (by omega) (by omega) (by omega) (by omega) (by omega)
  refine rw_of (fun rr hrr => q_invV hV3 (show SH 261 = (18, 0) from rfl) rfl rfl (okar_cons rfl (okar_cons rfl (okar_cons rfl (okar_cons rfl okar_nil)))) (Nat.le_of_ble_eq_true rfl) hrr) ?_
  refine rw_if_ne ⟨by omega, by omega⟩ (t := 17) rfl (fun hc4 => ?_) (fun hc4 => ?_)
  · skip
    refine rw_blk lk_X10_set_17 ?_
    refine rw_of (fun rr hrr => q_iload rfl hrr) ?_
    obtain ⟨_, mm5, pp6, hV7, rfl, rfl, rfl⟩ := c_X10_isValue1 (S := S) (fz := fz) (m := m) (p := p) (d := d) (by omega) (x) (by omega) (by omega)
    refine rw_of (fun rr hrr => q_invS hV7 rfl rfl (okar_cons rfl okar_nil) (Nat.le_of_ble_eq_true rfl) hrr) ?_
    refine rw_if_eq ⟨by omega, by omega⟩ (t := 29) rfl (fun hc8 => ?_) (fun hc8 => ?_)
    · exfalso; omega
    · skip
      refine rw_of (fun rr hrr => q_iconst (q_goto (t := 30) rfl hrr)) ?_
      refine rw_blk lk_X10_set_30 ?_
      obtain ⟨_, mm9, pp10, hV11, rfl, rfl, hw11, hF11⟩ := c_X10_fails0 (S := S) (fz := fz) (m := m) (p := p) (d := d) (by omega) hP
      refine rw_of (fun rr hrr => q_invV hV11 (show SH 261 = (18, 0) from rfl) rfl rfl (okar_cons rfl okar_nil) (Nat.le_of_ble_eq_true rfl) hrr) ?_
      refine rw_if_eq ⟨by omega, by omega⟩ (t := 38) rfl (fun hc12 => ?_) (fun hc12 => ?_)
      · skip
        refine rw_blk lk_X10_set_38 ?_
        refine rw_of (fun rr hrr => q_aload_n rfl (q_iload_n rfl (q_iload_n rfl (q_iload_n rfl (q_iload rfl hrr))))) ?_
        obtain ⟨_, mm13, pp14, hV15, rfl, rfl, rfl⟩ := c_X10_told2 (S := S) (fz := fz) (m := mm9) (p := p) (d := d) (by omega) (s) (i) (j) hP (by omega) (by omega)
        refine rw_of (fun rr hrr => q_invV hV15 (show SH 261 = (18, 0) from rfl) rfl rfl (okar_cons rfl (okar_cons rfl (okar_cons rfl (okar_cons rfl okar_nil)))) (Nat.le_of_ble_eq_true rfl) (q_istore (Nat.le_of_ble_eq_true rfl) rfl (q_iload rfl hrr))) ?_
        obtain ⟨_, mm16, pp17, hV18, rfl, rfl, rfl⟩ := c_X10_rest (S := S) (fz := fz) (m := mm9) (p := p) (d := d) (by omega) (x) (by omega)
        refine rw_of (fun rr hrr => q_invS hV18 rfl rfl (okar_cons rfl okar_nil) (Nat.le_of_ble_eq_true rfl) (q_istore (Nat.le_of_ble_eq_true rfl) rfl (q_iload_n rfl (q_table (v := iI 2) (t := 122) rfl hrr)))) ?_
        refine rw_blk lk_X10_set_122 ?_
        refine rw_of (fun rr hrr => q_aload_n rfl (q_getR (show SH 261 = (18, 0) from rfl) rfl (pt_261_4 hP) (q_bipush rfl (q_iload_n rfl (q_imul (q_iload rfl (q_iadd (q_iload rfl (q_iast (j := 8 * s + j) (xx := toF x) (show SH 265 = (1, 104) from rfl) (by omega) (by omega) rfl hrr))))))))) ?_
        generalize hm20 : w1 mm9 265 (8 * s + j) (toF x) = mm19
        refine rw_of (fun rr hrr => q_goto (t := 147) rfl hrr) ?_
        refine rw_blk lk_X10_set_147 ?_
        refine rw_of (fun rr hrr => q_iload rfl hrr) ?_
        exact rw_ret hQ (q_ireturn (Or.inl rfl)) (by exact ⟨lvI (congrArg vF (congrFun (hF11 265 (by omega)) _)), rfl, by rw [hw11, hm20]⟩)
      · exfalso; omega
  · exfalso; omega
theorem c_X10_setV2 {d : Nat} {S : MC} {fz : Bool} {m : M1} {p : M2} (hd : 4 ≤ d) (s k n : Nat) (i : Int) (j : Nat) (x : Int) (hP : PI p) (hk : m 261 0 = nF k) (hk12 : k ≤ 12) (hsk : s < k) (hm : m 262 s = nF n) (hn0 : 1 ≤ n) (hn : n ≤ 8) (hri : (-2147483648 ≤ i ∧ i < 2147483648)) (hj : j < n) (hr : (-2147483648 ≤ x ∧ x < 2147483648)) (hx : x ≤ -10007 ∨ 10007 ≤ x) : Ct d k_X10_set S fz [.ref (261), .int (iI (((s : Nat) : Int))), .int (iI (2)), .int (iI (i)), .int (iI (((j : Nat) : Int))), .int (iI (x))] m p (fun v m' p' => v = some (.int (iI (0))) ∧ p = p' ∧ QMx 2 m m') := by
  obtain ⟨d, rfl⟩ : ∃ e, d = e + 1 := ⟨d - 1, by omega⟩
  refine ct_go (lv := [some (.ref (261)), some (.int (iI (((s : Nat) : Int)))), some (.int (iI (2))), some (.int (iI (i))), some (.int (iI (((j : Nat) : Int)))), some (.int (iI (x))), none, none]) (Nat.le_of_ble_eq_true rfl) (okar_cons rfl (okar_cons rfl (okar_cons rfl (okar_cons rfl (okar_cons rfl (okar_cons rfl okar_nil)))))) rfl (fun Qr hQ => ?_)
  refine rw_blk lk_X10_set_0 ?_
  refine rw_of (fun rr hrr => q_aload_n rfl (q_aload_n rfl (q_iload_n rfl (q_iload_n rfl (q_iload_n rfl (q_iload rfl hrr)))))) ?_
  obtain ⟨_, mm1, pp2, hV3, rfl, rfl, rfl⟩ := c_X10_isPlace2_11 (S := S) (fz := fz) (m := m) (p := p) (d := d) (by omega) (s) (k) (n) (i) (((j : Nat) : Int)) hP hk (by omega) (by omega) hm (by omega) (by omega) (by omega) (by omega) (by omega)
  refine rw_of (fun rr hrr => q_invV hV3 (show SH 261 = (18, 0) from rfl) rfl rfl (okar_cons rfl (okar_cons rfl (okar_cons rfl (okar_cons rfl okar_nil)))) (Nat.le_of_ble_eq_true rfl) hrr) ?_
  refine rw_if_ne ⟨by omega, by omega⟩ (t := 17) rfl (fun hc4 => ?_) (fun hc4 => ?_)
  · skip
    refine rw_blk lk_X10_set_17 ?_
    refine rw_of (fun rr hrr => q_iload rfl hrr) ?_
    obtain ⟨_, mm5, pp6, hV7, rfl, rfl, rfl⟩ := c_X10_isValue0 (S := S) (fz := fz) (m := m) (p := p) (d := d) (by omega) (x) (by omega) (by omega)
    refine rw_of (fun rr hrr => q_invS hV7 rfl rfl (okar_cons rfl okar_nil) (Nat.le_of_ble_eq_true rfl) hrr) ?_
    refine rw_if_eq ⟨by omega, by omega⟩ (t := 29) rfl (fun hc8 => ?_) (fun hc8 => ?_)
    · skip
      refine rw_blk lk_X10_set_29 ?_
      refine rw_of (fun rr hrr => q_iconst hrr) ?_
      refine rw_blk lk_X10_set_30 ?_
      obtain ⟨_, mm9, pp10, hV11, rfl, rfl, hw11, hF11⟩ := c_X10_fails1 (S := S) (fz := fz) (m := m) (p := p) (d := d) (by omega) (2) hP (by omega)
      refine rw_of (fun rr hrr => q_invV hV11 (show SH 261 = (18, 0) from rfl) rfl rfl (okar_cons rfl okar_nil) (Nat.le_of_ble_eq_true rfl) hrr) ?_
      refine rw_if_eq ⟨by omega, by omega⟩ (t := 38) rfl (fun hc12 => ?_) (fun hc12 => ?_)
      · exfalso; omega
      · skip
        refine rw_of (fun rr hrr => q_iconst hrr) ?_
        refine rw_ret hQ (q_ireturn (Or.inl rfl)) ?_
        first
          | exact ⟨rfl, rfl, QMx_w hw11 rfl⟩
          | (exfalso; omega)
        
    · exfalso; omega
  · exfalso; omega
theorem c_X10_set2_10 {d : Nat} {S : MC} {fz : Bool} {m : M1} {p : M2} (hd : 4 ≤ d) (s k n : Nat) (i j x : Int) (hP : PI p) (hk : m 261 0 = nF k) (hk12 : k ≤ 12) (hsk : s < k) (hm : m 262 s = nF n) (hn0 : 1 ≤ n) (hn : n ≤ 8) (hri : (-2147483648 ≤ i ∧ i < 2147483648)) (hrj : (-2147483648 ≤ j ∧ j < 2147483648)) (hj : j < 0 ∨ n ≤ j) : Ct d k_X10_set S fz [.ref (261), .int (iI (((s : Nat) : Int))), .int (iI (2)), .int (iI (i)), .int (iI (j)), .int (iI (x))] m p (fun v m' p' => v = some (.int (iI (0))) ∧ p = p' ∧ QMx 1 m m') := by
  obtain ⟨d, rfl⟩ : ∃ e, d = e + 1 := ⟨d - 1, by omega⟩
  refine ct_go (lv := [some (.ref (261)), some (.int (iI (((s : Nat) : Int)))), some (.int (iI (2))), some (.int (iI (i))), some (.int (iI (j))), some (.int (iI (x))), none, none]) (Nat.le_of_ble_eq_true rfl) (okar_cons rfl (okar_cons rfl (okar_cons rfl (okar_cons rfl (okar_cons rfl (okar_cons rfl okar_nil)))))) rfl (fun Qr hQ => ?_)
  refine rw_blk lk_X10_set_0 ?_
  refine rw_of (fun rr hrr => q_aload_n rfl (q_aload_n rfl (q_iload_n rfl (q_iload_n rfl (q_iload_n rfl (q_iload rfl hrr)))))) ?_
  obtain ⟨_, mm1, pp2, hV3, rfl, rfl, rfl⟩ := c_X10_isPlace2_10 (S := S) (fz := fz) (m := m) (p := p) (d := d) (by omega) (s) (k) (n) (i) (j) hP hk (by omega) (by omega) hm (by omega) (by omega) (by omega) (by omega) (by omega)
  refine rw_of (fun rr hrr => q_invV hV3 (show SH 261 = (18, 0) from rfl) rfl rfl (okar_cons rfl (okar_cons rfl (okar_cons rfl (okar_cons rfl okar_nil)))) (Nat.le_of_ble_eq_true rfl) hrr) ?_
  refine rw_if_ne ⟨by omega, by omega⟩ (t := 17) rfl (fun hc4 => ?_) (fun hc4 => ?_)
  · exfalso; omega
  · skip
    refine rw_of (fun rr hrr => q_iconst (q_goto (t := 30) rfl hrr)) ?_
    refine rw_blk lk_X10_set_30 ?_
    obtain ⟨_, mm5, pp6, hV7, rfl, rfl, hw7, hF7⟩ := c_X10_fails1 (S := S) (fz := fz) (m := m) (p := p) (d := d) (by omega) (1) hP (by omega)
    refine rw_of (fun rr hrr => q_invV hV7 (show SH 261 = (18, 0) from rfl) rfl rfl (okar_cons rfl okar_nil) (Nat.le_of_ble_eq_true rfl) hrr) ?_
    refine rw_if_eq ⟨by omega, by omega⟩ (t := 38) rfl (fun hc8 => ?_) (fun hc8 => ?_)
    · exfalso; omega
    · skip
      refine rw_of (fun rr hrr => q_iconst hrr) ?_
      refine rw_ret hQ (q_ireturn (Or.inl rfl)) ?_
      first
        | exact ⟨rfl, rfl, QMx_w hw7 rfl⟩
        | (exfalso; omega)
      
theorem c_X10_set3 {d : Nat} {S : MC} {fz : Bool} {m : M1} {p : M2} (hd : 4 ≤ d) (s k n : Nat) (i : Int) (j : Int) (x : Int) (hP : PI p) (hk : m 261 0 = nF k) (hk12 : k ≤ 12) (hsk : s < k) (hm : m 262 s = nF n) (hn0 : 1 ≤ n) (hn : n ≤ 8) (hri : (-2147483648 ≤ i ∧ i < 2147483648)) (hrj : (-2147483648 ≤ j ∧ j < 2147483648)) (hx : -10007 < x ∧ x < 10007) : Ct d k_X10_set S fz [.ref (261), .int (iI (((s : Nat) : Int))), .int (iI (3)), .int (iI (i)), .int (iI (j)), .int (iI (x))] m p (fun v m' p' => v = some (.int (iI (vF (m 266 s)))) ∧ p = p' ∧ w1 (w1 m 261 21 0) 266 s (toF x) = m') := by
  obtain ⟨d, rfl⟩ : ∃ e, d = e + 1 := ⟨d - 1, by omega⟩
  refine ct_go (lv := [some (.ref (261)), some (.int (iI (((s : Nat) : Int)))), some (.int (iI (3))), some (.int (iI (i))), some (.int (iI (j))), some (.int (iI (x))), none, none]) (Nat.le_of_ble_eq_true rfl) (okar_cons rfl (okar_cons rfl (okar_cons rfl (okar_cons rfl (okar_cons rfl (okar_cons rfl okar_nil)))))) rfl (fun Qr hQ => ?_)
  refine rw_blk lk_X10_set_0 ?_
  refine rw_of (fun rr hrr => q_aload_n rfl (q_aload_n rfl (q_iload_n rfl (q_iload_n rfl (q_iload_n rfl (q_iload rfl hrr)))))) ?_
  obtain ⟨_, mm1, pp2, hV3, rfl, rfl, rfl⟩ := c_X10_isPlace3_11 (S := S) (fz := fz) (m := m) (p := p) (d := d) (by omega) (s) (k) (n) (i) (j) hP hk (by omega) (by omega) hm (by omega) (by omega) (by omega) (by omega)
  refine rw_of (fun rr hrr => q_invV hV3 (show SH 261 = (18, 0) from rfl) rfl rfl (okar_cons rfl (okar_cons rfl (okar_cons rfl (okar_cons rfl okar_nil)))) (Nat.le_of_ble_eq_true rfl) hrr) ?_
  refine rw_if_ne ⟨by omega, by omega⟩ (t := 17) rfl (fun hc4 => ?_) (fun hc4 => ?_)
  · skip
    refine rw_blk lk_X10_set_17 ?_
    refine rw_of (fun rr hrr => q_iload rfl hrr) ?_
    obtain ⟨_, mm5, pp6, hV7, rfl, rfl, rfl⟩ := c_X10_isValue1 (S := S) (fz := fz) (m := m) (p := p) (d := d) (by omega) (x) (by omega) (by omega)
    refine rw_of (fun rr hrr => q_invS hV7 rfl rfl (okar_cons rfl okar_nil) (Nat.le_of_ble_eq_true rfl) hrr) ?_
    refine rw_if_eq ⟨by omega, by omega⟩ (t := 29) rfl (fun hc8 => ?_) (fun hc8 => ?_)
    · exfalso; omega
    · skip
      refine rw_of (fun rr hrr => q_iconst (q_goto (t := 30) rfl hrr)) ?_
      refine rw_blk lk_X10_set_30 ?_
      obtain ⟨_, mm9, pp10, hV11, rfl, rfl, hw11, hF11⟩ := c_X10_fails0 (S := S) (fz := fz) (m := m) (p := p) (d := d) (by omega) hP
      refine rw_of (fun rr hrr => q_invV hV11 (show SH 261 = (18, 0) from rfl) rfl rfl (okar_cons rfl okar_nil) (Nat.le_of_ble_eq_true rfl) hrr) ?_
      refine rw_if_eq ⟨by omega, by omega⟩ (t := 38) rfl (fun hc12 => ?_) (fun hc12 => ?_)
      · skip
        refine rw_blk lk_X10_set_38 ?_
        refine rw_of (fun rr hrr => q_aload_n rfl (q_iload_n rfl (q_iload_n rfl (q_iload_n rfl (q_iload rfl hrr))))) ?_
        obtain ⟨_, mm13, pp14, hV15, rfl, rfl, rfl⟩ := c_X10_told3 (S := S) (fz := fz) (m := mm9) (p := p) (d := d) (by omega) (s) (i) (j) hP (by omega)
        refine rw_of (fun rr hrr => q_invV hV15 (show SH 261 = (18, 0) from rfl) rfl rfl (okar_cons rfl (okar_cons rfl (okar_cons rfl (okar_cons rfl okar_nil)))) (Nat.le_of_ble_eq_true rfl) (q_istore (Nat.le_of_ble_eq_true rfl) rfl (q_iload rfl hrr))) ?_
        obtain ⟨_, mm16, pp17, hV18, rfl, rfl, rfl⟩ := c_X10_rest (S := S) (fz := fz) (m := mm9) (p := p) (d := d) (by omega) (x) (by omega)
        refine rw_of (fun rr hrr => q_invS hV18 rfl rfl (okar_cons rfl okar_nil) (Nat.le_of_ble_eq_true rfl) (q_istore (Nat.le_of_ble_eq_true rfl) rfl (q_iload_n rfl (q_table (v := iI 3) (t := 139) rfl hrr)))) ?_
        refine rw_blk lk_X10_set_139 ?_
        refine rw_of (fun rr hrr => q_aload_n rfl (q_getR (show SH 261 = (18, 0) from rfl) rfl (pt_261_5 hP) (q_iload_n rfl (q_iload rfl (q_iast (j := s) (xx := toF x) (show SH 266 = (1, 13) from rfl) rfl (by omega) rfl hrr))))) ?_
        generalize hm20 : w1 mm9 266 s (toF x) = mm19
        refine rw_blk lk_X10_set_147 ?_
        refine rw_of (fun rr hrr => q_iload rfl hrr) ?_
        exact rw_ret hQ (q_ireturn (Or.inl rfl)) (by exact ⟨lvI (congrArg vF (congrFun (hF11 266 (by omega)) _)), rfl, by rw [hw11, hm20]⟩)
      · exfalso; omega
  · exfalso; omega
theorem c_X10_setV3 {d : Nat} {S : MC} {fz : Bool} {m : M1} {p : M2} (hd : 4 ≤ d) (s k n : Nat) (i : Int) (j : Int) (x : Int) (hP : PI p) (hk : m 261 0 = nF k) (hk12 : k ≤ 12) (hsk : s < k) (hm : m 262 s = nF n) (hn0 : 1 ≤ n) (hn : n ≤ 8) (hri : (-2147483648 ≤ i ∧ i < 2147483648)) (hrj : (-2147483648 ≤ j ∧ j < 2147483648)) (hr : (-2147483648 ≤ x ∧ x < 2147483648)) (hx : x ≤ -10007 ∨ 10007 ≤ x) : Ct d k_X10_set S fz [.ref (261), .int (iI (((s : Nat) : Int))), .int (iI (3)), .int (iI (i)), .int (iI (j)), .int (iI (x))] m p (fun v m' p' => v = some (.int (iI (0))) ∧ p = p' ∧ QMx 2 m m') := by
  obtain ⟨d, rfl⟩ : ∃ e, d = e + 1 := ⟨d - 1, by omega⟩
  refine ct_go (lv := [some (.ref (261)), some (.int (iI (((s : Nat) : Int)))), some (.int (iI (3))), some (.int (iI (i))), some (.int (iI (j))), some (.int (iI (x))), none, none]) (Nat.le_of_ble_eq_true rfl) (okar_cons rfl (okar_cons rfl (okar_cons rfl (okar_cons rfl (okar_cons rfl (okar_cons rfl okar_nil)))))) rfl (fun Qr hQ => ?_)
  refine rw_blk lk_X10_set_0 ?_
  refine rw_of (fun rr hrr => q_aload_n rfl (q_aload_n rfl (q_iload_n rfl (q_iload_n rfl (q_iload_n rfl (q_iload rfl hrr)))))) ?_
  obtain ⟨_, mm1, pp2, hV3, rfl, rfl, rfl⟩ := c_X10_isPlace3_11 (S := S) (fz := fz) (m := m) (p := p) (d := d) (by omega) (s) (k) (n) (i) (j) hP hk (by omega) (by omega) hm (by omega) (by omega) (by omega) (by omega)
  refine rw_of (fun rr hrr => q_invV hV3 (show SH 261 = (18, 0) from rfl) rfl rfl (okar_cons rfl (okar_cons rfl (okar_cons rfl (okar_cons rfl okar_nil)))) (Nat.le_of_ble_eq_true rfl) hrr) ?_
  refine rw_if_ne ⟨by omega, by omega⟩ (t := 17) rfl (fun hc4 => ?_) (fun hc4 => ?_)
  · skip
    refine rw_blk lk_X10_set_17 ?_
    refine rw_of (fun rr hrr => q_iload rfl hrr) ?_
    obtain ⟨_, mm5, pp6, hV7, rfl, rfl, rfl⟩ := c_X10_isValue0 (S := S) (fz := fz) (m := m) (p := p) (d := d) (by omega) (x) (by omega) (by omega)
    refine rw_of (fun rr hrr => q_invS hV7 rfl rfl (okar_cons rfl okar_nil) (Nat.le_of_ble_eq_true rfl) hrr) ?_
    refine rw_if_eq ⟨by omega, by omega⟩ (t := 29) rfl (fun hc8 => ?_) (fun hc8 => ?_)
    · skip
      refine rw_blk lk_X10_set_29 ?_
      refine rw_of (fun rr hrr => q_iconst hrr) ?_
      refine rw_blk lk_X10_set_30 ?_
      obtain ⟨_, mm9, pp10, hV11, rfl, rfl, hw11, hF11⟩ := c_X10_fails1 (S := S) (fz := fz) (m := m) (p := p) (d := d) (by omega) (2) hP (by omega)
      refine rw_of (fun rr hrr => q_invV hV11 (show SH 261 = (18, 0) from rfl) rfl rfl (okar_cons rfl okar_nil) (Nat.le_of_ble_eq_true rfl) hrr) ?_
      refine rw_if_eq ⟨by omega, by omega⟩ (t := 38) rfl (fun hc12 => ?_) (fun hc12 => ?_)
      · exfalso; omega
      · skip
        refine rw_of (fun rr hrr => q_iconst hrr) ?_
        refine rw_ret hQ (q_ireturn (Or.inl rfl)) ?_
        first
          | exact ⟨rfl, rfl, QMx_w hw11 rfl⟩
          | (exfalso; omega)
        
    · exfalso; omega
  · exfalso; omega
theorem c_X10_setW {d : Nat} {S : MC} {fz : Bool} {m : M1} {p : M2} (hd : 4 ≤ d) (s k n : Nat) (w i j x : Int) (hP : PI p) (hk : m 261 0 = nF k) (hk12 : k ≤ 12) (hsk : s < k) (hm : m 262 s = nF n) (hn0 : 1 ≤ n) (hn : n ≤ 8) (hr : (-2147483648 ≤ w ∧ w < 2147483648)) (h : w < 0 ∨ 3 < w) : Ct d k_X10_set S fz [.ref (261), .int (iI (((s : Nat) : Int))), .int (iI (w)), .int (iI (i)), .int (iI (j)), .int (iI (x))] m p (fun v m' p' => v = some (.int (iI (0))) ∧ p = p' ∧ QMx 1 m m') := by
  obtain ⟨d, rfl⟩ : ∃ e, d = e + 1 := ⟨d - 1, by omega⟩
  refine ct_go (lv := [some (.ref (261)), some (.int (iI (((s : Nat) : Int)))), some (.int (iI (w))), some (.int (iI (i))), some (.int (iI (j))), some (.int (iI (x))), none, none]) (Nat.le_of_ble_eq_true rfl) (okar_cons rfl (okar_cons rfl (okar_cons rfl (okar_cons rfl (okar_cons rfl (okar_cons rfl okar_nil)))))) rfl (fun Qr hQ => ?_)
  refine rw_blk lk_X10_set_0 ?_
  refine rw_of (fun rr hrr => q_aload_n rfl (q_aload_n rfl (q_iload_n rfl (q_iload_n rfl (q_iload_n rfl (q_iload rfl hrr)))))) ?_
  obtain ⟨_, mm1, pp2, hV3, rfl, rfl, rfl⟩ := c_X10_isPlaceW (S := S) (fz := fz) (m := m) (p := p) (d := d) (by omega) (s) (k) (n) (w) (i) (j) hP hk (by omega) (by omega) hm (by omega) (by omega) (by omega) (by omega)
  refine rw_of (fun rr hrr => q_invV hV3 (show SH 261 = (18, 0) from rfl) rfl rfl (okar_cons rfl (okar_cons rfl (okar_cons rfl (okar_cons rfl okar_nil)))) (Nat.le_of_ble_eq_true rfl) hrr) ?_
  refine rw_if_ne ⟨by omega, by omega⟩ (t := 17) rfl (fun hc4 => ?_) (fun hc4 => ?_)
  · exfalso; omega
  · skip
    refine rw_of (fun rr hrr => q_iconst (q_goto (t := 30) rfl hrr)) ?_
    refine rw_blk lk_X10_set_30 ?_
    obtain ⟨_, mm5, pp6, hV7, rfl, rfl, hw7, hF7⟩ := c_X10_fails1 (S := S) (fz := fz) (m := m) (p := p) (d := d) (by omega) (1) hP (by omega)
    refine rw_of (fun rr hrr => q_invV hV7 (show SH 261 = (18, 0) from rfl) rfl rfl (okar_cons rfl okar_nil) (Nat.le_of_ble_eq_true rfl) hrr) ?_
    refine rw_if_eq ⟨by omega, by omega⟩ (t := 38) rfl (fun hc8 => ?_) (fun hc8 => ?_)
    · exfalso; omega
    · skip
      refine rw_of (fun rr hrr => q_iconst hrr) ?_
      refine rw_ret hQ (q_ireturn (Or.inl rfl)) ?_
      first
        | exact ⟨rfl, rfl, QMx_w hw7 rfl⟩
        | (exfalso; omega)
      
theorem c_X10_setS {d : Nat} {S : MC} {fz : Bool} {m : M1} {p : M2} (hd : 4 ≤ d) (s : Int) (k : Nat) (w i j x : Int) (hP : PI p) (hk : m 261 0 = nF k) (hk12 : k ≤ 12) (hr : (-2147483648 ≤ s ∧ s < 2147483648)) (h : ¬ (0 ≤ s ∧ s < k)) : Ct d k_X10_set S fz [.ref (261), .int (iI (s)), .int (iI (w)), .int (iI (i)), .int (iI (j)), .int (iI (x))] m p (fun v m' p' => v = some (.int (iI (0))) ∧ p = p' ∧ QMx 1 m m') := by
  obtain ⟨d, rfl⟩ : ∃ e, d = e + 1 := ⟨d - 1, by omega⟩
  refine ct_go (lv := [some (.ref (261)), some (.int (iI (s))), some (.int (iI (w))), some (.int (iI (i))), some (.int (iI (j))), some (.int (iI (x))), none, none]) (Nat.le_of_ble_eq_true rfl) (okar_cons rfl (okar_cons rfl (okar_cons rfl (okar_cons rfl (okar_cons rfl (okar_cons rfl okar_nil)))))) rfl (fun Qr hQ => ?_)
  refine rw_blk lk_X10_set_0 ?_
  refine rw_of (fun rr hrr => q_aload_n rfl (q_aload_n rfl (q_iload_n rfl (q_iload_n rfl (q_iload_n rfl (q_iload rfl hrr)))))) ?_
  obtain ⟨_, mm1, pp2, hV3, rfl, rfl, rfl⟩ := c_X10_isPlaceS (S := S) (fz := fz) (m := m) (p := p) (d := d) (by omega) (s) (k) (w) (i) (j) hP hk (by omega) (by omega) (h)
  refine rw_of (fun rr hrr => q_invV hV3 (show SH 261 = (18, 0) from rfl) rfl rfl (okar_cons rfl (okar_cons rfl (okar_cons rfl (okar_cons rfl okar_nil)))) (Nat.le_of_ble_eq_true rfl) hrr) ?_
  refine rw_if_ne ⟨by omega, by omega⟩ (t := 17) rfl (fun hc4 => ?_) (fun hc4 => ?_)
  · exfalso; omega
  · skip
    refine rw_of (fun rr hrr => q_iconst (q_goto (t := 30) rfl hrr)) ?_
    refine rw_blk lk_X10_set_30 ?_
    obtain ⟨_, mm5, pp6, hV7, rfl, rfl, hw7, hF7⟩ := c_X10_fails1 (S := S) (fz := fz) (m := m) (p := p) (d := d) (by omega) (1) hP (by omega)
    refine rw_of (fun rr hrr => q_invV hV7 (show SH 261 = (18, 0) from rfl) rfl rfl (okar_cons rfl okar_nil) (Nat.le_of_ble_eq_true rfl) hrr) ?_
    refine rw_if_eq ⟨by omega, by omega⟩ (t := 38) rfl (fun hc8 => ?_) (fun hc8 => ?_)
    · exfalso; omega
    · skip
      refine rw_of (fun rr hrr => q_iconst hrr) ?_
      refine rw_ret hQ (q_ireturn (Or.inl rfl)) ?_
      first
        | exact ⟨rfl, rfl, QMx_w hw7 rfl⟩
        | (exfalso; omega)
      
