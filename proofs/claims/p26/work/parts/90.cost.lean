/-- ahead of step s back -/
def Pm (n : Nat) (A : Nat → Nat → F) (b c : Nat → F) (q r : F) : Nat → Nat → Nat → F
  | 0 => fun _ _ => 0
  | s + 1 => mc n A b c q r s
def Vm (n : Nat) (P : Nat → Nat → F) (b : Nat → F) (s z : Nat) : F := if s = 0 then 0 else rb n P b z
def Zo (n : N2) (w N : Nat) : Prop := ∀ r c, r < 8 → c < 8 → ¬ (r < N ∧ c < N) → n w (8 * r + c) = 0
theorem Pm_s {n s : Nat} {A : Nat → Nat → F} {b c : Nat → F} {q r : F} (h : 0 < s) (i j : Nat) : Pm n A b c q r (s + 1) i j = dot n (fun l => A l i) (fun l => rpa n (Pm n A b c q r s) A l j) + rq q c i j - rap n (Pm n A b c q r s) A b i * rap n (Pm n A b c q r s) A b j * iv (rm n (Pm n A b c q r s) b r) := by
  obtain ⟨s, rfl⟩ : ∃ z, s = z + 1 := ⟨s - 1, by omega⟩
  rfl
def sI (f : Nat → Int) : Nat → Int
  | 0 => 0
  | n + 1 => sI f n + f n
theorem sI_b {f : Nat → Int} (n : Nat) (h : ∀ i, i < n → 0 ≤ f i ∧ f i ≤ 10006) : 0 ≤ sI f n ∧ sI f n ≤ 10006 * (n : Int) := by
  induction n with
  | zero => exact ⟨Int.le_refl 0, Int.le_refl 0⟩
  | succ n ih =>
    have h1 := ih (fun i hi => h i (by omega))
    have h2 := h n (by omega)
    show 0 ≤ sI f n + f n ∧ sI f n + f n ≤ 10006 * ((n + 1 : Nat) : Int)
    omega
theorem toF_sI {f : Nat → Int} (n : Nat) : toF (sI f n) = sm n (fun i => toF (f i)) := by
  induction n with
  | zero => rfl
  | succ n ih =>
    show toF (sI f n + f n) = _
    rw [toF_add, ih, sm_s]
theorem sm_8 {g : Nat → F} (k : Nat) : sm (8 * k) g = sm k (fun i => sm 8 (fun j => g (8 * i + j))) := by
  induction k with
  | zero => rfl
  | succ k ih =>
    rw [show 8 * (k + 1) = 8 * k + 8 by omega, sm_split, ih]
    rfl
theorem sm_pad {n : Nat} {f : Nat → F} (hn : n ≤ 8) (h : ∀ i, n ≤ i → i < 8 → f i = 0) : sm 8 f = sm n f := by
  rw [show 8 = n + (8 - n) by omega, sm_split, sm_zero (f := fun i => f (n + i)) (fun i hi => h (n + i) (by omega) (by omega))]
  grind
theorem sum64 {e : N2} {w n : Nat} {P : Nat → Nat → F} (hn : n ≤ 8) (hP : Mv e w n P) (hz : Zo e w n) : (∀ y, y < 64 → 0 ≤ e w y ∧ e w y ≤ 10006) ∧ toF (sI (e w) 64) = sm n (fun i => sm n (fun j => P i j)) := by
  refine ⟨fun y hy => ?_, ?_⟩
  · have e1 : y = 8 * (y / 8) + y % 8 := by omega
    rw [e1]
    by_cases q : y / 8 < n ∧ y % 8 < n
    · rw [hP _ q.1 _ q.2]
      exact ⟨vF_ge _, by have := vF_lt (P (y / 8) (y % 8)); omega⟩
    · rw [hz _ _ (by omega) (by omega) q]
      exact ⟨by omega, by omega⟩
  · rw [toF_sI, show 64 = 8 * 8 from rfl, sm_8, sm_pad hn (fun i h1 h2 => sm_zero (fun j hj => by
      show toF (e w (8 * i + j)) = 0
      rw [hz i j h2 hj (by omega)]
      rfl))]
    refine sm_congr (fun i hi => ?_)
    rw [sm_pad hn (fun j h1 h2 => by
      show toF (e w (8 * i + j)) = 0
      rw [hz i j (by omega) h2 (by omega)]
      rfl)]
    exact sm_congr (fun j hj => by rw [hP i hi j hj, toF_vF])
theorem c_L_costs1 {d : Nat} {X : MC} {m : M1} {p : M2} {K : Nat} {sh : Nat → Nat} {nn : N2} (hd : 3 ≤ d) (hK : 260 ≤ K) (a b n l : Nat) (q r : F) (A : Nat → Nat → F) (B C : Nat → F) (ha : Ro K sh a 64) (hb : Ro K sh b 18) (hn1 : 1 ≤ n) (hn : n ≤ 8) (hl : l ≤ 20) (hA : Mv nn a n A) (hbv : ∀ i, i < n → nn b i = vF (B i)) (hcv : ∀ i, i < n → nn b (8 + i) = vF (C i)) (hbn : nn b 17 = (n : Int)) (hr : ∀ t, t < l → rm n (mc n A B C q r t) B r ≠ 0) : Lc d k_L_costs X [.ref (a), .ref (b), .int (iI (vF (q))), .int (iI (vF (r))), .int (iI (((l : Nat) : Int)))] m p K sh nn (fun v m' p' K' sh' n' => v = some (.int (iI (vF (sm n (fun i => sm n (fun j => mc n A B C q r l i j)))))) ∧ m = m' ∧ p = p' ∧ FrN (fun a_ => K < a_) nn n') := by
  obtain ⟨d, rfl⟩ : ∃ e, d = e + 1 := ⟨d - 1, by omega⟩
  have ha8 := ha.1; have ha9 := ha.2.1
  have hb8 := hb.1; have hb9 := hb.2.1
  refine lc_go (lv := [some (.ref (a)), some (.ref (b)), some (.int (iI (vF (q)))), some (.int (iI (vF (r)))), some (.int (iI (((l : Nat) : Int)))), none, none, none, none, none, none, none, none, none, none, none, none]) (B := 4) (Nat.le_of_ble_eq_true rfl) (okar_cons rfl (okar_cons rfl (okar_cons rfl (okar_cons rfl (okar_cons rfl okar_nil))))) rfl rfl (fun Qr hQ => ?_)
  refine rw_blk lk_L_costs_0 ?_
  refine rw_of (fun rr hrr => q_aload_n rfl (q_bipush rfl (q_lald (j := 17) hb rfl (by omega) hbn (q_istore (Nat.le_of_ble_eq_true rfl) rfl (q_bipush rfl (q_lnew (l := 64) (by omega) rfl (by omega) hrr)))))) ?_
  generalize hu1 : nU nn (K + 1) = e2
  refine rw_of (fun rr hrr => q_astore (Nat.le_of_ble_eq_true rfl) rfl (q_bipush rfl (q_lnew (l := 64) (by omega) rfl (by omega) hrr))) ?_
  generalize hu3 : nU e2 (K + 1 + 1) = e4
  refine rw_of (fun rr hrr => q_astore (Nat.le_of_ble_eq_true rfl) rfl (q_bipush rfl (q_lnew (l := 8) (by omega) rfl (by omega) hrr))) ?_
  generalize hu5 : nU e4 (K + 1 + 1 + 1) = e6
  refine rw_of (fun rr hrr => q_astore (Nat.le_of_ble_eq_true rfl) rfl (q_bipush rfl (q_lnew (l := 8) (by omega) rfl (by omega) hrr))) ?_
  generalize hu7 : nU e6 (K + 1 + 1 + 1 + 1) = e8
  refine rw_of (fun rr hrr => q_astore (Nat.le_of_ble_eq_true rfl) rfl (q_iconst (q_istore (Nat.le_of_ble_eq_true rfl) rfl hrr))) ?_
  have hL33 : ∀ s, s ≤ l + 1 → ∀ (cc ss : Nat) (nn33 : N2) (P : Nat → Nat → F) (x33_11 : Option Value) (x33_12 : Option Value) (x33_13 : Option Value) (x33_14 : Option Value) (x33_15 : Option Value) (x33_16 : Option Value), (FrN (fun a_ => a_ = K + 1 ∨ a_ = K + 1 + 1 ∨ a_ = K + 1 + 1 + 1 ∨ a_ = K + 1 + 1 + 1 + 1) e8 nn33 ∧ (P = Pm n A B C q r s ∧ Mv nn33 (K + 1) n P ∧ Zo nn33 (K + 1) n ∧ (s = 0 → ∀ z, nn33 (K + 1 + 1 + 1) z = 0))) → Rw (Ev d) k_L_costs (33, [], [some (.ref (a)), some (.ref (b)), some (.int (iI (vF (q)))), some (.int (iI (vF (r)))), some (.int (iI (((l : Nat) : Int)))), some (.int (iI (((n : Nat) : Int)))), some (.ref (K + 1)), some (.ref (K + 1 + 1)), some (.ref (K + 1 + 1 + 1)), some (.ref (K + 1 + 1 + 1 + 1)), some (.int (iI (((s : Nat) : Int)))), x33_11, x33_12, x33_13, x33_14, x33_15, x33_16], [], hB X m p (K + 1 + 1 + 1 + 1) (shU (shU (shU (shU sh (K + 1) 64) (K + 1 + 1) 64) (K + 1 + 1 + 1) 8) (K + 1 + 1 + 1 + 1) 8) nn33, cc, ss) Qr := by
    refine loop_any (fun s hi33 ih33 => ?_)
    intro cc ss nn33 P x33_11 x33_12 x33_13 x33_14 x33_15 x33_16
    intro hI
    obtain ⟨hF33, ⟨hPs, hp33, hz33, hv33⟩⟩ := hI
    refine rw_blk lk_L_costs_33 ?_
    refine rw_of (fun rr hrr => q_iload rfl (q_iload rfl hrr)) ?_
    refine rw_icmp_gt ⟨by omega, by omega⟩ ⟨by omega, by omega⟩ (t := 468) rfl (fun hc9 => ?_) (fun hc9 => ?_)
    · skip
      have hs64 : (∀ z, z ≤ 64 → 0 ≤ sI (nn33 (K + 1)) z ∧ sI (nn33 (K + 1)) z ≤ 700000) ∧ toF (sI (nn33 (K + 1)) 64) = sm n (fun i => sm n (fun j => mc n A B C q r l i j)) := by
        have h64 := sum64 hn hp33 hz33
        refine ⟨fun z hz => ?_, ?_⟩
        · have := sI_b z (fun y hy => h64.1 y (by omega))
          omega
        · rw [h64.2, hPs, show s = l + 1 by omega]
          rfl
      refine rw_blk lk_L_costs_468 ?_
      refine rw_of (fun rr hrr => q_iconst (q_istore (Nat.le_of_ble_eq_true rfl) rfl (q_iconst (q_istore (Nat.le_of_ble_eq_true rfl) rfl hrr)))) ?_
      have hL474 : ∀ z, z ≤ 64 → ∀ (cc ss : Nat) , Rw (Ev d) k_L_costs (474, [], [some (.ref (a)), some (.ref (b)), some (.int (iI (vF (q)))), some (.int (iI (vF (r)))), some (.int (iI (((l : Nat) : Int)))), some (.int (iI (((n : Nat) : Int)))), some (.ref (K + 1)), some (.ref (K + 1 + 1)), some (.ref (K + 1 + 1 + 1)), some (.ref (K + 1 + 1 + 1 + 1)), some (.int (iI (sI (nn33 (K + 1)) z))), some (.int (iI (((z : Nat) : Int)))), x33_12, x33_13, x33_14, x33_15, x33_16], [], hB X m p (K + 1 + 1 + 1 + 1) (shU (shU (shU (shU sh (K + 1) 64) (K + 1 + 1) 64) (K + 1 + 1 + 1) 8) (K + 1 + 1 + 1 + 1) 8) nn33, cc, ss) Qr := by
        refine loop_any (fun z hi474 ih474 => ?_)
        intro cc ss
        refine rw_blk lk_L_costs_474 ?_
        refine rw_of (fun rr hrr => q_iload rfl (q_bipush rfl hrr)) ?_
        refine rw_icmp_ge ⟨by omega, by omega⟩ ⟨by omega, by omega⟩ (t := 497) rfl (fun hc10 => ?_) (fun hc10 => ?_)
        · skip
          refine rw_blk lk_L_costs_497 ?_
          refine rw_of (fun rr hrr => q_iload rfl (q_sipush rfl (q_irem ⟨by have := hs64.1 z (by omega); omega, by have := hs64.1 z (by omega); omega⟩ ⟨by omega, by omega⟩ (by omega) (by rw [show z = 64 by omega, tmod_vF (by have := hs64.1 64; omega), hs64.2]) hrr))) ?_
          refine lw_end hQ (q_ireturn (Or.inl rfl)) (by omega) (by omega) (FrS_tr (by omega) (FrS_tr (by omega) (FrS_tr (by omega) (FrS_tr (by omega) FrS_rfl FrS_new) FrS_new) FrS_new) FrS_new) ?_
          exact ⟨rfl, rfl, rfl, fun a9 h9 => ((hF33 a9 (by show ¬ (a9 = K + 1 ∨ a9 = K + 1 + 1 ∨ a9 = K + 1 + 1 + 1 ∨ a9 = K + 1 + 1 + 1 + 1); omega)).trans ((kU hu7 (by omega)).trans ((kU hu5 (by omega)).trans ((kU hu3 (by omega)).trans (kU hu1 (by omega))))))⟩
        · skip
          refine rw_of (fun rr hrr => q_iload rfl (q_aload rfl (q_iload rfl (q_lald (j := z) (Ro_new (Ro_new (Ro_new (Ro_made (by omega))))) rfl (by omega) (rfl) (q_iadd (q_istore (Nat.le_of_ble_eq_true rfl) rfl (q_iinc rfl rfl (q_goto (t := 474) rfl hrr)))))))) ?_
          exact rw_cast (ih474 (by omega) _ _) (lcons rfl (lcons rfl (lcons rfl (lcons rfl (lcons rfl (lcons rfl (lcons rfl (lcons rfl (lcons rfl (lcons rfl (lcons (lvI (by rfl)) (lcons (lvI (by omega)) (lcons rfl (lcons rfl (lcons rfl (lcons rfl (lcons rfl rfl))))))))))))))))) rfl
      exact rw_cast (hL474 0 (by omega) _ _) (lcons rfl (lcons rfl (lcons rfl (lcons rfl (lcons rfl (lcons rfl (lcons rfl (lcons rfl (lcons rfl (lcons rfl (lcons (lvI (by rfl)) (lcons (lvI (by omega)) (lcons rfl (lcons rfl (lcons rfl (lcons rfl (lcons rfl rfl))))))))))))))))) rfl
    · skip
      refine rw_of (fun rr hrr => q_iload_n rfl (q_istore (Nat.le_of_ble_eq_true rfl) rfl (q_iconst hrr))) ?_
      have hL136 : ∀ (cc ss : Nat) (nn136 : N2) (mm : F) (x136_12 : Option Value) (x136_13 : Option Value), (FrN (fun a_ => a_ = K + 1 + 1 + 1) nn33 nn136 ∧ ((∀ z, z < n → nn136 (K + 1 + 1 + 1) z = vF (Vm n P B s z)) ∧ (0 < s → mm = rm n P B r))) → Rw (Ev d) k_L_costs (136, [], [some (.ref (a)), some (.ref (b)), some (.int (iI (vF (q)))), some (.int (iI (vF (r)))), some (.int (iI (((l : Nat) : Int)))), some (.int (iI (((n : Nat) : Int)))), some (.ref (K + 1)), some (.ref (K + 1 + 1)), some (.ref (K + 1 + 1 + 1)), some (.ref (K + 1 + 1 + 1 + 1)), some (.int (iI (((s : Nat) : Int)))), some (.int (iI (vF (mm)))), x136_12, x136_13, x33_14, x33_15, x33_16], [], hB X m p (K + 1 + 1 + 1 + 1) (shU (shU (shU (shU sh (K + 1) 64) (K + 1 + 1) 64) (K + 1 + 1 + 1) 8) (K + 1 + 1 + 1 + 1) 8) nn136, cc, ss) Qr := by
        intro cc ss nn136 mm x136_12 x136_13
        intro hI
        obtain ⟨hF136, ⟨hv136, hm136⟩⟩ := hI
        refine rw_blk lk_L_costs_136 ?_
        refine rw_of (fun rr hrr => q_iload rfl hrr) ?_
        have hL150 : ∀ (cc ss : Nat) , ((s ≤ l)) → Rw (Ev d) k_L_costs (150, [], [some (.ref (a)), some (.ref (b)), some (.int (iI (vF (q)))), some (.int (iI (vF (r)))), some (.int (iI (((l : Nat) : Int)))), some (.int (iI (((n : Nat) : Int)))), some (.ref (K + 1)), some (.ref (K + 1 + 1)), some (.ref (K + 1 + 1 + 1)), some (.ref (K + 1 + 1 + 1 + 1)), some (.int (iI (((s : Nat) : Int)))), some (.int (iI (vF (mm)))), x136_12, x136_13, x33_14, x33_15, x33_16], [], hB X m p (K + 1 + 1 + 1 + 1) (shU (shU (shU (shU sh (K + 1) 64) (K + 1 + 1) 64) (K + 1 + 1 + 1) 8) (K + 1 + 1 + 1 + 1) 8) nn136, cc, ss) Qr := by
          intro cc ss
          intro hI
          have hs150 := hI
          refine rw_blk lk_L_costs_150 ?_
          refine rw_of (fun rr hrr => q_iconst (q_istore (Nat.le_of_ble_eq_true rfl) rfl hrr)) ?_
          have hL153 : ∀ j, j ≤ n → ∀ (cc ss : Nat) (nn153 : N2) (x153_13 : Option Value) (x153_14 : Option Value), (FrN (fun a_ => a_ = K + 1 + 1 ∨ a_ = K + 1 + 1 + 1 + 1) nn136 nn153 ∧ ((∀ z, z < j → nn153 (K + 1 + 1 + 1 + 1) z = vF (dot n (Vm n P B s) (fun zz => A zz z))) ∧ ∀ z y, y < n → z < j → nn153 (K + 1 + 1) (8 * y + z) = vF (rpa n P A y z))) → Rw (Ev d) k_L_costs (153, [], [some (.ref (a)), some (.ref (b)), some (.int (iI (vF (q)))), some (.int (iI (vF (r)))), some (.int (iI (((l : Nat) : Int)))), some (.int (iI (((n : Nat) : Int)))), some (.ref (K + 1)), some (.ref (K + 1 + 1)), some (.ref (K + 1 + 1 + 1)), some (.ref (K + 1 + 1 + 1 + 1)), some (.int (iI (((s : Nat) : Int)))), some (.int (iI (vF (mm)))), some (.int (iI (((j : Nat) : Int)))), x153_13, x153_14, x33_15, x33_16], [], hB X m p (K + 1 + 1 + 1 + 1) (shU (shU (shU (shU sh (K + 1) 64) (K + 1 + 1) 64) (K + 1 + 1 + 1) 8) (K + 1 + 1 + 1 + 1) 8) nn153, cc, ss) Qr := by
            refine loop_any (fun j hi153 ih153 => ?_)
            intro cc ss nn153 x153_13 x153_14
            intro hI
            obtain ⟨hF153, ⟨hk153, hw153⟩⟩ := hI
            refine rw_blk lk_L_costs_153 ?_
            refine rw_of (fun rr hrr => q_iload rfl (q_iload rfl hrr)) ?_
            refine rw_icmp_ge ⟨by omega, by omega⟩ ⟨by omega, by omega⟩ (t := 296) rfl (fun hc11 => ?_) (fun hc11 => ?_)
            · skip
              refine rw_blk lk_L_costs_296 ?_
              refine rw_of (fun rr hrr => q_iload rfl hrr) ?_
              have hL315 : ∀ i, i ≤ n → ∀ (cc ss : Nat) (nn315 : N2) (oi : F) (x315_14 : Option Value) (x315_15 : Option Value) (x315_16 : Option Value), (FrN (fun a_ => a_ = K + 1) nn153 nn315 ∧ ((0 < s → oi = iv mm) ∧ (s = 0 → oi = 0) ∧ (∀ z, z < i → ∀ c, c < n → nn315 (K + 1) (8 * z + c) = vF (Pm n A B C q r (s + 1) z c)) ∧ ∀ z c, z < 8 → c < 8 → ¬ (z < i ∧ c < n) → nn315 (K + 1) (8 * z + c) = nn153 (K + 1) (8 * z + c))) → Rw (Ev d) k_L_costs (315, [], [some (.ref (a)), some (.ref (b)), some (.int (iI (vF (q)))), some (.int (iI (vF (r)))), some (.int (iI (((l : Nat) : Int)))), some (.int (iI (((n : Nat) : Int)))), some (.ref (K + 1)), some (.ref (K + 1 + 1)), some (.ref (K + 1 + 1 + 1)), some (.ref (K + 1 + 1 + 1 + 1)), some (.int (iI (((s : Nat) : Int)))), some (.int (iI (vF (mm)))), some (.int (iI (vF (oi)))), some (.int (iI (((i : Nat) : Int)))), x315_14, x315_15, x315_16], [], hB X m p (K + 1 + 1 + 1 + 1) (shU (shU (shU (shU sh (K + 1) 64) (K + 1 + 1) 64) (K + 1 + 1 + 1) 8) (K + 1 + 1 + 1 + 1) 8) nn315, cc, ss) Qr := by
                refine loop_any (fun i hi315 ih315 => ?_)
                intro cc ss nn315 oi x315_14 x315_15 x315_16
                intro hI
                obtain ⟨hF315, ⟨ho1, ho2, hp315, hq315⟩⟩ := hI
                refine rw_blk lk_L_costs_315 ?_
                refine rw_of (fun rr hrr => q_iload rfl (q_iload rfl hrr)) ?_
                refine rw_icmp_ge ⟨by omega, by omega⟩ ⟨by omega, by omega⟩ (t := 462) rfl (fun hc12 => ?_) (fun hc12 => ?_)
                · skip
                  refine rw_blk lk_L_costs_462 ?_
                  refine rw_of (fun rr hrr => q_iinc rfl rfl (q_goto (t := 33) rfl hrr)) ?_
                  have hA13 : (Pm n A B C q r (s + 1)) = Pm n A B C q r (s + 1) ∧ Mv nn315 (K + 1) n (Pm n A B C q r (s + 1)) ∧ Zo nn315 (K + 1) n ∧ ((s + 1) = 0 → ∀ z, nn315 (K + 1 + 1 + 1) z = 0) := by
                    exact ⟨rfl, fun i hi j hj => hp315 i (by omega) j hj, fun i j h1 h2 h3 => (hq315 i j h1 h2 (by omega)).trans ((congrFun ((hF153 (K + 1) (by show ¬ ((K + 1) = K + 1 + 1 ∨ (K + 1) = K + 1 + 1 + 1 + 1); omega)).trans (hF136 (K + 1) (by show ¬ ((K + 1) = K + 1 + 1 + 1); omega))) _).trans (hz33 i j h1 h2 h3)), fun h => by omega⟩
                  exact rw_cast (ih33 (by omega) _ _ nn315 (Pm n A B C q r (s + 1)) (some (.int (iI (vF (mm))))) (some (.int (iI (vF (oi))))) (some (.int (iI (((i : Nat) : Int))))) x315_14 x315_15 x315_16 ⟨(fun a9 h9 => ((hF315 a9 (by show ¬ (a9 = K + 1); omega)).trans ((hF153 a9 (by show ¬ (a9 = K + 1 + 1 ∨ a9 = K + 1 + 1 + 1 + 1); omega)).trans ((hF136 a9 (by show ¬ (a9 = K + 1 + 1 + 1); omega)).trans (hF33 a9 (by show ¬ (a9 = K + 1 ∨ a9 = K + 1 + 1 ∨ a9 = K + 1 + 1 + 1 ∨ a9 = K + 1 + 1 + 1 + 1); omega)))))), hA13⟩) (lcons rfl (lcons rfl (lcons rfl (lcons rfl (lcons rfl (lcons rfl (lcons rfl (lcons rfl (lcons rfl (lcons rfl (lcons (lvI (by omega)) (lcons rfl (lcons rfl (lcons rfl (lcons rfl (lcons rfl (lcons rfl rfl))))))))))))))))) rfl
                · skip
                  refine rw_of (fun rr hrr => q_iconst (q_istore (Nat.le_of_ble_eq_true rfl) rfl hrr)) ?_
                  have hL325 : ∀ j, j ≤ n → ∀ (cc ss : Nat) (nn325 : N2) (x325_15 : Option Value) (x325_16 : Option Value), (FrN (fun a_ => a_ = K + 1) nn315 nn325 ∧ ((∀ z c, c < n → (z < i ∨ z = i ∧ c < j) → nn325 (K + 1) (8 * z + c) = vF (Pm n A B C q r (s + 1) z c)) ∧ ∀ z c, z < 8 → c < 8 → ¬ (c < n ∧ (z < i ∨ z = i ∧ c < j)) → nn325 (K + 1) (8 * z + c) = nn153 (K + 1) (8 * z + c))) → Rw (Ev d) k_L_costs (325, [], [some (.ref (a)), some (.ref (b)), some (.int (iI (vF (q)))), some (.int (iI (vF (r)))), some (.int (iI (((l : Nat) : Int)))), some (.int (iI (((n : Nat) : Int)))), some (.ref (K + 1)), some (.ref (K + 1 + 1)), some (.ref (K + 1 + 1 + 1)), some (.ref (K + 1 + 1 + 1 + 1)), some (.int (iI (((s : Nat) : Int)))), some (.int (iI (vF (mm)))), some (.int (iI (vF (oi)))), some (.int (iI (((i : Nat) : Int)))), some (.int (iI (((j : Nat) : Int)))), x325_15, x325_16], [], hB X m p (K + 1 + 1 + 1 + 1) (shU (shU (shU (shU sh (K + 1) 64) (K + 1 + 1) 64) (K + 1 + 1 + 1) 8) (K + 1 + 1 + 1 + 1) 8) nn325, cc, ss) Qr := by
                    refine loop_any (fun j hi325 ih325 => ?_)
                    intro cc ss nn325 x325_15 x325_16
                    intro hI
                    obtain ⟨hF325, ⟨hp325, hq325⟩⟩ := hI
                    refine rw_blk lk_L_costs_325 ?_
                    refine rw_of (fun rr hrr => q_iload rfl (q_iload rfl hrr)) ?_
                    refine rw_icmp_ge ⟨by omega, by omega⟩ ⟨by omega, by omega⟩ (t := 456) rfl (fun hc14 => ?_) (fun hc14 => ?_)
                    · skip
                      refine rw_blk lk_L_costs_456 ?_
                      refine rw_of (fun rr hrr => q_iinc rfl rfl (q_goto (t := 315) rfl hrr)) ?_
                      have hA15 : (0 < s → oi = iv mm) ∧ (s = 0 → oi = 0) ∧ (∀ z, z < (i + 1) → ∀ c, c < n → nn325 (K + 1) (8 * z + c) = vF (Pm n A B C q r (s + 1) z c)) ∧ ∀ z c, z < 8 → c < 8 → ¬ (z < (i + 1) ∧ c < n) → nn325 (K + 1) (8 * z + c) = nn153 (K + 1) (8 * z + c) := by
                        exact ⟨ho1, ho2, fun z hz c hc => hp325 z c hc (by omega), fun z c h1 h2 h3 => hq325 z c h1 h2 (by omega)⟩
                      exact rw_cast (ih315 (by omega) _ _ nn325 oi (some (.int (iI (((j : Nat) : Int))))) x325_15 x325_16 ⟨(fun a9 h9 => ((hF325 a9 (by show ¬ (a9 = K + 1); omega)).trans (hF315 a9 (by show ¬ (a9 = K + 1); omega)))), hA15⟩) (lcons rfl (lcons rfl (lcons rfl (lcons rfl (lcons rfl (lcons rfl (lcons rfl (lcons rfl (lcons rfl (lcons rfl (lcons rfl (lcons rfl (lcons (lvI (by rfl)) (lcons (lvI (by omega)) (lcons rfl (lcons rfl (lcons rfl rfl))))))))))))))))) rfl
                    · skip
                      refine rw_of (fun rr hrr => q_iload_n rfl (q_aload_n rfl (q_bipush rfl (q_iload rfl (q_iadd (q_lald (j := 8 + i) (Ro_new (Ro_new (Ro_new (Ro_new hb)))) (by omega) (by omega) (((congrFun (hF325 b (by show ¬ (b = K + 1); omega)) _).trans ((congrFun (hF315 b (by show ¬ (b = K + 1); omega)) _).trans ((congrFun (hF153 b (by show ¬ (b = K + 1 + 1 ∨ b = K + 1 + 1 + 1 + 1); omega)) _).trans ((congrFun (hF136 b (by show ¬ (b = K + 1 + 1 + 1); omega)) _).trans ((congrFun (hF33 b (by show ¬ (b = K + 1 ∨ b = K + 1 + 1 ∨ b = K + 1 + 1 + 1 ∨ b = K + 1 + 1 + 1 + 1); omega)) _).trans ((congrFun (kU hu7 (by omega)) _).trans ((congrFun (kU hu5 (by omega)) _).trans ((congrFun (kU hu3 (by omega)) _).trans (congrFun (kU hu1 (by omega)) _))))))))).trans (hcv i (by omega))) (q_imul (q_sipush rfl (q_irem (rg_times _ _) ⟨by omega, by omega⟩ (by omega) (remF (Int.mul_nonneg (vF_ge _) (vF_ge _)) (show toF ((vF (q) * vF (C i))) = ((q) * (C i)) by simp only [toF_add, toF_mul, toF_sub, toF_neg, toF_vF, toF_nat, toF_0, toF_1, toF_M, F_add0, F_0sub])) (q_aload_n rfl (q_bipush rfl (q_iload rfl (q_iadd (q_lald (j := 8 + j) (Ro_new (Ro_new (Ro_new (Ro_new hb)))) (by omega) (by omega) (((congrFun (hF325 b (by show ¬ (b = K + 1); omega)) _).trans ((congrFun (hF315 b (by show ¬ (b = K + 1); omega)) _).trans ((congrFun (hF153 b (by show ¬ (b = K + 1 + 1 ∨ b = K + 1 + 1 + 1 + 1); omega)) _).trans ((congrFun (hF136 b (by show ¬ (b = K + 1 + 1 + 1); omega)) _).trans ((congrFun (hF33 b (by show ¬ (b = K + 1 ∨ b = K + 1 + 1 ∨ b = K + 1 + 1 + 1 ∨ b = K + 1 + 1 + 1 + 1); omega)) _).trans ((congrFun (kU hu7 (by omega)) _).trans ((congrFun (kU hu5 (by omega)) _).trans ((congrFun (kU hu3 (by omega)) _).trans (congrFun (kU hu1 (by omega)) _))))))))).trans (hcv j (by omega))) (q_imul (q_sipush rfl (q_irem (rg_times _ _) ⟨by omega, by omega⟩ (by omega) (remF (Int.mul_nonneg (vF_ge _) (vF_ge _)) (show toF ((vF (((q) * (C i))) * vF (C j))) = ((((q) * (C i))) * (C j)) by simp only [toF_add, toF_mul, toF_sub, toF_neg, toF_vF, toF_nat, toF_0, toF_1, toF_M, F_add0, F_0sub])) (q_istore (Nat.le_of_ble_eq_true rfl) rfl (q_iconst (q_istore (Nat.le_of_ble_eq_true rfl) rfl hrr)))))))))))))))))))) ?_
                      have hL362 : ∀ e, e ≤ n → ∀ (cc ss : Nat) , ((0 < e → 0 < s)) → Rw (Ev d) k_L_costs (362, [], [some (.ref (a)), some (.ref (b)), some (.int (iI (vF (q)))), some (.int (iI (vF (r)))), some (.int (iI (((l : Nat) : Int)))), some (.int (iI (((n : Nat) : Int)))), some (.ref (K + 1)), some (.ref (K + 1 + 1)), some (.ref (K + 1 + 1 + 1)), some (.ref (K + 1 + 1 + 1 + 1)), some (.int (iI (((s : Nat) : Int)))), some (.int (iI (vF (mm)))), some (.int (iI (vF (oi)))), some (.int (iI (((i : Nat) : Int)))), some (.int (iI (((j : Nat) : Int)))), some (.int (iI (vF (q * C i * C j + dot e (fun zz => A zz i) (fun zz => rpa n P A zz j))))), some (.int (iI (((e : Nat) : Int))))], [], hB X m p (K + 1 + 1 + 1 + 1) (shU (shU (shU (shU sh (K + 1) 64) (K + 1 + 1) 64) (K + 1 + 1 + 1) 8) (K + 1 + 1 + 1 + 1) 8) nn325, cc, ss) Qr := by
                        refine loop_any (fun e hi362 ih362 => ?_)
                        intro cc ss
                        intro hI
                        have he362 := hI
                        refine rw_blk lk_L_costs_362 ?_
                        refine rw_of (fun rr hrr => q_iload rfl (q_iload rfl hrr)) ?_
                        refine rw_icmp_ge ⟨by omega, by omega⟩ ⟨by omega, by omega⟩ (t := 411) rfl (fun hc16 => ?_) (fun hc16 => ?_)
                        · skip
                          refine rw_blk lk_L_costs_411 ?_
                          refine rw_of (fun rr hrr => q_aload rfl (q_bipush rfl (q_iload rfl (q_imul (q_iload rfl (q_iadd (q_iload rfl (q_aload rfl (q_iload rfl (q_lald (j := i) (Ro_made (by omega)) rfl (by omega) (((congrFun (hF325 (K + 1 + 1 + 1 + 1) (by show ¬ ((K + 1 + 1 + 1 + 1) = K + 1); omega)) _).trans (congrFun (hF315 (K + 1 + 1 + 1 + 1) (by show ¬ ((K + 1 + 1 + 1 + 1) = K + 1); omega)) _)).trans (hk153 i (by omega))) (q_aload rfl (q_iload rfl (q_lald (j := j) (Ro_made (by omega)) rfl (by omega) (((congrFun (hF325 (K + 1 + 1 + 1 + 1) (by show ¬ ((K + 1 + 1 + 1 + 1) = K + 1); omega)) _).trans (congrFun (hF315 (K + 1 + 1 + 1 + 1) (by show ¬ ((K + 1 + 1 + 1 + 1) = K + 1); omega)) _)).trans (hk153 j (by omega))) (q_imul (q_sipush rfl (q_irem (rg_times _ _) ⟨by omega, by omega⟩ (by omega) (remF (Int.mul_nonneg (vF_ge _) (vF_ge _)) (show toF ((vF (dot n (Vm n P B s) (fun zz => A zz i)) * vF (dot n (Vm n P B s) (fun zz => A zz j)))) = ((dot n (Vm n P B s) (fun zz => A zz i)) * (dot n (Vm n P B s) (fun zz => A zz j))) by simp only [toF_add, toF_mul, toF_sub, toF_neg, toF_vF, toF_nat, toF_0, toF_1, toF_M, F_add0, F_0sub])) (q_iload rfl (q_imul (q_sipush rfl (q_irem (rg_times _ _) ⟨by omega, by omega⟩ (by omega) (remF (Int.mul_nonneg (vF_ge _) (vF_ge _)) (show toF ((vF (((dot n (Vm n P B s) (fun zz => A zz i)) * (dot n (Vm n P B s) (fun zz => A zz j)))) * vF (oi))) = ((((dot n (Vm n P B s) (fun zz => A zz i)) * (dot n (Vm n P B s) (fun zz => A zz j)))) * (oi)) by simp only [toF_add, toF_mul, toF_sub, toF_neg, toF_vF, toF_nat, toF_0, toF_1, toF_M, F_add0, F_0sub])) (q_isub hrr))))))))))))))))))))) ?_
                          obtain ⟨_, _, _, hV17, rfl, rfl, rfl⟩ := c_L_rest (S := (K + 1 + 1 + 1 + 1, gB X (shU (shU (shU (shU sh (K + 1) 64) (K + 1 + 1) 64) (K + 1 + 1 + 1) 8) (K + 1 + 1 + 1 + 1) 8) nn325)) (fz := false) (m := m) (p := p) (d := d) (by omega) ((vF (q * C i * C j + dot e (fun zz => A zz i) (fun zz => rpa n P A zz j)) - vF (((((dot n (Vm n P B s) (fun zz => A zz i)) * (dot n (Vm n P B s) (fun zz => A zz j)))) * (oi))))) (((q * C i * C j + dot e (fun zz => A zz i) (fun zz => rpa n P A zz j)) - (((((dot n (Vm n P B s) (fun zz => A zz i)) * (dot n (Vm n P B s) (fun zz => A zz j)))) * (oi))))) ⟨by have := vF_ge (q * C i * C j + dot e (fun zz => A zz i) (fun zz => rpa n P A zz j)); have := vF_lt (q * C i * C j + dot e (fun zz => A zz i) (fun zz => rpa n P A zz j)); have := vF_ge (((((dot n (Vm n P B s) (fun zz => A zz i)) * (dot n (Vm n P B s) (fun zz => A zz j)))) * (oi))); have := vF_lt (((((dot n (Vm n P B s) (fun zz => A zz i)) * (dot n (Vm n P B s) (fun zz => A zz j)))) * (oi))); omega, by have := vF_ge (q * C i * C j + dot e (fun zz => A zz i) (fun zz => rpa n P A zz j)); have := vF_lt (q * C i * C j + dot e (fun zz => A zz i) (fun zz => rpa n P A zz j)); have := vF_ge (((((dot n (Vm n P B s) (fun zz => A zz i)) * (dot n (Vm n P B s) (fun zz => A zz j)))) * (oi))); have := vF_lt (((((dot n (Vm n P B s) (fun zz => A zz i)) * (dot n (Vm n P B s) (fun zz => A zz j)))) * (oi))); omega⟩ (by simp only [toF_add, toF_mul, toF_sub, toF_neg, toF_vF, toF_nat, toF_0, toF_1, toF_M, F_add0, F_0sub])
                          refine rw_of (fun rr hrr => q_invS hV17 rfl rfl (okar_cons rfl okar_nil) (Nat.le_of_ble_eq_true rfl) (q_last (j := 8 * i + j) (Ro_new (Ro_new (Ro_new (Ro_made (by omega))))) (by omega) (by omega) hrr)) ?_
                          generalize hm18 : wI nn325 (K + 1) (8 * i + j) (vF (((q * C i * C j + dot e (fun zz => A zz i) (fun zz => rpa n P A zz j)) - (((((dot n (Vm n P B s) (fun zz => A zz i)) * (dot n (Vm n P B s) (fun zz => A zz j)))) * (oi)))))) = e19
                          refine rw_of (fun rr hrr => q_iinc rfl rfl (q_goto (t := 325) rfl hrr)) ?_
                          have hA20 : (∀ z c, c < n → (z < i ∨ z = i ∧ c < (j + 1)) → e19 (K + 1) (8 * z + c) = vF (Pm n A B C q r (s + 1) z c)) ∧ ∀ z c, z < 8 → c < 8 → ¬ (c < n ∧ (z < i ∨ z = i ∧ c < (j + 1))) → e19 (K + 1) (8 * z + c) = nn153 (K + 1) (8 * z + c) := by
                            refine ⟨fun z c hc hz => ?_, fun z c h1 h2 h3 => (kB hm18 (by omega)).trans (hq325 z c h1 h2 (by omega))⟩
                            by_cases q9 : z = i ∧ c = j
                            · rw [q9.1, q9.2, kA hm18]
                              refine congrArg vF ?_
                              have hs0 : 0 < s := he362 (by omega)
                              rw [Pm_s hs0 i j, ← hPs, ho1 hs0, hm136 hs0, show e = n by omega]
                              have ek : ∀ z, dot n (Vm n P B s) (fun zz => A zz z) = rap n P A B z := fun z => dot_congr (fun y _ => by unfold Vm; rw [if_neg (by omega)]) (fun _ _ => rfl)
                              rw [ek i, ek j]
                              unfold rq
                              grind
                            · exact (kB hm18 (by omega)).trans (hp325 z c hc (by omega))
                          exact rw_cast (ih325 (by omega) _ _ e19 (some (.int (iI (vF (q * C i * C j + dot e (fun zz => A zz i) (fun zz => rpa n P A zz j)))))) (some (.int (iI (((e : Nat) : Int))))) ⟨(fun a9 h9 => ((kN hm18 (by omega)).trans (hF325 a9 (by show ¬ (a9 = K + 1); omega)))), hA20⟩) (lcons rfl (lcons rfl (lcons rfl (lcons rfl (lcons rfl (lcons rfl (lcons rfl (lcons rfl (lcons rfl (lcons rfl (lcons rfl (lcons rfl (lcons rfl (lcons rfl (lcons (lvI (by omega)) (lcons rfl (lcons rfl rfl))))))))))))))))) rfl
                        · skip
                          refine rw_of (fun rr hrr => q_iload rfl hrr) ?_
                          refine rw_if_le ⟨by omega, by omega⟩ (t := 411) rfl (fun hc21 => ?_) (fun hc21 => ?_)
                          · skip
                            refine rw_blk lk_L_costs_411 ?_
                            refine rw_of (fun rr hrr => q_aload rfl (q_bipush rfl (q_iload rfl (q_imul (q_iload rfl (q_iadd (q_iload rfl (q_aload rfl (q_iload rfl (q_lald (j := i) (Ro_made (by omega)) rfl (by omega) (((congrFun (hF325 (K + 1 + 1 + 1 + 1) (by show ¬ ((K + 1 + 1 + 1 + 1) = K + 1); omega)) _).trans (congrFun (hF315 (K + 1 + 1 + 1 + 1) (by show ¬ ((K + 1 + 1 + 1 + 1) = K + 1); omega)) _)).trans (hk153 i (by omega))) (q_aload rfl (q_iload rfl (q_lald (j := j) (Ro_made (by omega)) rfl (by omega) (((congrFun (hF325 (K + 1 + 1 + 1 + 1) (by show ¬ ((K + 1 + 1 + 1 + 1) = K + 1); omega)) _).trans (congrFun (hF315 (K + 1 + 1 + 1 + 1) (by show ¬ ((K + 1 + 1 + 1 + 1) = K + 1); omega)) _)).trans (hk153 j (by omega))) (q_imul (q_sipush rfl (q_irem (rg_times _ _) ⟨by omega, by omega⟩ (by omega) (remF (Int.mul_nonneg (vF_ge _) (vF_ge _)) (show toF ((vF (dot n (Vm n P B s) (fun zz => A zz i)) * vF (dot n (Vm n P B s) (fun zz => A zz j)))) = ((dot n (Vm n P B s) (fun zz => A zz i)) * (dot n (Vm n P B s) (fun zz => A zz j))) by simp only [toF_add, toF_mul, toF_sub, toF_neg, toF_vF, toF_nat, toF_0, toF_1, toF_M, F_add0, F_0sub])) (q_iload rfl (q_imul (q_sipush rfl (q_irem (rg_times _ _) ⟨by omega, by omega⟩ (by omega) (remF (Int.mul_nonneg (vF_ge _) (vF_ge _)) (show toF ((vF (((dot n (Vm n P B s) (fun zz => A zz i)) * (dot n (Vm n P B s) (fun zz => A zz j)))) * vF (oi))) = ((((dot n (Vm n P B s) (fun zz => A zz i)) * (dot n (Vm n P B s) (fun zz => A zz j)))) * (oi)) by simp only [toF_add, toF_mul, toF_sub, toF_neg, toF_vF, toF_nat, toF_0, toF_1, toF_M, F_add0, F_0sub])) (q_isub hrr))))))))))))))))))))) ?_
                            obtain ⟨_, _, _, hV22, rfl, rfl, rfl⟩ := c_L_rest (S := (K + 1 + 1 + 1 + 1, gB X (shU (shU (shU (shU sh (K + 1) 64) (K + 1 + 1) 64) (K + 1 + 1 + 1) 8) (K + 1 + 1 + 1 + 1) 8) nn325)) (fz := false) (m := m) (p := p) (d := d) (by omega) ((vF (q * C i * C j + dot e (fun zz => A zz i) (fun zz => rpa n P A zz j)) - vF (((((dot n (Vm n P B s) (fun zz => A zz i)) * (dot n (Vm n P B s) (fun zz => A zz j)))) * (oi))))) (((q * C i * C j + dot e (fun zz => A zz i) (fun zz => rpa n P A zz j)) - (((((dot n (Vm n P B s) (fun zz => A zz i)) * (dot n (Vm n P B s) (fun zz => A zz j)))) * (oi))))) ⟨by have := vF_ge (q * C i * C j + dot e (fun zz => A zz i) (fun zz => rpa n P A zz j)); have := vF_lt (q * C i * C j + dot e (fun zz => A zz i) (fun zz => rpa n P A zz j)); have := vF_ge (((((dot n (Vm n P B s) (fun zz => A zz i)) * (dot n (Vm n P B s) (fun zz => A zz j)))) * (oi))); have := vF_lt (((((dot n (Vm n P B s) (fun zz => A zz i)) * (dot n (Vm n P B s) (fun zz => A zz j)))) * (oi))); omega, by have := vF_ge (q * C i * C j + dot e (fun zz => A zz i) (fun zz => rpa n P A zz j)); have := vF_lt (q * C i * C j + dot e (fun zz => A zz i) (fun zz => rpa n P A zz j)); have := vF_ge (((((dot n (Vm n P B s) (fun zz => A zz i)) * (dot n (Vm n P B s) (fun zz => A zz j)))) * (oi))); have := vF_lt (((((dot n (Vm n P B s) (fun zz => A zz i)) * (dot n (Vm n P B s) (fun zz => A zz j)))) * (oi))); omega⟩ (by simp only [toF_add, toF_mul, toF_sub, toF_neg, toF_vF, toF_nat, toF_0, toF_1, toF_M, F_add0, F_0sub])
                            refine rw_of (fun rr hrr => q_invS hV22 rfl rfl (okar_cons rfl okar_nil) (Nat.le_of_ble_eq_true rfl) (q_last (j := 8 * i + j) (Ro_new (Ro_new (Ro_new (Ro_made (by omega))))) (by omega) (by omega) hrr)) ?_
                            generalize hm23 : wI nn325 (K + 1) (8 * i + j) (vF (((q * C i * C j + dot e (fun zz => A zz i) (fun zz => rpa n P A zz j)) - (((((dot n (Vm n P B s) (fun zz => A zz i)) * (dot n (Vm n P B s) (fun zz => A zz j)))) * (oi)))))) = e24
                            refine rw_of (fun rr hrr => q_iinc rfl rfl (q_goto (t := 325) rfl hrr)) ?_
                            have hA25 : (∀ z c, c < n → (z < i ∨ z = i ∧ c < (j + 1)) → e24 (K + 1) (8 * z + c) = vF (Pm n A B C q r (s + 1) z c)) ∧ ∀ z c, z < 8 → c < 8 → ¬ (c < n ∧ (z < i ∨ z = i ∧ c < (j + 1))) → e24 (K + 1) (8 * z + c) = nn153 (K + 1) (8 * z + c) := by
                              refine ⟨fun z c hc hz => ?_, fun z c h1 h2 h3 => (kB hm23 (by omega)).trans (hq325 z c h1 h2 (by omega))⟩
                              by_cases q9 : z = i ∧ c = j
                              · rw [q9.1, q9.2, kA hm23]
                                refine congrArg vF ?_
                                have hs0 : s = 0 := by omega
                                rw [ho2 hs0, show e = 0 by have := he362; omega, dot_0, hs0]
                                show _ = q * (C i * C j)
                                grind
                              · exact (kB hm23 (by omega)).trans (hp325 z c hc (by omega))
                            exact rw_cast (ih325 (by omega) _ _ e24 (some (.int (iI (vF (q * C i * C j + dot e (fun zz => A zz i) (fun zz => rpa n P A zz j)))))) (some (.int (iI (((e : Nat) : Int))))) ⟨(fun a9 h9 => ((kN hm23 (by omega)).trans (hF325 a9 (by show ¬ (a9 = K + 1); omega)))), hA25⟩) (lcons rfl (lcons rfl (lcons rfl (lcons rfl (lcons rfl (lcons rfl (lcons rfl (lcons rfl (lcons rfl (lcons rfl (lcons rfl (lcons rfl (lcons rfl (lcons rfl (lcons (lvI (by omega)) (lcons rfl (lcons rfl rfl))))))))))))))))) rfl
                          · skip
                            refine rw_of (fun rr hrr => q_iload rfl (q_aload_n rfl (q_bipush rfl (q_iload rfl (q_imul (q_iload rfl (q_iadd (q_lald (j := 8 * e + i) (Ro_new (Ro_new (Ro_new (Ro_new ha)))) (by omega) (by omega) (((congrFun (hF325 a (by show ¬ (a = K + 1); omega)) _).trans ((congrFun (hF315 a (by show ¬ (a = K + 1); omega)) _).trans ((congrFun (hF153 a (by show ¬ (a = K + 1 + 1 ∨ a = K + 1 + 1 + 1 + 1); omega)) _).trans ((congrFun (hF136 a (by show ¬ (a = K + 1 + 1 + 1); omega)) _).trans ((congrFun (hF33 a (by show ¬ (a = K + 1 ∨ a = K + 1 + 1 ∨ a = K + 1 + 1 + 1 ∨ a = K + 1 + 1 + 1 + 1); omega)) _).trans ((congrFun (kU hu7 (by omega)) _).trans ((congrFun (kU hu5 (by omega)) _).trans ((congrFun (kU hu3 (by omega)) _).trans (congrFun (kU hu1 (by omega)) _))))))))).trans (hA e (by omega) i (by omega))) (q_aload rfl (q_bipush rfl (q_iload rfl (q_imul (q_iload rfl (q_iadd (q_lald (j := 8 * e + j) (Ro_new (Ro_new (Ro_made (by omega)))) (by omega) (by omega) (((congrFun (hF325 (K + 1 + 1) (by show ¬ ((K + 1 + 1) = K + 1); omega)) _).trans (congrFun (hF315 (K + 1 + 1) (by show ¬ ((K + 1 + 1) = K + 1); omega)) _)).trans (hw153 j e (by omega) (by omega))) (q_imul (q_iadd (q_sipush rfl (q_irem (by have := vF_ge (q * C i * C j + dot e (fun zz => A zz i) (fun zz => rpa n P A zz j)); have := vF_lt (q * C i * C j + dot e (fun zz => A zz i) (fun zz => rpa n P A zz j)); have := vF_ge (A e i); have := vF_lt (A e i); have := vF_ge (rpa n P A e j); have := vF_lt (rpa n P A e j); have := vF_mul_lt (A e i) (rpa n P A e j); have := Int.mul_nonneg (vF_ge (A e i)) (vF_ge (rpa n P A e j)); exact ⟨by omega, by omega⟩) ⟨by omega, by omega⟩ (by omega) (remF (by have := vF_ge (q * C i * C j + dot e (fun zz => A zz i) (fun zz => rpa n P A zz j)); have := vF_lt (q * C i * C j + dot e (fun zz => A zz i) (fun zz => rpa n P A zz j)); have := vF_ge (A e i); have := vF_lt (A e i); have := vF_ge (rpa n P A e j); have := vF_lt (rpa n P A e j); have := vF_mul_lt (A e i) (rpa n P A e j); have := Int.mul_nonneg (vF_ge (A e i)) (vF_ge (rpa n P A e j)); omega) (show toF ((vF (q * C i * C j + dot e (fun zz => A zz i) (fun zz => rpa n P A zz j)) + (vF (A e i) * vF (rpa n P A e j)))) = ((q * C i * C j + dot e (fun zz => A zz i) (fun zz => rpa n P A zz j)) + ((A e i) * (rpa n P A e j))) by simp only [toF_add, toF_mul, toF_sub, toF_neg, toF_vF, toF_nat, toF_0, toF_1, toF_M, F_add0, F_0sub])) (q_istore (Nat.le_of_ble_eq_true rfl) rfl (q_iinc rfl rfl (q_goto (t := 362) rfl hrr)))))))))))))))))))))) ?_
                            have hA26 : 0 < (e + 1) → 0 < s := by
                              exact fun _ => by omega
                            exact rw_cast (ih362 (by omega) _ _ hA26) (lcons rfl (lcons rfl (lcons rfl (lcons rfl (lcons rfl (lcons rfl (lcons rfl (lcons rfl (lcons rfl (lcons rfl (lcons rfl (lcons rfl (lcons rfl (lcons rfl (lcons rfl (lcons (lvI (by exact congrArg vF (by rw [dot_s]; grind))) (lcons (lvI (by omega)) rfl))))))))))))))))) rfl
                      have hA27 : 0 < 0 → 0 < s := by
                        exact fun h => by omega
                      exact rw_cast (hL362 0 (by omega) _ _ hA27) (lcons rfl (lcons rfl (lcons rfl (lcons rfl (lcons rfl (lcons rfl (lcons rfl (lcons rfl (lcons rfl (lcons rfl (lcons rfl (lcons rfl (lcons rfl (lcons rfl (lcons rfl (lcons (lvI (by exact congrArg vF (by rw [dot_0]; grind))) (lcons (lvI (by omega)) rfl))))))))))))))))) rfl
                  have hA28 : (∀ z c, c < n → (z < i ∨ z = i ∧ c < 0) → nn315 (K + 1) (8 * z + c) = vF (Pm n A B C q r (s + 1) z c)) ∧ ∀ z c, z < 8 → c < 8 → ¬ (c < n ∧ (z < i ∨ z = i ∧ c < 0)) → nn315 (K + 1) (8 * z + c) = nn153 (K + 1) (8 * z + c) := by
                    exact ⟨fun z c hc hz => hp315 z (by omega) c hc, fun z c h1 h2 h3 => hq315 z c h1 h2 (by omega)⟩
                  exact rw_cast (hL325 0 (by omega) _ _ nn315 x315_15 x315_16 ⟨(fun _ _ => rfl), hA28⟩) (lcons rfl (lcons rfl (lcons rfl (lcons rfl (lcons rfl (lcons rfl (lcons rfl (lcons rfl (lcons rfl (lcons rfl (lcons rfl (lcons rfl (lcons rfl (lcons rfl (lcons (lvI (by omega)) (lcons rfl (lcons rfl rfl))))))))))))))))) rfl
              refine rw_if_le ⟨by omega, by omega⟩ (t := 309) rfl (fun hc29 => ?_) (fun hc29 => ?_)
              · skip
                refine rw_blk lk_L_costs_309 ?_
                refine rw_of (fun rr hrr => q_iconst hrr) ?_
                refine rw_blk lk_L_costs_310 ?_
                refine rw_of (fun rr hrr => q_istore (Nat.le_of_ble_eq_true rfl) rfl (q_iconst (q_istore (Nat.le_of_ble_eq_true rfl) rfl hrr))) ?_
                have hA30 : (0 < s → ((0 : F)) = iv mm) ∧ (s = 0 → ((0 : F)) = 0) ∧ (∀ z, z < 0 → ∀ c, c < n → nn153 (K + 1) (8 * z + c) = vF (Pm n A B C q r (s + 1) z c)) ∧ ∀ z c, z < 8 → c < 8 → ¬ (z < 0 ∧ c < n) → nn153 (K + 1) (8 * z + c) = nn153 (K + 1) (8 * z + c) := by
                  refine ⟨fun h => ?_, fun h => ?_, fun z hz => absurd hz (Nat.not_lt_zero z), fun _ _ _ _ _ => rfl⟩
                  · first | rfl | (exfalso; omega)
                  · first | rfl | (exfalso; omega)
                exact rw_cast (hL315 0 (by omega) _ _ nn153 ((0 : F)) x153_14 x33_15 x33_16 ⟨(fun _ _ => rfl), hA30⟩) (lcons rfl (lcons rfl (lcons rfl (lcons rfl (lcons rfl (lcons rfl (lcons rfl (lcons rfl (lcons rfl (lcons rfl (lcons rfl (lcons rfl (lcons (lvI (by rfl)) (lcons (lvI (by omega)) (lcons rfl (lcons rfl (lcons rfl rfl))))))))))))))))) rfl
              · skip
                refine rw_of (fun rr hrr => q_iload rfl hrr) ?_
                obtain ⟨_, _, _, hV31, rfl, rfl, rfl⟩ := c_L_inverse (S := (K + 1 + 1 + 1 + 1, gB X (shU (shU (shU (shU sh (K + 1) 64) (K + 1 + 1) 64) (K + 1 + 1 + 1) 8) (K + 1 + 1 + 1 + 1) 8) nn153)) (fz := false) (m := m) (p := p) (d := d) (by omega) (vF (mm)) ((mm)) ⟨by have := vF_ge mm; have := vF_lt mm; omega, by have := vF_ge mm; have := vF_lt mm; omega⟩ (by simp only [toF_add, toF_mul, toF_sub, toF_neg, toF_vF, toF_nat, toF_0, toF_1, toF_M, F_add0, F_0sub])
                refine rw_of (fun rr hrr => q_invS hV31 rfl rfl (okar_cons rfl okar_nil) (Nat.le_of_ble_eq_true rfl) (q_goto (t := 310) rfl hrr)) ?_
                refine rw_blk lk_L_costs_310 ?_
                refine rw_of (fun rr hrr => q_istore (Nat.le_of_ble_eq_true rfl) rfl (q_iconst (q_istore (Nat.le_of_ble_eq_true rfl) rfl hrr))) ?_
                have hA32 : (0 < s → (iv ((mm))) = iv mm) ∧ (s = 0 → (iv ((mm))) = 0) ∧ (∀ z, z < 0 → ∀ c, c < n → nn153 (K + 1) (8 * z + c) = vF (Pm n A B C q r (s + 1) z c)) ∧ ∀ z c, z < 8 → c < 8 → ¬ (z < 0 ∧ c < n) → nn153 (K + 1) (8 * z + c) = nn153 (K + 1) (8 * z + c) := by
                  refine ⟨fun h => ?_, fun h => ?_, fun z hz => absurd hz (Nat.not_lt_zero z), fun _ _ _ _ _ => rfl⟩
                  · first | rfl | (exfalso; omega)
                  · first | rfl | (exfalso; omega)
                exact rw_cast (hL315 0 (by omega) _ _ nn153 (iv ((mm))) x153_14 x33_15 x33_16 ⟨(fun _ _ => rfl), hA32⟩) (lcons rfl (lcons rfl (lcons rfl (lcons rfl (lcons rfl (lcons rfl (lcons rfl (lcons rfl (lcons rfl (lcons rfl (lcons rfl (lcons rfl (lcons (lvI (by rfl)) (lcons (lvI (by omega)) (lcons rfl (lcons rfl (lcons rfl rfl))))))))))))))))) rfl
            · skip
              refine rw_of (fun rr hrr => q_aload rfl (q_iload rfl (q_iconst (q_last (j := j) (Ro_made (by omega)) rfl (by omega) hrr)))) ?_
              generalize hm34 : wI nn153 (K + 1 + 1 + 1 + 1) j (0) = e35
              refine rw_of (fun rr hrr => q_iconst (q_istore (Nat.le_of_ble_eq_true rfl) rfl hrr)) ?_
              have hL169 : ∀ i, i ≤ n → ∀ (cc ss : Nat) (nn169 : N2) (x169_14 : Option Value), (FrN (fun a_ => a_ = K + 1 + 1 ∨ a_ = K + 1 + 1 + 1 + 1) e35 nn169 ∧ (nn169 (K + 1 + 1 + 1 + 1) j = vF (dot i (Vm n P B s) (fun zz => A zz j)) ∧ (∀ z, z < j → nn169 (K + 1 + 1 + 1 + 1) z = vF (dot n (Vm n P B s) (fun zz => A zz z))) ∧ ∀ z y, y < n → (z < j ∨ z = j ∧ y < i) → nn169 (K + 1 + 1) (8 * y + z) = vF (rpa n P A y z))) → Rw (Ev d) k_L_costs (169, [], [some (.ref (a)), some (.ref (b)), some (.int (iI (vF (q)))), some (.int (iI (vF (r)))), some (.int (iI (((l : Nat) : Int)))), some (.int (iI (((n : Nat) : Int)))), some (.ref (K + 1)), some (.ref (K + 1 + 1)), some (.ref (K + 1 + 1 + 1)), some (.ref (K + 1 + 1 + 1 + 1)), some (.int (iI (((s : Nat) : Int)))), some (.int (iI (vF (mm)))), some (.int (iI (((j : Nat) : Int)))), some (.int (iI (((i : Nat) : Int)))), x169_14, x33_15, x33_16], [], hB X m p (K + 1 + 1 + 1 + 1) (shU (shU (shU (shU sh (K + 1) 64) (K + 1 + 1) 64) (K + 1 + 1 + 1) 8) (K + 1 + 1 + 1 + 1) 8) nn169, cc, ss) Qr := by
                refine loop_any (fun i hi169 ih169 => ?_)
                intro cc ss nn169 x169_14
                intro hI
                obtain ⟨hF169, ⟨hk169, hl169, hw169⟩⟩ := hI
                refine rw_blk lk_L_costs_169 ?_
                refine rw_of (fun rr hrr => q_iload rfl (q_iload rfl hrr)) ?_
                refine rw_icmp_ge ⟨by omega, by omega⟩ ⟨by omega, by omega⟩ (t := 290) rfl (fun hc36 => ?_) (fun hc36 => ?_)
                · skip
                  refine rw_blk lk_L_costs_290 ?_
                  refine rw_of (fun rr hrr => q_iinc rfl rfl (q_goto (t := 153) rfl hrr)) ?_
                  have hA37 : (∀ z, z < (j + 1) → nn169 (K + 1 + 1 + 1 + 1) z = vF (dot n (Vm n P B s) (fun zz => A zz z))) ∧ ∀ z y, y < n → z < (j + 1) → nn169 (K + 1 + 1) (8 * y + z) = vF (rpa n P A y z) := by
                    refine ⟨fun z hz => ?_, fun z y hy hz => hw169 z y hy (by omega)⟩
                    by_cases q9 : z = j
                    · rw [q9, hk169, show i = n by omega]
                    · exact hl169 z (by omega)
                  exact rw_cast (ih153 (by omega) _ _ nn169 (some (.int (iI (((i : Nat) : Int))))) x169_14 ⟨(fun a9 h9 => ((hF169 a9 (by show ¬ (a9 = K + 1 + 1 ∨ a9 = K + 1 + 1 + 1 + 1); omega)).trans ((kN hm34 (by omega)).trans (hF153 a9 (by show ¬ (a9 = K + 1 + 1 ∨ a9 = K + 1 + 1 + 1 + 1); omega))))), hA37⟩) (lcons rfl (lcons rfl (lcons rfl (lcons rfl (lcons rfl (lcons rfl (lcons rfl (lcons rfl (lcons rfl (lcons rfl (lcons rfl (lcons rfl (lcons (lvI (by omega)) (lcons rfl (lcons rfl (lcons rfl (lcons rfl rfl))))))))))))))))) rfl
                · skip
                  refine rw_of (fun rr hrr => q_aload rfl (q_iload rfl (q_aload rfl (q_iload rfl (q_lald (j := j) (Ro_made (by omega)) rfl (by omega) hk169 (q_aload rfl (q_iload rfl (q_lald (j := i) (Ro_new (Ro_made (by omega))) rfl (by omega) (((congrFun (hF169 (K + 1 + 1 + 1) (by show ¬ ((K + 1 + 1 + 1) = K + 1 + 1 ∨ (K + 1 + 1 + 1) = K + 1 + 1 + 1 + 1); omega)) _).trans ((congrFun (kN hm34 (by omega)) _).trans (congrFun (hF153 (K + 1 + 1 + 1) (by show ¬ ((K + 1 + 1 + 1) = K + 1 + 1 ∨ (K + 1 + 1 + 1) = K + 1 + 1 + 1 + 1); omega)) _))).trans (hv136 i (by omega))) (q_aload_n rfl (q_bipush rfl (q_iload rfl (q_imul (q_iload rfl (q_iadd (q_lald (j := 8 * i + j) (Ro_new (Ro_new (Ro_new (Ro_new ha)))) (by omega) (by omega) (((congrFun (hF169 a (by show ¬ (a = K + 1 + 1 ∨ a = K + 1 + 1 + 1 + 1); omega)) _).trans ((congrFun (kN hm34 (by omega)) _).trans ((congrFun (hF153 a (by show ¬ (a = K + 1 + 1 ∨ a = K + 1 + 1 + 1 + 1); omega)) _).trans ((congrFun (hF136 a (by show ¬ (a = K + 1 + 1 + 1); omega)) _).trans ((congrFun (hF33 a (by show ¬ (a = K + 1 ∨ a = K + 1 + 1 ∨ a = K + 1 + 1 + 1 ∨ a = K + 1 + 1 + 1 + 1); omega)) _).trans ((congrFun (kU hu7 (by omega)) _).trans ((congrFun (kU hu5 (by omega)) _).trans ((congrFun (kU hu3 (by omega)) _).trans (congrFun (kU hu1 (by omega)) _))))))))).trans (hA i (by omega) j (by omega))) (q_imul (q_iadd (q_sipush rfl (q_irem (by have := vF_ge (dot i (Vm n P B s) (fun zz => A zz j)); have := vF_lt (dot i (Vm n P B s) (fun zz => A zz j)); have := vF_ge (Vm n P B s i); have := vF_lt (Vm n P B s i); have := vF_ge (A i j); have := vF_lt (A i j); have := vF_mul_lt (Vm n P B s i) (A i j); have := Int.mul_nonneg (vF_ge (Vm n P B s i)) (vF_ge (A i j)); exact ⟨by omega, by omega⟩) ⟨by omega, by omega⟩ (by omega) (remF (by have := vF_ge (dot i (Vm n P B s) (fun zz => A zz j)); have := vF_lt (dot i (Vm n P B s) (fun zz => A zz j)); have := vF_ge (Vm n P B s i); have := vF_lt (Vm n P B s i); have := vF_ge (A i j); have := vF_lt (A i j); have := vF_mul_lt (Vm n P B s i) (A i j); have := Int.mul_nonneg (vF_ge (Vm n P B s i)) (vF_ge (A i j)); omega) (show toF ((vF (dot i (Vm n P B s) (fun zz => A zz j)) + (vF (Vm n P B s i) * vF (A i j)))) = ((dot i (Vm n P B s) (fun zz => A zz j)) + ((Vm n P B s i) * (A i j))) by simp only [toF_add, toF_mul, toF_sub, toF_neg, toF_vF, toF_nat, toF_0, toF_1, toF_M, F_add0, F_0sub])) (q_last (j := j) (Ro_made (by omega)) rfl (by omega) hrr)))))))))))))))))))) ?_
                  generalize hm38 : wI nn169 (K + 1 + 1 + 1 + 1) j (vF (((dot i (Vm n P B s) (fun zz => A zz j)) + ((Vm n P B s i) * (A i j))))) = e39
                  refine rw_of (fun rr hrr => q_aload rfl (q_bipush rfl (q_iload rfl (q_imul (q_iload rfl (q_iadd (q_iconst (q_last (j := 8 * i + j) (Ro_new (Ro_new (Ro_made (by omega)))) (by omega) (by omega) hrr)))))))) ?_
                  generalize hm40 : wI e39 (K + 1 + 1) (8 * i + j) (0) = e41
                  refine rw_of (fun rr hrr => q_iconst (q_istore (Nat.le_of_ble_eq_true rfl) rfl hrr)) ?_
                  have hL222 : ∀ e, e ≤ n → ∀ (cc ss : Nat) (nn222 : N2), (FrN (fun a_ => a_ = K + 1 + 1) e41 nn222 ∧ (nn222 (K + 1 + 1) (8 * i + j) = vF (dot e (P i) (fun zz => A zz j)) ∧ ∀ y, y ≠ 8 * i + j → nn222 (K + 1 + 1) y = e41 (K + 1 + 1) y)) → Rw (Ev d) k_L_costs (222, [], [some (.ref (a)), some (.ref (b)), some (.int (iI (vF (q)))), some (.int (iI (vF (r)))), some (.int (iI (((l : Nat) : Int)))), some (.int (iI (((n : Nat) : Int)))), some (.ref (K + 1)), some (.ref (K + 1 + 1)), some (.ref (K + 1 + 1 + 1)), some (.ref (K + 1 + 1 + 1 + 1)), some (.int (iI (((s : Nat) : Int)))), some (.int (iI (vF (mm)))), some (.int (iI (((j : Nat) : Int)))), some (.int (iI (((i : Nat) : Int)))), some (.int (iI (((e : Nat) : Int)))), x33_15, x33_16], [], hB X m p (K + 1 + 1 + 1 + 1) (shU (shU (shU (shU sh (K + 1) 64) (K + 1 + 1) 64) (K + 1 + 1 + 1) 8) (K + 1 + 1 + 1 + 1) 8) nn222, cc, ss) Qr := by
                    refine loop_any (fun e hi222 ih222 => ?_)
                    intro cc ss nn222
                    intro hI
                    obtain ⟨hF222, ⟨hw222, hu222⟩⟩ := hI
                    refine rw_blk lk_L_costs_222 ?_
                    refine rw_of (fun rr hrr => q_iload rfl (q_iload rfl hrr)) ?_
                    refine rw_icmp_ge ⟨by omega, by omega⟩ ⟨by omega, by omega⟩ (t := 284) rfl (fun hc42 => ?_) (fun hc42 => ?_)
                    · skip
                      refine rw_blk lk_L_costs_284 ?_
                      refine rw_of (fun rr hrr => q_iinc rfl rfl (q_goto (t := 169) rfl hrr)) ?_
                      have hA43 : nn222 (K + 1 + 1 + 1 + 1) j = vF (dot (i + 1) (Vm n P B s) (fun zz => A zz j)) ∧ (∀ z, z < j → nn222 (K + 1 + 1 + 1 + 1) z = vF (dot n (Vm n P B s) (fun zz => A zz z))) ∧ ∀ z y, y < n → (z < j ∨ z = j ∧ y < (i + 1)) → nn222 (K + 1 + 1) (8 * y + z) = vF (rpa n P A y z) := by
                        refine ⟨(congrFun (hF222 (K + 1 + 1 + 1 + 1) (by omega)) _).trans ((congrFun (kN hm40 (by omega)) _).trans ((kA hm38).trans (congrArg vF (by rw [dot_s])))), fun z hz => (congrFun (hF222 (K + 1 + 1 + 1 + 1) (by omega)) _).trans ((congrFun (kN hm40 (by omega)) _).trans ((kB hm38 (by omega)).trans (hl169 z hz))), fun z y hy hz => ?_⟩
                        by_cases q9 : z = j ∧ y = i
                        · rw [q9.1, q9.2]
                          exact hw222.trans (congrArg vF (by rw [show e = n by omega]; rfl))
                        · exact (hu222 (8 * y + z) (by omega)).trans ((kB hm40 (by omega)).trans ((congrFun (kN hm38 (by omega)) _).trans (hw169 z y hy (by omega))))
                      exact rw_cast (ih169 (by omega) _ _ nn222 (some (.int (iI (((e : Nat) : Int))))) ⟨(fun a9 h9 => ((hF222 a9 (by show ¬ (a9 = K + 1 + 1); omega)).trans ((kN hm40 (by omega)).trans ((kN hm38 (by omega)).trans (hF169 a9 (by show ¬ (a9 = K + 1 + 1 ∨ a9 = K + 1 + 1 + 1 + 1); omega)))))), hA43⟩) (lcons rfl (lcons rfl (lcons rfl (lcons rfl (lcons rfl (lcons rfl (lcons rfl (lcons rfl (lcons rfl (lcons rfl (lcons rfl (lcons rfl (lcons rfl (lcons (lvI (by omega)) (lcons rfl (lcons rfl (lcons rfl rfl))))))))))))))))) rfl
                    · skip
                      refine rw_of (fun rr hrr => q_aload rfl (q_bipush rfl (q_iload rfl (q_imul (q_iload rfl (q_iadd (q_aload rfl (q_bipush rfl (q_iload rfl (q_imul (q_iload rfl (q_iadd (q_lald (j := 8 * i + j) (Ro_new (Ro_new (Ro_made (by omega)))) (by omega) (by omega) hw222 (q_aload rfl (q_bipush rfl (q_iload rfl (q_imul (q_iload rfl (q_iadd (q_lald (j := 8 * i + e) (Ro_new (Ro_new (Ro_new (Ro_made (by omega))))) (by omega) (by omega) (((congrFun (hF222 (K + 1) (by show ¬ ((K + 1) = K + 1 + 1); omega)) _).trans ((congrFun (kN hm40 (by omega)) _).trans ((congrFun (kN hm38 (by omega)) _).trans ((congrFun (hF169 (K + 1) (by show ¬ ((K + 1) = K + 1 + 1 ∨ (K + 1) = K + 1 + 1 + 1 + 1); omega)) _).trans ((congrFun (kN hm34 (by omega)) _).trans ((congrFun (hF153 (K + 1) (by show ¬ ((K + 1) = K + 1 + 1 ∨ (K + 1) = K + 1 + 1 + 1 + 1); omega)) _).trans (congrFun (hF136 (K + 1) (by show ¬ ((K + 1) = K + 1 + 1 + 1); omega)) _))))))).trans (hp33 i (by omega) e (by omega))) (q_aload_n rfl (q_bipush rfl (q_iload rfl (q_imul (q_iload rfl (q_iadd (q_lald (j := 8 * e + j) (Ro_new (Ro_new (Ro_new (Ro_new ha)))) (by omega) (by omega) (((congrFun (hF222 a (by show ¬ (a = K + 1 + 1); omega)) _).trans ((congrFun (kN hm40 (by omega)) _).trans ((congrFun (kN hm38 (by omega)) _).trans ((congrFun (hF169 a (by show ¬ (a = K + 1 + 1 ∨ a = K + 1 + 1 + 1 + 1); omega)) _).trans ((congrFun (kN hm34 (by omega)) _).trans ((congrFun (hF153 a (by show ¬ (a = K + 1 + 1 ∨ a = K + 1 + 1 + 1 + 1); omega)) _).trans ((congrFun (hF136 a (by show ¬ (a = K + 1 + 1 + 1); omega)) _).trans ((congrFun (hF33 a (by show ¬ (a = K + 1 ∨ a = K + 1 + 1 ∨ a = K + 1 + 1 + 1 ∨ a = K + 1 + 1 + 1 + 1); omega)) _).trans ((congrFun (kU hu7 (by omega)) _).trans ((congrFun (kU hu5 (by omega)) _).trans ((congrFun (kU hu3 (by omega)) _).trans (congrFun (kU hu1 (by omega)) _)))))))))))).trans (hA e (by omega) j (by omega))) (q_imul (q_iadd (q_sipush rfl (q_irem (by have := vF_ge (dot e (P i) (fun zz => A zz j)); have := vF_lt (dot e (P i) (fun zz => A zz j)); have := vF_ge (P i e); have := vF_lt (P i e); have := vF_ge (A e j); have := vF_lt (A e j); have := vF_mul_lt (P i e) (A e j); have := Int.mul_nonneg (vF_ge (P i e)) (vF_ge (A e j)); exact ⟨by omega, by omega⟩) ⟨by omega, by omega⟩ (by omega) (remF (by have := vF_ge (dot e (P i) (fun zz => A zz j)); have := vF_lt (dot e (P i) (fun zz => A zz j)); have := vF_ge (P i e); have := vF_lt (P i e); have := vF_ge (A e j); have := vF_lt (A e j); have := vF_mul_lt (P i e) (A e j); have := Int.mul_nonneg (vF_ge (P i e)) (vF_ge (A e j)); omega) (show toF ((vF (dot e (P i) (fun zz => A zz j)) + (vF (P i e) * vF (A e j)))) = ((dot e (P i) (fun zz => A zz j)) + ((P i e) * (A e j))) by simp only [toF_add, toF_mul, toF_sub, toF_neg, toF_vF, toF_nat, toF_0, toF_1, toF_M, F_add0, F_0sub])) (q_last (j := 8 * i + j) (Ro_new (Ro_new (Ro_made (by omega)))) (by omega) (by omega) hrr)))))))))))))))))))))))))))))))) ?_
                      generalize hm44 : wI nn222 (K + 1 + 1) (8 * i + j) (vF (((dot e (P i) (fun zz => A zz j)) + ((P i e) * (A e j))))) = e45
                      refine rw_of (fun rr hrr => q_iinc rfl rfl (q_goto (t := 222) rfl hrr)) ?_
                      have hA47 : e45 (K + 1 + 1) (8 * i + j) = vF (dot (e + 1) (P i) (fun zz => A zz j)) ∧ ∀ y, y ≠ 8 * i + j → e45 (K + 1 + 1) y = e41 (K + 1 + 1) y := by
                        exact ⟨(kA hm44).trans (congrArg vF (by rw [dot_s])), fun y hy => (kB hm44 hy).trans (hu222 y hy)⟩
                      exact rw_cast (ih222 (by omega) _ _ e45 ⟨(fun a9 h9 => ((kN hm44 (by omega)).trans (hF222 a9 (by show ¬ (a9 = K + 1 + 1); omega)))), hA47⟩) (lcons rfl (lcons rfl (lcons rfl (lcons rfl (lcons rfl (lcons rfl (lcons rfl (lcons rfl (lcons rfl (lcons rfl (lcons rfl (lcons rfl (lcons rfl (lcons rfl (lcons (lvI (by omega)) (lcons rfl (lcons rfl rfl))))))))))))))))) rfl
                  have hA48 : e41 (K + 1 + 1) (8 * i + j) = vF (dot 0 (P i) (fun zz => A zz j)) ∧ ∀ y, y ≠ 8 * i + j → e41 (K + 1 + 1) y = e41 (K + 1 + 1) y := by
                    exact ⟨(kA hm40).trans rfl, fun _ _ => rfl⟩
                  exact rw_cast (hL222 0 (by omega) _ _ e41 ⟨(fun _ _ => rfl), hA48⟩) (lcons rfl (lcons rfl (lcons rfl (lcons rfl (lcons rfl (lcons rfl (lcons rfl (lcons rfl (lcons rfl (lcons rfl (lcons rfl (lcons rfl (lcons rfl (lcons rfl (lcons (lvI (by omega)) (lcons rfl (lcons rfl rfl))))))))))))))))) rfl
              have hA49 : e35 (K + 1 + 1 + 1 + 1) j = vF (dot 0 (Vm n P B s) (fun zz => A zz j)) ∧ (∀ z, z < j → e35 (K + 1 + 1 + 1 + 1) z = vF (dot n (Vm n P B s) (fun zz => A zz z))) ∧ ∀ z y, y < n → (z < j ∨ z = j ∧ y < 0) → e35 (K + 1 + 1) (8 * y + z) = vF (rpa n P A y z) := by
                exact ⟨(kA hm34).trans rfl, fun z hz => (kB hm34 (by omega)).trans (hk153 z hz), fun z y hy hz => (congrFun (kN hm34 (by omega)) _).trans (hw153 z y hy (by omega))⟩
              exact rw_cast (hL169 0 (by omega) _ _ e35 x153_14 ⟨(fun _ _ => rfl), hA49⟩) (lcons rfl (lcons rfl (lcons rfl (lcons rfl (lcons rfl (lcons rfl (lcons rfl (lcons rfl (lcons rfl (lcons rfl (lcons rfl (lcons rfl (lcons rfl (lcons (lvI (by omega)) (lcons rfl (lcons rfl (lcons rfl rfl))))))))))))))))) rfl
          have hA50 : (∀ z, z < 0 → nn136 (K + 1 + 1 + 1 + 1) z = vF (dot n (Vm n P B s) (fun zz => A zz z))) ∧ ∀ z y, y < n → z < 0 → nn136 (K + 1 + 1) (8 * y + z) = vF (rpa n P A y z) := by
            exact ⟨fun z hz => absurd hz (Nat.not_lt_zero z), fun z _ _ hz => absurd hz (Nat.not_lt_zero z)⟩
          exact rw_cast (hL153 0 (by omega) _ _ nn136 x136_13 x33_14 ⟨(fun _ _ => rfl), hA50⟩) (lcons rfl (lcons rfl (lcons rfl (lcons rfl (lcons rfl (lcons rfl (lcons rfl (lcons rfl (lcons rfl (lcons rfl (lcons rfl (lcons rfl (lcons (lvI (by omega)) (lcons rfl (lcons rfl (lcons rfl (lcons rfl rfl))))))))))))))))) rfl
        refine rw_if_le ⟨by omega, by omega⟩ (t := 150) rfl (fun hc51 => ?_) (fun hc51 => ?_)
        · skip
          have hA52 : s ≤ l := by
            omega
          exact rw_cast (hL150 _ _ hA52) rfl rfl
        · skip
          refine rw_of (fun rr hrr => q_iload rfl hrr) ?_
          refine rw_if_ne (rg_vF _) (t := 150) rfl (fun hc53 => ?_) (fun hc53 => ?_)
          · skip
            have hA54 : s ≤ l := by
              omega
            exact rw_cast (hL150 _ _ hA54) rfl rfl
          · have hs0 : 0 < s := by omega
            have e9 := hm136 hs0
            exact absurd ((vF_eq0.mp hc53).symm.trans (e9.trans (by rw [hPs, show s = (s - 1) + 1 by omega]; rfl))).symm (hr (s - 1) (by omega))
      refine rw_of (fun rr hrr => q_istore (Nat.le_of_ble_eq_true rfl) rfl hrr) ?_
      have hL46 : ∀ i, i ≤ n → ∀ (cc ss : Nat) (nn46 : N2) (x46_13 : Option Value), (FrN (fun a_ => a_ = K + 1 + 1 + 1) nn33 nn46 ∧ ((∀ z, z < i → nn46 (K + 1 + 1 + 1) z = vF (rb n P B z)) ∧ (0 < i → 0 < s) ∧ (s = 0 → ∀ z, nn46 (K + 1 + 1 + 1) z = 0))) → Rw (Ev d) k_L_costs (46, [], [some (.ref (a)), some (.ref (b)), some (.int (iI (vF (q)))), some (.int (iI (vF (r)))), some (.int (iI (((l : Nat) : Int)))), some (.int (iI (((n : Nat) : Int)))), some (.ref (K + 1)), some (.ref (K + 1 + 1)), some (.ref (K + 1 + 1 + 1)), some (.ref (K + 1 + 1 + 1 + 1)), some (.int (iI (((s : Nat) : Int)))), some (.int (iI (vF (r + dot i B (rb n P B))))), some (.int (iI (((i : Nat) : Int)))), x46_13, x33_14, x33_15, x33_16], [], hB X m p (K + 1 + 1 + 1 + 1) (shU (shU (shU (shU sh (K + 1) 64) (K + 1 + 1) 64) (K + 1 + 1 + 1) 8) (K + 1 + 1 + 1 + 1) 8) nn46, cc, ss) Qr := by
        refine loop_any (fun i hi46 ih46 => ?_)
        intro cc ss nn46 x46_13
        intro hI
        obtain ⟨hF46, ⟨hv46, hi46, hz46⟩⟩ := hI
        refine rw_blk lk_L_costs_46 ?_
        refine rw_of (fun rr hrr => q_iload rfl (q_iload rfl hrr)) ?_
        refine rw_icmp_ge ⟨by omega, by omega⟩ ⟨by omega, by omega⟩ (t := 136) rfl (fun hc55 => ?_) (fun hc55 => ?_)
        · skip
          have hA56 : (∀ z, z < n → nn46 (K + 1 + 1 + 1) z = vF (Vm n P B s z)) ∧ (0 < s → (r + dot i B (rb n P B)) = rm n P B r) := by
            have hs0 : 0 < s := hi46 (by omega)
            refine ⟨fun z hz => ?_, fun _ => by rw [show i = n by omega]; rfl⟩
            rw [hv46 z (by omega)]
            unfold Vm
            rw [if_neg (by omega)]
          exact rw_cast (hL136 _ _ nn46 (r + dot i B (rb n P B)) (some (.int (iI (((i : Nat) : Int))))) x46_13 ⟨(fun a9 h9 => (hF46 a9 (by show ¬ (a9 = K + 1 + 1 + 1); omega))), hA56⟩) (lcons rfl (lcons rfl (lcons rfl (lcons rfl (lcons rfl (lcons rfl (lcons rfl (lcons rfl (lcons rfl (lcons rfl (lcons rfl (lcons (lvI (by exact congrArg vF (by first | rfl | grind))) (lcons rfl (lcons rfl (lcons rfl (lcons rfl (lcons rfl rfl))))))))))))))))) rfl
        · skip
          refine rw_of (fun rr hrr => q_iload rfl hrr) ?_
          refine rw_if_le ⟨by omega, by omega⟩ (t := 136) rfl (fun hc57 => ?_) (fun hc57 => ?_)
          · skip
            have hA58 : (∀ z, z < n → nn46 (K + 1 + 1 + 1) z = vF (Vm n P B s z)) ∧ (0 < s → (r + dot i B (rb n P B)) = rm n P B r) := by
              refine ⟨fun z hz => ?_, fun h => by omega⟩
              rw [hz46 (by omega) z]
              unfold Vm
              rw [if_pos (by omega)]
              rfl
            exact rw_cast (hL136 _ _ nn46 (r + dot i B (rb n P B)) (some (.int (iI (((i : Nat) : Int))))) x46_13 ⟨(fun a9 h9 => (hF46 a9 (by show ¬ (a9 = K + 1 + 1 + 1); omega))), hA58⟩) (lcons rfl (lcons rfl (lcons rfl (lcons rfl (lcons rfl (lcons rfl (lcons rfl (lcons rfl (lcons rfl (lcons rfl (lcons rfl (lcons (lvI (by exact congrArg vF (by first | rfl | grind))) (lcons rfl (lcons rfl (lcons rfl (lcons rfl (lcons rfl rfl))))))))))))))))) rfl
          · skip
            refine rw_of (fun rr hrr => q_aload rfl (q_iload rfl (q_iconst (q_last (j := i) (Ro_new (Ro_made (by omega))) rfl (by omega) hrr)))) ?_
            generalize hm59 : wI nn46 (K + 1 + 1 + 1) i (0) = e60
            refine rw_of (fun rr hrr => q_iconst (q_istore (Nat.le_of_ble_eq_true rfl) rfl hrr)) ?_
            have hL67 : ∀ j, j ≤ n → ∀ (cc ss : Nat) (nn67 : N2), (FrN (fun a_ => a_ = K + 1 + 1 + 1) e60 nn67 ∧ (nn67 (K + 1 + 1 + 1) i = vF (dot j (P i) B) ∧ ∀ z, z < i → nn67 (K + 1 + 1 + 1) z = vF (rb n P B z))) → Rw (Ev d) k_L_costs (67, [], [some (.ref (a)), some (.ref (b)), some (.int (iI (vF (q)))), some (.int (iI (vF (r)))), some (.int (iI (((l : Nat) : Int)))), some (.int (iI (((n : Nat) : Int)))), some (.ref (K + 1)), some (.ref (K + 1 + 1)), some (.ref (K + 1 + 1 + 1)), some (.ref (K + 1 + 1 + 1 + 1)), some (.int (iI (((s : Nat) : Int)))), some (.int (iI (vF (r + dot i B (rb n P B))))), some (.int (iI (((i : Nat) : Int)))), some (.int (iI (((j : Nat) : Int)))), x33_14, x33_15, x33_16], [], hB X m p (K + 1 + 1 + 1 + 1) (shU (shU (shU (shU sh (K + 1) 64) (K + 1 + 1) 64) (K + 1 + 1 + 1) 8) (K + 1 + 1 + 1 + 1) 8) nn67, cc, ss) Qr := by
              refine loop_any (fun j hi67 ih67 => ?_)
              intro cc ss nn67
              intro hI
              obtain ⟨hF67, ⟨hv67, hw67⟩⟩ := hI
              refine rw_blk lk_L_costs_67 ?_
              refine rw_of (fun rr hrr => q_iload rfl (q_iload rfl hrr)) ?_
              refine rw_icmp_ge ⟨by omega, by omega⟩ ⟨by omega, by omega⟩ (t := 111) rfl (fun hc61 => ?_) (fun hc61 => ?_)
              · skip
                refine rw_blk lk_L_costs_111 ?_
                refine rw_of (fun rr hrr => q_iload rfl (q_aload_n rfl (q_iload rfl (q_lald (j := i) (Ro_new (Ro_new (Ro_new (Ro_new hb)))) rfl (by omega) (((congrFun (hF67 b (by show ¬ (b = K + 1 + 1 + 1); omega)) _).trans ((congrFun (kN hm59 (by omega)) _).trans ((congrFun (hF46 b (by show ¬ (b = K + 1 + 1 + 1); omega)) _).trans ((congrFun (hF33 b (by show ¬ (b = K + 1 ∨ b = K + 1 + 1 ∨ b = K + 1 + 1 + 1 ∨ b = K + 1 + 1 + 1 + 1); omega)) _).trans ((congrFun (kU hu7 (by omega)) _).trans ((congrFun (kU hu5 (by omega)) _).trans ((congrFun (kU hu3 (by omega)) _).trans (congrFun (kU hu1 (by omega)) _)))))))).trans (hbv i (by omega))) (q_aload rfl (q_iload rfl (q_lald (j := i) (Ro_new (Ro_made (by omega))) rfl (by omega) hv67 (q_imul (q_iadd (q_sipush rfl (q_irem (by have := vF_ge (r + dot i B (rb n P B)); have := vF_lt (r + dot i B (rb n P B)); have := vF_ge (B i); have := vF_lt (B i); have := vF_ge (dot j (P i) B); have := vF_lt (dot j (P i) B); have := vF_mul_lt (B i) (dot j (P i) B); have := Int.mul_nonneg (vF_ge (B i)) (vF_ge (dot j (P i) B)); exact ⟨by omega, by omega⟩) ⟨by omega, by omega⟩ (by omega) (remF (by have := vF_ge (r + dot i B (rb n P B)); have := vF_lt (r + dot i B (rb n P B)); have := vF_ge (B i); have := vF_lt (B i); have := vF_ge (dot j (P i) B); have := vF_lt (dot j (P i) B); have := vF_mul_lt (B i) (dot j (P i) B); have := Int.mul_nonneg (vF_ge (B i)) (vF_ge (dot j (P i) B)); omega) (show toF ((vF (r + dot i B (rb n P B)) + (vF (B i) * vF (dot j (P i) B)))) = ((r + dot i B (rb n P B)) + ((B i) * (dot j (P i) B))) by simp only [toF_add, toF_mul, toF_sub, toF_neg, toF_vF, toF_nat, toF_0, toF_1, toF_M, F_add0, F_0sub])) (q_istore (Nat.le_of_ble_eq_true rfl) rfl (q_iinc rfl rfl (q_goto (t := 46) rfl hrr)))))))))))))) ?_
                have hA62 : (∀ z, z < (i + 1) → nn67 (K + 1 + 1 + 1) z = vF (rb n P B z)) ∧ (0 < (i + 1) → 0 < s) ∧ (s = 0 → ∀ z, nn67 (K + 1 + 1 + 1) z = 0) := by
                  refine ⟨fun z hz => ?_, fun _ => by omega, fun h => by omega⟩
                  by_cases q9 : z = i
                  · rw [q9]
                    exact hv67.trans (congrArg vF (by rw [show j = n by omega]; rfl))
                  · exact hw67 z (by omega)
                exact rw_cast (ih46 (by omega) _ _ nn67 (some (.int (iI (((j : Nat) : Int))))) ⟨(fun a9 h9 => ((hF67 a9 (by show ¬ (a9 = K + 1 + 1 + 1); omega)).trans ((kN hm59 (by omega)).trans (hF46 a9 (by show ¬ (a9 = K + 1 + 1 + 1); omega))))), hA62⟩) (lcons rfl (lcons rfl (lcons rfl (lcons rfl (lcons rfl (lcons rfl (lcons rfl (lcons rfl (lcons rfl (lcons rfl (lcons rfl (lcons (lvI (by exact congrArg vF (by rw [dot_s]; show _ = r + (dot i B (rb n P B) + B i * dot n (P i) B); rw [show j = n by omega]; grind))) (lcons (lvI (by omega)) (lcons rfl (lcons rfl (lcons rfl (lcons rfl rfl))))))))))))))))) rfl
              · skip
                refine rw_of (fun rr hrr => q_aload rfl (q_iload rfl (q_aload rfl (q_iload rfl (q_lald (j := i) (Ro_new (Ro_made (by omega))) rfl (by omega) hv67 (q_aload rfl (q_bipush rfl (q_iload rfl (q_imul (q_iload rfl (q_iadd (q_lald (j := 8 * i + j) (Ro_new (Ro_new (Ro_new (Ro_made (by omega))))) (by omega) (by omega) (((congrFun (hF67 (K + 1) (by show ¬ ((K + 1) = K + 1 + 1 + 1); omega)) _).trans ((congrFun (kN hm59 (by omega)) _).trans (congrFun (hF46 (K + 1) (by show ¬ ((K + 1) = K + 1 + 1 + 1); omega)) _))).trans (hp33 i (by omega) j (by omega))) (q_aload_n rfl (q_iload rfl (q_lald (j := j) (Ro_new (Ro_new (Ro_new (Ro_new hb)))) rfl (by omega) (((congrFun (hF67 b (by show ¬ (b = K + 1 + 1 + 1); omega)) _).trans ((congrFun (kN hm59 (by omega)) _).trans ((congrFun (hF46 b (by show ¬ (b = K + 1 + 1 + 1); omega)) _).trans ((congrFun (hF33 b (by show ¬ (b = K + 1 ∨ b = K + 1 + 1 ∨ b = K + 1 + 1 + 1 ∨ b = K + 1 + 1 + 1 + 1); omega)) _).trans ((congrFun (kU hu7 (by omega)) _).trans ((congrFun (kU hu5 (by omega)) _).trans ((congrFun (kU hu3 (by omega)) _).trans (congrFun (kU hu1 (by omega)) _)))))))).trans (hbv j (by omega))) (q_imul (q_iadd (q_sipush rfl (q_irem (by have := vF_ge (dot j (P i) B); have := vF_lt (dot j (P i) B); have := vF_ge (P i j); have := vF_lt (P i j); have := vF_ge (B j); have := vF_lt (B j); have := vF_mul_lt (P i j) (B j); have := Int.mul_nonneg (vF_ge (P i j)) (vF_ge (B j)); exact ⟨by omega, by omega⟩) ⟨by omega, by omega⟩ (by omega) (remF (by have := vF_ge (dot j (P i) B); have := vF_lt (dot j (P i) B); have := vF_ge (P i j); have := vF_lt (P i j); have := vF_ge (B j); have := vF_lt (B j); have := vF_mul_lt (P i j) (B j); have := Int.mul_nonneg (vF_ge (P i j)) (vF_ge (B j)); omega) (show toF ((vF (dot j (P i) B) + (vF (P i j) * vF (B j)))) = ((dot j (P i) B) + ((P i j) * (B j))) by simp only [toF_add, toF_mul, toF_sub, toF_neg, toF_vF, toF_nat, toF_0, toF_1, toF_M, F_add0, F_0sub])) (q_last (j := i) (Ro_new (Ro_made (by omega))) rfl (by omega) hrr)))))))))))))))))))) ?_
                generalize hm63 : wI nn67 (K + 1 + 1 + 1) i (vF (((dot j (P i) B) + ((P i j) * (B j))))) = e64
                refine rw_of (fun rr hrr => q_iinc rfl rfl (q_goto (t := 67) rfl hrr)) ?_
                have hA65 : e64 (K + 1 + 1 + 1) i = vF (dot (j + 1) (P i) B) ∧ ∀ z, z < i → e64 (K + 1 + 1 + 1) z = vF (rb n P B z) := by
                  exact ⟨(kA hm63).trans (congrArg vF (by rw [dot_s])), fun z hz => (kB hm63 (by omega)).trans (hw67 z hz)⟩
                exact rw_cast (ih67 (by omega) _ _ e64 ⟨(fun a9 h9 => ((kN hm63 (by omega)).trans (hF67 a9 (by show ¬ (a9 = K + 1 + 1 + 1); omega)))), hA65⟩) (lcons rfl (lcons rfl (lcons rfl (lcons rfl (lcons rfl (lcons rfl (lcons rfl (lcons rfl (lcons rfl (lcons rfl (lcons rfl (lcons rfl (lcons rfl (lcons (lvI (by omega)) (lcons rfl (lcons rfl (lcons rfl rfl))))))))))))))))) rfl
            have hA66 : e60 (K + 1 + 1 + 1) i = vF (dot 0 (P i) B) ∧ ∀ z, z < i → e60 (K + 1 + 1 + 1) z = vF (rb n P B z) := by
              exact ⟨(kA hm59).trans rfl, fun z hz => (kB hm59 (by omega)).trans (hv46 z hz)⟩
            exact rw_cast (hL67 0 (by omega) _ _ e60 ⟨(fun _ _ => rfl), hA66⟩) (lcons rfl (lcons rfl (lcons rfl (lcons rfl (lcons rfl (lcons rfl (lcons rfl (lcons rfl (lcons rfl (lcons rfl (lcons rfl (lcons rfl (lcons rfl (lcons (lvI (by omega)) (lcons rfl (lcons rfl (lcons rfl rfl))))))))))))))))) rfl
      have hA68 : (∀ z, z < 0 → nn33 (K + 1 + 1 + 1) z = vF (rb n P B z)) ∧ (0 < 0 → 0 < s) ∧ (s = 0 → ∀ z, nn33 (K + 1 + 1 + 1) z = 0) := by
        exact ⟨fun z hz => absurd hz (Nat.not_lt_zero z), fun h => by omega, hv33⟩
      exact rw_cast (hL46 0 (by omega) _ _ nn33 x33_13 ⟨(fun _ _ => rfl), hA68⟩) (lcons rfl (lcons rfl (lcons rfl (lcons rfl (lcons rfl (lcons rfl (lcons rfl (lcons rfl (lcons rfl (lcons rfl (lcons rfl (lcons (lvI (by exact congrArg vF (by rw [dot_0]; grind))) (lcons (lvI (by omega)) (lcons rfl (lcons rfl (lcons rfl (lcons rfl rfl))))))))))))))))) rfl
  have hA69 : (fun _ _ => 0) = Pm n A B C q r 0 ∧ Mv e8 (K + 1) n (fun _ _ => 0) ∧ Zo e8 (K + 1) n ∧ (0 = 0 → ∀ z, e8 (K + 1 + 1 + 1) z = 0) := by
    exact ⟨rfl, fun i _ j _ => (congrFun ((kU hu7 (by omega)).trans ((kU hu5 (by omega)).trans (kU hu3 (by omega)))) _).trans (kU0 hu1), fun i j _ _ _ => (congrFun ((kU hu7 (by omega)).trans ((kU hu5 (by omega)).trans (kU hu3 (by omega)))) _).trans (kU0 hu1), fun _ z => (congrFun (kU hu7 (by omega)) _).trans (kU0 hu5)⟩
  exact rw_cast (hL33 0 (by omega) _ _ e8 (fun _ _ => 0) none none none none none none ⟨(fun _ _ => rfl), hA69⟩) (lcons rfl (lcons rfl (lcons rfl (lcons rfl (lcons rfl (lcons rfl (lcons rfl (lcons rfl (lcons rfl (lcons rfl (lcons (lvI (by omega)) (lcons rfl (lcons rfl (lcons rfl (lcons rfl (lcons rfl (lcons rfl rfl))))))))))))))))) rfl
theorem c_L_costs0 {d : Nat} {X : MC} {m : M1} {p : M2} {K : Nat} {sh : Nat → Nat} {nn : N2} (hd : 3 ≤ d) (hK : 260 ≤ K) (a b n l l0 : Nat) (q r : F) (A : Nat → Nat → F) (B C : Nat → F) (ha : Ro K sh a 64) (hb : Ro K sh b 18) (hn1 : 1 ≤ n) (hn : n ≤ 8) (hl : l ≤ 20) (hA : Mv nn a n A) (hbv : ∀ i, i < n → nn b i = vF (B i)) (hcv : ∀ i, i < n → nn b (8 + i) = vF (C i)) (hbn : nn b 17 = (n : Int)) (hl0 : l0 < l) (hr : rm n (mc n A B C q r l0) B r = 0) : Lc d k_L_costs X [.ref (a), .ref (b), .int (iI (vF (q))), .int (iI (vF (r))), .int (iI (((l : Nat) : Int)))] m p K sh nn (fun v m' p' K' sh' n' => v = some (.int (iI ((-1000)))) ∧ m = m' ∧ p = p' ∧ FrN (fun a_ => K < a_) nn n') := by
  obtain ⟨d, rfl⟩ : ∃ e, d = e + 1 := ⟨d - 1, by omega⟩
  have ha8 := ha.1; have ha9 := ha.2.1
  have hb8 := hb.1; have hb9 := hb.2.1
  refine lc_go (lv := [some (.ref (a)), some (.ref (b)), some (.int (iI (vF (q)))), some (.int (iI (vF (r)))), some (.int (iI (((l : Nat) : Int)))), none, none, none, none, none, none, none, none, none, none, none, none]) (B := 4) (Nat.le_of_ble_eq_true rfl) (okar_cons rfl (okar_cons rfl (okar_cons rfl (okar_cons rfl (okar_cons rfl okar_nil))))) rfl rfl (fun Qr hQ => ?_)
  refine rw_blk lk_L_costs_0 ?_
  refine rw_of (fun rr hrr => q_aload_n rfl (q_bipush rfl (q_lald (j := 17) hb rfl (by omega) hbn (q_istore (Nat.le_of_ble_eq_true rfl) rfl (q_bipush rfl (q_lnew (l := 64) (by omega) rfl (by omega) hrr)))))) ?_
  generalize hu1 : nU nn (K + 1) = e2
  refine rw_of (fun rr hrr => q_astore (Nat.le_of_ble_eq_true rfl) rfl (q_bipush rfl (q_lnew (l := 64) (by omega) rfl (by omega) hrr))) ?_
  generalize hu3 : nU e2 (K + 1 + 1) = e4
  refine rw_of (fun rr hrr => q_astore (Nat.le_of_ble_eq_true rfl) rfl (q_bipush rfl (q_lnew (l := 8) (by omega) rfl (by omega) hrr))) ?_
  generalize hu5 : nU e4 (K + 1 + 1 + 1) = e6
  refine rw_of (fun rr hrr => q_astore (Nat.le_of_ble_eq_true rfl) rfl (q_bipush rfl (q_lnew (l := 8) (by omega) rfl (by omega) hrr))) ?_
  generalize hu7 : nU e6 (K + 1 + 1 + 1 + 1) = e8
  refine rw_of (fun rr hrr => q_astore (Nat.le_of_ble_eq_true rfl) rfl (q_iconst (q_istore (Nat.le_of_ble_eq_true rfl) rfl hrr))) ?_
  have hL33 : ∀ s, s ≤ l0 + 1 → ∀ (cc ss : Nat) (nn33 : N2) (P : Nat → Nat → F) (x33_11 : Option Value) (x33_12 : Option Value) (x33_13 : Option Value) (x33_14 : Option Value) (x33_15 : Option Value) (x33_16 : Option Value), (FrN (fun a_ => a_ = K + 1 ∨ a_ = K + 1 + 1 ∨ a_ = K + 1 + 1 + 1 ∨ a_ = K + 1 + 1 + 1 + 1) e8 nn33 ∧ (P = Pm n A B C q r s ∧ Mv nn33 (K + 1) n P ∧ Zo nn33 (K + 1) n ∧ (s = 0 → ∀ z, nn33 (K + 1 + 1 + 1) z = 0))) → Rw (Ev d) k_L_costs (33, [], [some (.ref (a)), some (.ref (b)), some (.int (iI (vF (q)))), some (.int (iI (vF (r)))), some (.int (iI (((l : Nat) : Int)))), some (.int (iI (((n : Nat) : Int)))), some (.ref (K + 1)), some (.ref (K + 1 + 1)), some (.ref (K + 1 + 1 + 1)), some (.ref (K + 1 + 1 + 1 + 1)), some (.int (iI (((s : Nat) : Int)))), x33_11, x33_12, x33_13, x33_14, x33_15, x33_16], [], hB X m p (K + 1 + 1 + 1 + 1) (shU (shU (shU (shU sh (K + 1) 64) (K + 1 + 1) 64) (K + 1 + 1 + 1) 8) (K + 1 + 1 + 1 + 1) 8) nn33, cc, ss) Qr := by
    refine loop_any (fun s hi33 ih33 => ?_)
    intro cc ss nn33 P x33_11 x33_12 x33_13 x33_14 x33_15 x33_16
    intro hI
    obtain ⟨hF33, ⟨hPs, hp33, hz33, hv33⟩⟩ := hI
    refine rw_blk lk_L_costs_33 ?_
    refine rw_of (fun rr hrr => q_iload rfl (q_iload rfl hrr)) ?_
    refine rw_icmp_gt ⟨by omega, by omega⟩ ⟨by omega, by omega⟩ (t := 468) rfl (fun hc9 => ?_) (fun hc9 => ?_)
    · exfalso; omega
    · skip
      refine rw_of (fun rr hrr => q_iload_n rfl (q_istore (Nat.le_of_ble_eq_true rfl) rfl (q_iconst hrr))) ?_
      have hL136 : ∀ (cc ss : Nat) (nn136 : N2) (mm : F) (x136_12 : Option Value) (x136_13 : Option Value), (FrN (fun a_ => a_ = K + 1 + 1 + 1) nn33 nn136 ∧ ((∀ z, z < n → nn136 (K + 1 + 1 + 1) z = vF (Vm n P B s z)) ∧ (0 < s → mm = rm n P B r))) → Rw (Ev d) k_L_costs (136, [], [some (.ref (a)), some (.ref (b)), some (.int (iI (vF (q)))), some (.int (iI (vF (r)))), some (.int (iI (((l : Nat) : Int)))), some (.int (iI (((n : Nat) : Int)))), some (.ref (K + 1)), some (.ref (K + 1 + 1)), some (.ref (K + 1 + 1 + 1)), some (.ref (K + 1 + 1 + 1 + 1)), some (.int (iI (((s : Nat) : Int)))), some (.int (iI (vF (mm)))), x136_12, x136_13, x33_14, x33_15, x33_16], [], hB X m p (K + 1 + 1 + 1 + 1) (shU (shU (shU (shU sh (K + 1) 64) (K + 1 + 1) 64) (K + 1 + 1 + 1) 8) (K + 1 + 1 + 1 + 1) 8) nn136, cc, ss) Qr := by
        intro cc ss nn136 mm x136_12 x136_13
        intro hI
        obtain ⟨hF136, ⟨hv136, hm136⟩⟩ := hI
        refine rw_blk lk_L_costs_136 ?_
        refine rw_of (fun rr hrr => q_iload rfl hrr) ?_
        have hL150 : ∀ (cc ss : Nat) , ((s ≤ l0)) → Rw (Ev d) k_L_costs (150, [], [some (.ref (a)), some (.ref (b)), some (.int (iI (vF (q)))), some (.int (iI (vF (r)))), some (.int (iI (((l : Nat) : Int)))), some (.int (iI (((n : Nat) : Int)))), some (.ref (K + 1)), some (.ref (K + 1 + 1)), some (.ref (K + 1 + 1 + 1)), some (.ref (K + 1 + 1 + 1 + 1)), some (.int (iI (((s : Nat) : Int)))), some (.int (iI (vF (mm)))), x136_12, x136_13, x33_14, x33_15, x33_16], [], hB X m p (K + 1 + 1 + 1 + 1) (shU (shU (shU (shU sh (K + 1) 64) (K + 1 + 1) 64) (K + 1 + 1 + 1) 8) (K + 1 + 1 + 1 + 1) 8) nn136, cc, ss) Qr := by
          intro cc ss
          intro hI
          have hs150 := hI
          refine rw_blk lk_L_costs_150 ?_
          refine rw_of (fun rr hrr => q_iconst (q_istore (Nat.le_of_ble_eq_true rfl) rfl hrr)) ?_
          have hL153 : ∀ j, j ≤ n → ∀ (cc ss : Nat) (nn153 : N2) (x153_13 : Option Value) (x153_14 : Option Value), (FrN (fun a_ => a_ = K + 1 + 1 ∨ a_ = K + 1 + 1 + 1 + 1) nn136 nn153 ∧ ((∀ z, z < j → nn153 (K + 1 + 1 + 1 + 1) z = vF (dot n (Vm n P B s) (fun zz => A zz z))) ∧ ∀ z y, y < n → z < j → nn153 (K + 1 + 1) (8 * y + z) = vF (rpa n P A y z))) → Rw (Ev d) k_L_costs (153, [], [some (.ref (a)), some (.ref (b)), some (.int (iI (vF (q)))), some (.int (iI (vF (r)))), some (.int (iI (((l : Nat) : Int)))), some (.int (iI (((n : Nat) : Int)))), some (.ref (K + 1)), some (.ref (K + 1 + 1)), some (.ref (K + 1 + 1 + 1)), some (.ref (K + 1 + 1 + 1 + 1)), some (.int (iI (((s : Nat) : Int)))), some (.int (iI (vF (mm)))), some (.int (iI (((j : Nat) : Int)))), x153_13, x153_14, x33_15, x33_16], [], hB X m p (K + 1 + 1 + 1 + 1) (shU (shU (shU (shU sh (K + 1) 64) (K + 1 + 1) 64) (K + 1 + 1 + 1) 8) (K + 1 + 1 + 1 + 1) 8) nn153, cc, ss) Qr := by
            refine loop_any (fun j hi153 ih153 => ?_)
            intro cc ss nn153 x153_13 x153_14
            intro hI
            obtain ⟨hF153, ⟨hk153, hw153⟩⟩ := hI
            refine rw_blk lk_L_costs_153 ?_
            refine rw_of (fun rr hrr => q_iload rfl (q_iload rfl hrr)) ?_
            refine rw_icmp_ge ⟨by omega, by omega⟩ ⟨by omega, by omega⟩ (t := 296) rfl (fun hc10 => ?_) (fun hc10 => ?_)
            · skip
              refine rw_blk lk_L_costs_296 ?_
              refine rw_of (fun rr hrr => q_iload rfl hrr) ?_
              have hL315 : ∀ i, i ≤ n → ∀ (cc ss : Nat) (nn315 : N2) (oi : F) (x315_14 : Option Value) (x315_15 : Option Value) (x315_16 : Option Value), (FrN (fun a_ => a_ = K + 1) nn153 nn315 ∧ ((0 < s → oi = iv mm) ∧ (s = 0 → oi = 0) ∧ (∀ z, z < i → ∀ c, c < n → nn315 (K + 1) (8 * z + c) = vF (Pm n A B C q r (s + 1) z c)) ∧ ∀ z c, z < 8 → c < 8 → ¬ (z < i ∧ c < n) → nn315 (K + 1) (8 * z + c) = nn153 (K + 1) (8 * z + c))) → Rw (Ev d) k_L_costs (315, [], [some (.ref (a)), some (.ref (b)), some (.int (iI (vF (q)))), some (.int (iI (vF (r)))), some (.int (iI (((l : Nat) : Int)))), some (.int (iI (((n : Nat) : Int)))), some (.ref (K + 1)), some (.ref (K + 1 + 1)), some (.ref (K + 1 + 1 + 1)), some (.ref (K + 1 + 1 + 1 + 1)), some (.int (iI (((s : Nat) : Int)))), some (.int (iI (vF (mm)))), some (.int (iI (vF (oi)))), some (.int (iI (((i : Nat) : Int)))), x315_14, x315_15, x315_16], [], hB X m p (K + 1 + 1 + 1 + 1) (shU (shU (shU (shU sh (K + 1) 64) (K + 1 + 1) 64) (K + 1 + 1 + 1) 8) (K + 1 + 1 + 1 + 1) 8) nn315, cc, ss) Qr := by
                refine loop_any (fun i hi315 ih315 => ?_)
                intro cc ss nn315 oi x315_14 x315_15 x315_16
                intro hI
                obtain ⟨hF315, ⟨ho1, ho2, hp315, hq315⟩⟩ := hI
                refine rw_blk lk_L_costs_315 ?_
                refine rw_of (fun rr hrr => q_iload rfl (q_iload rfl hrr)) ?_
                refine rw_icmp_ge ⟨by omega, by omega⟩ ⟨by omega, by omega⟩ (t := 462) rfl (fun hc11 => ?_) (fun hc11 => ?_)
                · skip
                  refine rw_blk lk_L_costs_462 ?_
                  refine rw_of (fun rr hrr => q_iinc rfl rfl (q_goto (t := 33) rfl hrr)) ?_
                  have hA12 : (Pm n A B C q r (s + 1)) = Pm n A B C q r (s + 1) ∧ Mv nn315 (K + 1) n (Pm n A B C q r (s + 1)) ∧ Zo nn315 (K + 1) n ∧ ((s + 1) = 0 → ∀ z, nn315 (K + 1 + 1 + 1) z = 0) := by
                    exact ⟨rfl, fun i hi j hj => hp315 i (by omega) j hj, fun i j h1 h2 h3 => (hq315 i j h1 h2 (by omega)).trans ((congrFun ((hF153 (K + 1) (by show ¬ ((K + 1) = K + 1 + 1 ∨ (K + 1) = K + 1 + 1 + 1 + 1); omega)).trans (hF136 (K + 1) (by show ¬ ((K + 1) = K + 1 + 1 + 1); omega))) _).trans (hz33 i j h1 h2 h3)), fun h => by omega⟩
                  exact rw_cast (ih33 (by omega) _ _ nn315 (Pm n A B C q r (s + 1)) (some (.int (iI (vF (mm))))) (some (.int (iI (vF (oi))))) (some (.int (iI (((i : Nat) : Int))))) x315_14 x315_15 x315_16 ⟨(fun a9 h9 => ((hF315 a9 (by show ¬ (a9 = K + 1); omega)).trans ((hF153 a9 (by show ¬ (a9 = K + 1 + 1 ∨ a9 = K + 1 + 1 + 1 + 1); omega)).trans ((hF136 a9 (by show ¬ (a9 = K + 1 + 1 + 1); omega)).trans (hF33 a9 (by show ¬ (a9 = K + 1 ∨ a9 = K + 1 + 1 ∨ a9 = K + 1 + 1 + 1 ∨ a9 = K + 1 + 1 + 1 + 1); omega)))))), hA12⟩) (lcons rfl (lcons rfl (lcons rfl (lcons rfl (lcons rfl (lcons rfl (lcons rfl (lcons rfl (lcons rfl (lcons rfl (lcons (lvI (by omega)) (lcons rfl (lcons rfl (lcons rfl (lcons rfl (lcons rfl (lcons rfl rfl))))))))))))))))) rfl
                · skip
                  refine rw_of (fun rr hrr => q_iconst (q_istore (Nat.le_of_ble_eq_true rfl) rfl hrr)) ?_
                  have hL325 : ∀ j, j ≤ n → ∀ (cc ss : Nat) (nn325 : N2) (x325_15 : Option Value) (x325_16 : Option Value), (FrN (fun a_ => a_ = K + 1) nn315 nn325 ∧ ((∀ z c, c < n → (z < i ∨ z = i ∧ c < j) → nn325 (K + 1) (8 * z + c) = vF (Pm n A B C q r (s + 1) z c)) ∧ ∀ z c, z < 8 → c < 8 → ¬ (c < n ∧ (z < i ∨ z = i ∧ c < j)) → nn325 (K + 1) (8 * z + c) = nn153 (K + 1) (8 * z + c))) → Rw (Ev d) k_L_costs (325, [], [some (.ref (a)), some (.ref (b)), some (.int (iI (vF (q)))), some (.int (iI (vF (r)))), some (.int (iI (((l : Nat) : Int)))), some (.int (iI (((n : Nat) : Int)))), some (.ref (K + 1)), some (.ref (K + 1 + 1)), some (.ref (K + 1 + 1 + 1)), some (.ref (K + 1 + 1 + 1 + 1)), some (.int (iI (((s : Nat) : Int)))), some (.int (iI (vF (mm)))), some (.int (iI (vF (oi)))), some (.int (iI (((i : Nat) : Int)))), some (.int (iI (((j : Nat) : Int)))), x325_15, x325_16], [], hB X m p (K + 1 + 1 + 1 + 1) (shU (shU (shU (shU sh (K + 1) 64) (K + 1 + 1) 64) (K + 1 + 1 + 1) 8) (K + 1 + 1 + 1 + 1) 8) nn325, cc, ss) Qr := by
                    refine loop_any (fun j hi325 ih325 => ?_)
                    intro cc ss nn325 x325_15 x325_16
                    intro hI
                    obtain ⟨hF325, ⟨hp325, hq325⟩⟩ := hI
                    refine rw_blk lk_L_costs_325 ?_
                    refine rw_of (fun rr hrr => q_iload rfl (q_iload rfl hrr)) ?_
                    refine rw_icmp_ge ⟨by omega, by omega⟩ ⟨by omega, by omega⟩ (t := 456) rfl (fun hc13 => ?_) (fun hc13 => ?_)
                    · skip
                      refine rw_blk lk_L_costs_456 ?_
                      refine rw_of (fun rr hrr => q_iinc rfl rfl (q_goto (t := 315) rfl hrr)) ?_
                      have hA14 : (0 < s → oi = iv mm) ∧ (s = 0 → oi = 0) ∧ (∀ z, z < (i + 1) → ∀ c, c < n → nn325 (K + 1) (8 * z + c) = vF (Pm n A B C q r (s + 1) z c)) ∧ ∀ z c, z < 8 → c < 8 → ¬ (z < (i + 1) ∧ c < n) → nn325 (K + 1) (8 * z + c) = nn153 (K + 1) (8 * z + c) := by
                        exact ⟨ho1, ho2, fun z hz c hc => hp325 z c hc (by omega), fun z c h1 h2 h3 => hq325 z c h1 h2 (by omega)⟩
                      exact rw_cast (ih315 (by omega) _ _ nn325 oi (some (.int (iI (((j : Nat) : Int))))) x325_15 x325_16 ⟨(fun a9 h9 => ((hF325 a9 (by show ¬ (a9 = K + 1); omega)).trans (hF315 a9 (by show ¬ (a9 = K + 1); omega)))), hA14⟩) (lcons rfl (lcons rfl (lcons rfl (lcons rfl (lcons rfl (lcons rfl (lcons rfl (lcons rfl (lcons rfl (lcons rfl (lcons rfl (lcons rfl (lcons (lvI (by rfl)) (lcons (lvI (by omega)) (lcons rfl (lcons rfl (lcons rfl rfl))))))))))))))))) rfl
                    · skip
                      refine rw_of (fun rr hrr => q_iload_n rfl (q_aload_n rfl (q_bipush rfl (q_iload rfl (q_iadd (q_lald (j := 8 + i) (Ro_new (Ro_new (Ro_new (Ro_new hb)))) (by omega) (by omega) (((congrFun (hF325 b (by show ¬ (b = K + 1); omega)) _).trans ((congrFun (hF315 b (by show ¬ (b = K + 1); omega)) _).trans ((congrFun (hF153 b (by show ¬ (b = K + 1 + 1 ∨ b = K + 1 + 1 + 1 + 1); omega)) _).trans ((congrFun (hF136 b (by show ¬ (b = K + 1 + 1 + 1); omega)) _).trans ((congrFun (hF33 b (by show ¬ (b = K + 1 ∨ b = K + 1 + 1 ∨ b = K + 1 + 1 + 1 ∨ b = K + 1 + 1 + 1 + 1); omega)) _).trans ((congrFun (kU hu7 (by omega)) _).trans ((congrFun (kU hu5 (by omega)) _).trans ((congrFun (kU hu3 (by omega)) _).trans (congrFun (kU hu1 (by omega)) _))))))))).trans (hcv i (by omega))) (q_imul (q_sipush rfl (q_irem (rg_times _ _) ⟨by omega, by omega⟩ (by omega) (remF (Int.mul_nonneg (vF_ge _) (vF_ge _)) (show toF ((vF (q) * vF (C i))) = ((q) * (C i)) by simp only [toF_add, toF_mul, toF_sub, toF_neg, toF_vF, toF_nat, toF_0, toF_1, toF_M, F_add0, F_0sub])) (q_aload_n rfl (q_bipush rfl (q_iload rfl (q_iadd (q_lald (j := 8 + j) (Ro_new (Ro_new (Ro_new (Ro_new hb)))) (by omega) (by omega) (((congrFun (hF325 b (by show ¬ (b = K + 1); omega)) _).trans ((congrFun (hF315 b (by show ¬ (b = K + 1); omega)) _).trans ((congrFun (hF153 b (by show ¬ (b = K + 1 + 1 ∨ b = K + 1 + 1 + 1 + 1); omega)) _).trans ((congrFun (hF136 b (by show ¬ (b = K + 1 + 1 + 1); omega)) _).trans ((congrFun (hF33 b (by show ¬ (b = K + 1 ∨ b = K + 1 + 1 ∨ b = K + 1 + 1 + 1 ∨ b = K + 1 + 1 + 1 + 1); omega)) _).trans ((congrFun (kU hu7 (by omega)) _).trans ((congrFun (kU hu5 (by omega)) _).trans ((congrFun (kU hu3 (by omega)) _).trans (congrFun (kU hu1 (by omega)) _))))))))).trans (hcv j (by omega))) (q_imul (q_sipush rfl (q_irem (rg_times _ _) ⟨by omega, by omega⟩ (by omega) (remF (Int.mul_nonneg (vF_ge _) (vF_ge _)) (show toF ((vF (((q) * (C i))) * vF (C j))) = ((((q) * (C i))) * (C j)) by simp only [toF_add, toF_mul, toF_sub, toF_neg, toF_vF, toF_nat, toF_0, toF_1, toF_M, F_add0, F_0sub])) (q_istore (Nat.le_of_ble_eq_true rfl) rfl (q_iconst (q_istore (Nat.le_of_ble_eq_true rfl) rfl hrr)))))))))))))))))))) ?_
                      have hL362 : ∀ e, e ≤ n → ∀ (cc ss : Nat) , ((0 < e → 0 < s)) → Rw (Ev d) k_L_costs (362, [], [some (.ref (a)), some (.ref (b)), some (.int (iI (vF (q)))), some (.int (iI (vF (r)))), some (.int (iI (((l : Nat) : Int)))), some (.int (iI (((n : Nat) : Int)))), some (.ref (K + 1)), some (.ref (K + 1 + 1)), some (.ref (K + 1 + 1 + 1)), some (.ref (K + 1 + 1 + 1 + 1)), some (.int (iI (((s : Nat) : Int)))), some (.int (iI (vF (mm)))), some (.int (iI (vF (oi)))), some (.int (iI (((i : Nat) : Int)))), some (.int (iI (((j : Nat) : Int)))), some (.int (iI (vF (q * C i * C j + dot e (fun zz => A zz i) (fun zz => rpa n P A zz j))))), some (.int (iI (((e : Nat) : Int))))], [], hB X m p (K + 1 + 1 + 1 + 1) (shU (shU (shU (shU sh (K + 1) 64) (K + 1 + 1) 64) (K + 1 + 1 + 1) 8) (K + 1 + 1 + 1 + 1) 8) nn325, cc, ss) Qr := by
                        refine loop_any (fun e hi362 ih362 => ?_)
                        intro cc ss
                        intro hI
                        have he362 := hI
                        refine rw_blk lk_L_costs_362 ?_
                        refine rw_of (fun rr hrr => q_iload rfl (q_iload rfl hrr)) ?_
                        refine rw_icmp_ge ⟨by omega, by omega⟩ ⟨by omega, by omega⟩ (t := 411) rfl (fun hc15 => ?_) (fun hc15 => ?_)
                        · skip
                          refine rw_blk lk_L_costs_411 ?_
                          refine rw_of (fun rr hrr => q_aload rfl (q_bipush rfl (q_iload rfl (q_imul (q_iload rfl (q_iadd (q_iload rfl (q_aload rfl (q_iload rfl (q_lald (j := i) (Ro_made (by omega)) rfl (by omega) (((congrFun (hF325 (K + 1 + 1 + 1 + 1) (by show ¬ ((K + 1 + 1 + 1 + 1) = K + 1); omega)) _).trans (congrFun (hF315 (K + 1 + 1 + 1 + 1) (by show ¬ ((K + 1 + 1 + 1 + 1) = K + 1); omega)) _)).trans (hk153 i (by omega))) (q_aload rfl (q_iload rfl (q_lald (j := j) (Ro_made (by omega)) rfl (by omega) (((congrFun (hF325 (K + 1 + 1 + 1 + 1) (by show ¬ ((K + 1 + 1 + 1 + 1) = K + 1); omega)) _).trans (congrFun (hF315 (K + 1 + 1 + 1 + 1) (by show ¬ ((K + 1 + 1 + 1 + 1) = K + 1); omega)) _)).trans (hk153 j (by omega))) (q_imul (q_sipush rfl (q_irem (rg_times _ _) ⟨by omega, by omega⟩ (by omega) (remF (Int.mul_nonneg (vF_ge _) (vF_ge _)) (show toF ((vF (dot n (Vm n P B s) (fun zz => A zz i)) * vF (dot n (Vm n P B s) (fun zz => A zz j)))) = ((dot n (Vm n P B s) (fun zz => A zz i)) * (dot n (Vm n P B s) (fun zz => A zz j))) by simp only [toF_add, toF_mul, toF_sub, toF_neg, toF_vF, toF_nat, toF_0, toF_1, toF_M, F_add0, F_0sub])) (q_iload rfl (q_imul (q_sipush rfl (q_irem (rg_times _ _) ⟨by omega, by omega⟩ (by omega) (remF (Int.mul_nonneg (vF_ge _) (vF_ge _)) (show toF ((vF (((dot n (Vm n P B s) (fun zz => A zz i)) * (dot n (Vm n P B s) (fun zz => A zz j)))) * vF (oi))) = ((((dot n (Vm n P B s) (fun zz => A zz i)) * (dot n (Vm n P B s) (fun zz => A zz j)))) * (oi)) by simp only [toF_add, toF_mul, toF_sub, toF_neg, toF_vF, toF_nat, toF_0, toF_1, toF_M, F_add0, F_0sub])) (q_isub hrr))))))))))))))))))))) ?_
                          obtain ⟨_, _, _, hV16, rfl, rfl, rfl⟩ := c_L_rest (S := (K + 1 + 1 + 1 + 1, gB X (shU (shU (shU (shU sh (K + 1) 64) (K + 1 + 1) 64) (K + 1 + 1 + 1) 8) (K + 1 + 1 + 1 + 1) 8) nn325)) (fz := false) (m := m) (p := p) (d := d) (by omega) ((vF (q * C i * C j + dot e (fun zz => A zz i) (fun zz => rpa n P A zz j)) - vF (((((dot n (Vm n P B s) (fun zz => A zz i)) * (dot n (Vm n P B s) (fun zz => A zz j)))) * (oi))))) (((q * C i * C j + dot e (fun zz => A zz i) (fun zz => rpa n P A zz j)) - (((((dot n (Vm n P B s) (fun zz => A zz i)) * (dot n (Vm n P B s) (fun zz => A zz j)))) * (oi))))) ⟨by have := vF_ge (q * C i * C j + dot e (fun zz => A zz i) (fun zz => rpa n P A zz j)); have := vF_lt (q * C i * C j + dot e (fun zz => A zz i) (fun zz => rpa n P A zz j)); have := vF_ge (((((dot n (Vm n P B s) (fun zz => A zz i)) * (dot n (Vm n P B s) (fun zz => A zz j)))) * (oi))); have := vF_lt (((((dot n (Vm n P B s) (fun zz => A zz i)) * (dot n (Vm n P B s) (fun zz => A zz j)))) * (oi))); omega, by have := vF_ge (q * C i * C j + dot e (fun zz => A zz i) (fun zz => rpa n P A zz j)); have := vF_lt (q * C i * C j + dot e (fun zz => A zz i) (fun zz => rpa n P A zz j)); have := vF_ge (((((dot n (Vm n P B s) (fun zz => A zz i)) * (dot n (Vm n P B s) (fun zz => A zz j)))) * (oi))); have := vF_lt (((((dot n (Vm n P B s) (fun zz => A zz i)) * (dot n (Vm n P B s) (fun zz => A zz j)))) * (oi))); omega⟩ (by simp only [toF_add, toF_mul, toF_sub, toF_neg, toF_vF, toF_nat, toF_0, toF_1, toF_M, F_add0, F_0sub])
                          refine rw_of (fun rr hrr => q_invS hV16 rfl rfl (okar_cons rfl okar_nil) (Nat.le_of_ble_eq_true rfl) (q_last (j := 8 * i + j) (Ro_new (Ro_new (Ro_new (Ro_made (by omega))))) (by omega) (by omega) hrr)) ?_
                          generalize hm17 : wI nn325 (K + 1) (8 * i + j) (vF (((q * C i * C j + dot e (fun zz => A zz i) (fun zz => rpa n P A zz j)) - (((((dot n (Vm n P B s) (fun zz => A zz i)) * (dot n (Vm n P B s) (fun zz => A zz j)))) * (oi)))))) = e18
                          refine rw_of (fun rr hrr => q_iinc rfl rfl (q_goto (t := 325) rfl hrr)) ?_
                          have hA19 : (∀ z c, c < n → (z < i ∨ z = i ∧ c < (j + 1)) → e18 (K + 1) (8 * z + c) = vF (Pm n A B C q r (s + 1) z c)) ∧ ∀ z c, z < 8 → c < 8 → ¬ (c < n ∧ (z < i ∨ z = i ∧ c < (j + 1))) → e18 (K + 1) (8 * z + c) = nn153 (K + 1) (8 * z + c) := by
                            refine ⟨fun z c hc hz => ?_, fun z c h1 h2 h3 => (kB hm17 (by omega)).trans (hq325 z c h1 h2 (by omega))⟩
                            by_cases q9 : z = i ∧ c = j
                            · rw [q9.1, q9.2, kA hm17]
                              refine congrArg vF ?_
                              have hs0 : 0 < s := he362 (by omega)
                              rw [Pm_s hs0 i j, ← hPs, ho1 hs0, hm136 hs0, show e = n by omega]
                              have ek : ∀ z, dot n (Vm n P B s) (fun zz => A zz z) = rap n P A B z := fun z => dot_congr (fun y _ => by unfold Vm; rw [if_neg (by omega)]) (fun _ _ => rfl)
                              rw [ek i, ek j]
                              unfold rq
                              grind
                            · exact (kB hm17 (by omega)).trans (hp325 z c hc (by omega))
                          exact rw_cast (ih325 (by omega) _ _ e18 (some (.int (iI (vF (q * C i * C j + dot e (fun zz => A zz i) (fun zz => rpa n P A zz j)))))) (some (.int (iI (((e : Nat) : Int))))) ⟨(fun a9 h9 => ((kN hm17 (by omega)).trans (hF325 a9 (by show ¬ (a9 = K + 1); omega)))), hA19⟩) (lcons rfl (lcons rfl (lcons rfl (lcons rfl (lcons rfl (lcons rfl (lcons rfl (lcons rfl (lcons rfl (lcons rfl (lcons rfl (lcons rfl (lcons rfl (lcons rfl (lcons (lvI (by omega)) (lcons rfl (lcons rfl rfl))))))))))))))))) rfl
                        · skip
                          refine rw_of (fun rr hrr => q_iload rfl hrr) ?_
                          refine rw_if_le ⟨by omega, by omega⟩ (t := 411) rfl (fun hc20 => ?_) (fun hc20 => ?_)
                          · skip
                            refine rw_blk lk_L_costs_411 ?_
                            refine rw_of (fun rr hrr => q_aload rfl (q_bipush rfl (q_iload rfl (q_imul (q_iload rfl (q_iadd (q_iload rfl (q_aload rfl (q_iload rfl (q_lald (j := i) (Ro_made (by omega)) rfl (by omega) (((congrFun (hF325 (K + 1 + 1 + 1 + 1) (by show ¬ ((K + 1 + 1 + 1 + 1) = K + 1); omega)) _).trans (congrFun (hF315 (K + 1 + 1 + 1 + 1) (by show ¬ ((K + 1 + 1 + 1 + 1) = K + 1); omega)) _)).trans (hk153 i (by omega))) (q_aload rfl (q_iload rfl (q_lald (j := j) (Ro_made (by omega)) rfl (by omega) (((congrFun (hF325 (K + 1 + 1 + 1 + 1) (by show ¬ ((K + 1 + 1 + 1 + 1) = K + 1); omega)) _).trans (congrFun (hF315 (K + 1 + 1 + 1 + 1) (by show ¬ ((K + 1 + 1 + 1 + 1) = K + 1); omega)) _)).trans (hk153 j (by omega))) (q_imul (q_sipush rfl (q_irem (rg_times _ _) ⟨by omega, by omega⟩ (by omega) (remF (Int.mul_nonneg (vF_ge _) (vF_ge _)) (show toF ((vF (dot n (Vm n P B s) (fun zz => A zz i)) * vF (dot n (Vm n P B s) (fun zz => A zz j)))) = ((dot n (Vm n P B s) (fun zz => A zz i)) * (dot n (Vm n P B s) (fun zz => A zz j))) by simp only [toF_add, toF_mul, toF_sub, toF_neg, toF_vF, toF_nat, toF_0, toF_1, toF_M, F_add0, F_0sub])) (q_iload rfl (q_imul (q_sipush rfl (q_irem (rg_times _ _) ⟨by omega, by omega⟩ (by omega) (remF (Int.mul_nonneg (vF_ge _) (vF_ge _)) (show toF ((vF (((dot n (Vm n P B s) (fun zz => A zz i)) * (dot n (Vm n P B s) (fun zz => A zz j)))) * vF (oi))) = ((((dot n (Vm n P B s) (fun zz => A zz i)) * (dot n (Vm n P B s) (fun zz => A zz j)))) * (oi)) by simp only [toF_add, toF_mul, toF_sub, toF_neg, toF_vF, toF_nat, toF_0, toF_1, toF_M, F_add0, F_0sub])) (q_isub hrr))))))))))))))))))))) ?_
                            obtain ⟨_, _, _, hV21, rfl, rfl, rfl⟩ := c_L_rest (S := (K + 1 + 1 + 1 + 1, gB X (shU (shU (shU (shU sh (K + 1) 64) (K + 1 + 1) 64) (K + 1 + 1 + 1) 8) (K + 1 + 1 + 1 + 1) 8) nn325)) (fz := false) (m := m) (p := p) (d := d) (by omega) ((vF (q * C i * C j + dot e (fun zz => A zz i) (fun zz => rpa n P A zz j)) - vF (((((dot n (Vm n P B s) (fun zz => A zz i)) * (dot n (Vm n P B s) (fun zz => A zz j)))) * (oi))))) (((q * C i * C j + dot e (fun zz => A zz i) (fun zz => rpa n P A zz j)) - (((((dot n (Vm n P B s) (fun zz => A zz i)) * (dot n (Vm n P B s) (fun zz => A zz j)))) * (oi))))) ⟨by have := vF_ge (q * C i * C j + dot e (fun zz => A zz i) (fun zz => rpa n P A zz j)); have := vF_lt (q * C i * C j + dot e (fun zz => A zz i) (fun zz => rpa n P A zz j)); have := vF_ge (((((dot n (Vm n P B s) (fun zz => A zz i)) * (dot n (Vm n P B s) (fun zz => A zz j)))) * (oi))); have := vF_lt (((((dot n (Vm n P B s) (fun zz => A zz i)) * (dot n (Vm n P B s) (fun zz => A zz j)))) * (oi))); omega, by have := vF_ge (q * C i * C j + dot e (fun zz => A zz i) (fun zz => rpa n P A zz j)); have := vF_lt (q * C i * C j + dot e (fun zz => A zz i) (fun zz => rpa n P A zz j)); have := vF_ge (((((dot n (Vm n P B s) (fun zz => A zz i)) * (dot n (Vm n P B s) (fun zz => A zz j)))) * (oi))); have := vF_lt (((((dot n (Vm n P B s) (fun zz => A zz i)) * (dot n (Vm n P B s) (fun zz => A zz j)))) * (oi))); omega⟩ (by simp only [toF_add, toF_mul, toF_sub, toF_neg, toF_vF, toF_nat, toF_0, toF_1, toF_M, F_add0, F_0sub])
                            refine rw_of (fun rr hrr => q_invS hV21 rfl rfl (okar_cons rfl okar_nil) (Nat.le_of_ble_eq_true rfl) (q_last (j := 8 * i + j) (Ro_new (Ro_new (Ro_new (Ro_made (by omega))))) (by omega) (by omega) hrr)) ?_
                            generalize hm22 : wI nn325 (K + 1) (8 * i + j) (vF (((q * C i * C j + dot e (fun zz => A zz i) (fun zz => rpa n P A zz j)) - (((((dot n (Vm n P B s) (fun zz => A zz i)) * (dot n (Vm n P B s) (fun zz => A zz j)))) * (oi)))))) = e23
                            refine rw_of (fun rr hrr => q_iinc rfl rfl (q_goto (t := 325) rfl hrr)) ?_
                            have hA24 : (∀ z c, c < n → (z < i ∨ z = i ∧ c < (j + 1)) → e23 (K + 1) (8 * z + c) = vF (Pm n A B C q r (s + 1) z c)) ∧ ∀ z c, z < 8 → c < 8 → ¬ (c < n ∧ (z < i ∨ z = i ∧ c < (j + 1))) → e23 (K + 1) (8 * z + c) = nn153 (K + 1) (8 * z + c) := by
                              refine ⟨fun z c hc hz => ?_, fun z c h1 h2 h3 => (kB hm22 (by omega)).trans (hq325 z c h1 h2 (by omega))⟩
                              by_cases q9 : z = i ∧ c = j
                              · rw [q9.1, q9.2, kA hm22]
                                refine congrArg vF ?_
                                have hs0 : s = 0 := by omega
                                rw [ho2 hs0, show e = 0 by have := he362; omega, dot_0, hs0]
                                show _ = q * (C i * C j)
                                grind
                              · exact (kB hm22 (by omega)).trans (hp325 z c hc (by omega))
                            exact rw_cast (ih325 (by omega) _ _ e23 (some (.int (iI (vF (q * C i * C j + dot e (fun zz => A zz i) (fun zz => rpa n P A zz j)))))) (some (.int (iI (((e : Nat) : Int))))) ⟨(fun a9 h9 => ((kN hm22 (by omega)).trans (hF325 a9 (by show ¬ (a9 = K + 1); omega)))), hA24⟩) (lcons rfl (lcons rfl (lcons rfl (lcons rfl (lcons rfl (lcons rfl (lcons rfl (lcons rfl (lcons rfl (lcons rfl (lcons rfl (lcons rfl (lcons rfl (lcons rfl (lcons (lvI (by omega)) (lcons rfl (lcons rfl rfl))))))))))))))))) rfl
                          · skip
                            refine rw_of (fun rr hrr => q_iload rfl (q_aload_n rfl (q_bipush rfl (q_iload rfl (q_imul (q_iload rfl (q_iadd (q_lald (j := 8 * e + i) (Ro_new (Ro_new (Ro_new (Ro_new ha)))) (by omega) (by omega) (((congrFun (hF325 a (by show ¬ (a = K + 1); omega)) _).trans ((congrFun (hF315 a (by show ¬ (a = K + 1); omega)) _).trans ((congrFun (hF153 a (by show ¬ (a = K + 1 + 1 ∨ a = K + 1 + 1 + 1 + 1); omega)) _).trans ((congrFun (hF136 a (by show ¬ (a = K + 1 + 1 + 1); omega)) _).trans ((congrFun (hF33 a (by show ¬ (a = K + 1 ∨ a = K + 1 + 1 ∨ a = K + 1 + 1 + 1 ∨ a = K + 1 + 1 + 1 + 1); omega)) _).trans ((congrFun (kU hu7 (by omega)) _).trans ((congrFun (kU hu5 (by omega)) _).trans ((congrFun (kU hu3 (by omega)) _).trans (congrFun (kU hu1 (by omega)) _))))))))).trans (hA e (by omega) i (by omega))) (q_aload rfl (q_bipush rfl (q_iload rfl (q_imul (q_iload rfl (q_iadd (q_lald (j := 8 * e + j) (Ro_new (Ro_new (Ro_made (by omega)))) (by omega) (by omega) (((congrFun (hF325 (K + 1 + 1) (by show ¬ ((K + 1 + 1) = K + 1); omega)) _).trans (congrFun (hF315 (K + 1 + 1) (by show ¬ ((K + 1 + 1) = K + 1); omega)) _)).trans (hw153 j e (by omega) (by omega))) (q_imul (q_iadd (q_sipush rfl (q_irem (by have := vF_ge (q * C i * C j + dot e (fun zz => A zz i) (fun zz => rpa n P A zz j)); have := vF_lt (q * C i * C j + dot e (fun zz => A zz i) (fun zz => rpa n P A zz j)); have := vF_ge (A e i); have := vF_lt (A e i); have := vF_ge (rpa n P A e j); have := vF_lt (rpa n P A e j); have := vF_mul_lt (A e i) (rpa n P A e j); have := Int.mul_nonneg (vF_ge (A e i)) (vF_ge (rpa n P A e j)); exact ⟨by omega, by omega⟩) ⟨by omega, by omega⟩ (by omega) (remF (by have := vF_ge (q * C i * C j + dot e (fun zz => A zz i) (fun zz => rpa n P A zz j)); have := vF_lt (q * C i * C j + dot e (fun zz => A zz i) (fun zz => rpa n P A zz j)); have := vF_ge (A e i); have := vF_lt (A e i); have := vF_ge (rpa n P A e j); have := vF_lt (rpa n P A e j); have := vF_mul_lt (A e i) (rpa n P A e j); have := Int.mul_nonneg (vF_ge (A e i)) (vF_ge (rpa n P A e j)); omega) (show toF ((vF (q * C i * C j + dot e (fun zz => A zz i) (fun zz => rpa n P A zz j)) + (vF (A e i) * vF (rpa n P A e j)))) = ((q * C i * C j + dot e (fun zz => A zz i) (fun zz => rpa n P A zz j)) + ((A e i) * (rpa n P A e j))) by simp only [toF_add, toF_mul, toF_sub, toF_neg, toF_vF, toF_nat, toF_0, toF_1, toF_M, F_add0, F_0sub])) (q_istore (Nat.le_of_ble_eq_true rfl) rfl (q_iinc rfl rfl (q_goto (t := 362) rfl hrr)))))))))))))))))))))) ?_
                            have hA25 : 0 < (e + 1) → 0 < s := by
                              exact fun _ => by omega
                            exact rw_cast (ih362 (by omega) _ _ hA25) (lcons rfl (lcons rfl (lcons rfl (lcons rfl (lcons rfl (lcons rfl (lcons rfl (lcons rfl (lcons rfl (lcons rfl (lcons rfl (lcons rfl (lcons rfl (lcons rfl (lcons rfl (lcons (lvI (by exact congrArg vF (by rw [dot_s]; grind))) (lcons (lvI (by omega)) rfl))))))))))))))))) rfl
                      have hA26 : 0 < 0 → 0 < s := by
                        exact fun h => by omega
                      exact rw_cast (hL362 0 (by omega) _ _ hA26) (lcons rfl (lcons rfl (lcons rfl (lcons rfl (lcons rfl (lcons rfl (lcons rfl (lcons rfl (lcons rfl (lcons rfl (lcons rfl (lcons rfl (lcons rfl (lcons rfl (lcons rfl (lcons (lvI (by exact congrArg vF (by rw [dot_0]; grind))) (lcons (lvI (by omega)) rfl))))))))))))))))) rfl
                  have hA27 : (∀ z c, c < n → (z < i ∨ z = i ∧ c < 0) → nn315 (K + 1) (8 * z + c) = vF (Pm n A B C q r (s + 1) z c)) ∧ ∀ z c, z < 8 → c < 8 → ¬ (c < n ∧ (z < i ∨ z = i ∧ c < 0)) → nn315 (K + 1) (8 * z + c) = nn153 (K + 1) (8 * z + c) := by
                    exact ⟨fun z c hc hz => hp315 z (by omega) c hc, fun z c h1 h2 h3 => hq315 z c h1 h2 (by omega)⟩
                  exact rw_cast (hL325 0 (by omega) _ _ nn315 x315_15 x315_16 ⟨(fun _ _ => rfl), hA27⟩) (lcons rfl (lcons rfl (lcons rfl (lcons rfl (lcons rfl (lcons rfl (lcons rfl (lcons rfl (lcons rfl (lcons rfl (lcons rfl (lcons rfl (lcons rfl (lcons rfl (lcons (lvI (by omega)) (lcons rfl (lcons rfl rfl))))))))))))))))) rfl
              refine rw_if_le ⟨by omega, by omega⟩ (t := 309) rfl (fun hc28 => ?_) (fun hc28 => ?_)
              · skip
                refine rw_blk lk_L_costs_309 ?_
                refine rw_of (fun rr hrr => q_iconst hrr) ?_
                refine rw_blk lk_L_costs_310 ?_
                refine rw_of (fun rr hrr => q_istore (Nat.le_of_ble_eq_true rfl) rfl (q_iconst (q_istore (Nat.le_of_ble_eq_true rfl) rfl hrr))) ?_
                have hA29 : (0 < s → ((0 : F)) = iv mm) ∧ (s = 0 → ((0 : F)) = 0) ∧ (∀ z, z < 0 → ∀ c, c < n → nn153 (K + 1) (8 * z + c) = vF (Pm n A B C q r (s + 1) z c)) ∧ ∀ z c, z < 8 → c < 8 → ¬ (z < 0 ∧ c < n) → nn153 (K + 1) (8 * z + c) = nn153 (K + 1) (8 * z + c) := by
                  refine ⟨fun h => ?_, fun h => ?_, fun z hz => absurd hz (Nat.not_lt_zero z), fun _ _ _ _ _ => rfl⟩
                  · first | rfl | (exfalso; omega)
                  · first | rfl | (exfalso; omega)
                exact rw_cast (hL315 0 (by omega) _ _ nn153 ((0 : F)) x153_14 x33_15 x33_16 ⟨(fun _ _ => rfl), hA29⟩) (lcons rfl (lcons rfl (lcons rfl (lcons rfl (lcons rfl (lcons rfl (lcons rfl (lcons rfl (lcons rfl (lcons rfl (lcons rfl (lcons rfl (lcons (lvI (by rfl)) (lcons (lvI (by omega)) (lcons rfl (lcons rfl (lcons rfl rfl))))))))))))))))) rfl
              · skip
                refine rw_of (fun rr hrr => q_iload rfl hrr) ?_
                obtain ⟨_, _, _, hV30, rfl, rfl, rfl⟩ := c_L_inverse (S := (K + 1 + 1 + 1 + 1, gB X (shU (shU (shU (shU sh (K + 1) 64) (K + 1 + 1) 64) (K + 1 + 1 + 1) 8) (K + 1 + 1 + 1 + 1) 8) nn153)) (fz := false) (m := m) (p := p) (d := d) (by omega) (vF (mm)) ((mm)) ⟨by have := vF_ge mm; have := vF_lt mm; omega, by have := vF_ge mm; have := vF_lt mm; omega⟩ (by simp only [toF_add, toF_mul, toF_sub, toF_neg, toF_vF, toF_nat, toF_0, toF_1, toF_M, F_add0, F_0sub])
                refine rw_of (fun rr hrr => q_invS hV30 rfl rfl (okar_cons rfl okar_nil) (Nat.le_of_ble_eq_true rfl) (q_goto (t := 310) rfl hrr)) ?_
                refine rw_blk lk_L_costs_310 ?_
                refine rw_of (fun rr hrr => q_istore (Nat.le_of_ble_eq_true rfl) rfl (q_iconst (q_istore (Nat.le_of_ble_eq_true rfl) rfl hrr))) ?_
                have hA31 : (0 < s → (iv ((mm))) = iv mm) ∧ (s = 0 → (iv ((mm))) = 0) ∧ (∀ z, z < 0 → ∀ c, c < n → nn153 (K + 1) (8 * z + c) = vF (Pm n A B C q r (s + 1) z c)) ∧ ∀ z c, z < 8 → c < 8 → ¬ (z < 0 ∧ c < n) → nn153 (K + 1) (8 * z + c) = nn153 (K + 1) (8 * z + c) := by
                  refine ⟨fun h => ?_, fun h => ?_, fun z hz => absurd hz (Nat.not_lt_zero z), fun _ _ _ _ _ => rfl⟩
                  · first | rfl | (exfalso; omega)
                  · first | rfl | (exfalso; omega)
                exact rw_cast (hL315 0 (by omega) _ _ nn153 (iv ((mm))) x153_14 x33_15 x33_16 ⟨(fun _ _ => rfl), hA31⟩) (lcons rfl (lcons rfl (lcons rfl (lcons rfl (lcons rfl (lcons rfl (lcons rfl (lcons rfl (lcons rfl (lcons rfl (lcons rfl (lcons rfl (lcons (lvI (by rfl)) (lcons (lvI (by omega)) (lcons rfl (lcons rfl (lcons rfl rfl))))))))))))))))) rfl
            · skip
              refine rw_of (fun rr hrr => q_aload rfl (q_iload rfl (q_iconst (q_last (j := j) (Ro_made (by omega)) rfl (by omega) hrr)))) ?_
              generalize hm32 : wI nn153 (K + 1 + 1 + 1 + 1) j (0) = e34
              refine rw_of (fun rr hrr => q_iconst (q_istore (Nat.le_of_ble_eq_true rfl) rfl hrr)) ?_
              have hL169 : ∀ i, i ≤ n → ∀ (cc ss : Nat) (nn169 : N2) (x169_14 : Option Value), (FrN (fun a_ => a_ = K + 1 + 1 ∨ a_ = K + 1 + 1 + 1 + 1) e34 nn169 ∧ (nn169 (K + 1 + 1 + 1 + 1) j = vF (dot i (Vm n P B s) (fun zz => A zz j)) ∧ (∀ z, z < j → nn169 (K + 1 + 1 + 1 + 1) z = vF (dot n (Vm n P B s) (fun zz => A zz z))) ∧ ∀ z y, y < n → (z < j ∨ z = j ∧ y < i) → nn169 (K + 1 + 1) (8 * y + z) = vF (rpa n P A y z))) → Rw (Ev d) k_L_costs (169, [], [some (.ref (a)), some (.ref (b)), some (.int (iI (vF (q)))), some (.int (iI (vF (r)))), some (.int (iI (((l : Nat) : Int)))), some (.int (iI (((n : Nat) : Int)))), some (.ref (K + 1)), some (.ref (K + 1 + 1)), some (.ref (K + 1 + 1 + 1)), some (.ref (K + 1 + 1 + 1 + 1)), some (.int (iI (((s : Nat) : Int)))), some (.int (iI (vF (mm)))), some (.int (iI (((j : Nat) : Int)))), some (.int (iI (((i : Nat) : Int)))), x169_14, x33_15, x33_16], [], hB X m p (K + 1 + 1 + 1 + 1) (shU (shU (shU (shU sh (K + 1) 64) (K + 1 + 1) 64) (K + 1 + 1 + 1) 8) (K + 1 + 1 + 1 + 1) 8) nn169, cc, ss) Qr := by
                refine loop_any (fun i hi169 ih169 => ?_)
                intro cc ss nn169 x169_14
                intro hI
                obtain ⟨hF169, ⟨hk169, hl169, hw169⟩⟩ := hI
                refine rw_blk lk_L_costs_169 ?_
                refine rw_of (fun rr hrr => q_iload rfl (q_iload rfl hrr)) ?_
                refine rw_icmp_ge ⟨by omega, by omega⟩ ⟨by omega, by omega⟩ (t := 290) rfl (fun hc35 => ?_) (fun hc35 => ?_)
                · skip
                  refine rw_blk lk_L_costs_290 ?_
                  refine rw_of (fun rr hrr => q_iinc rfl rfl (q_goto (t := 153) rfl hrr)) ?_
                  have hA36 : (∀ z, z < (j + 1) → nn169 (K + 1 + 1 + 1 + 1) z = vF (dot n (Vm n P B s) (fun zz => A zz z))) ∧ ∀ z y, y < n → z < (j + 1) → nn169 (K + 1 + 1) (8 * y + z) = vF (rpa n P A y z) := by
                    refine ⟨fun z hz => ?_, fun z y hy hz => hw169 z y hy (by omega)⟩
                    by_cases q9 : z = j
                    · rw [q9, hk169, show i = n by omega]
                    · exact hl169 z (by omega)
                  exact rw_cast (ih153 (by omega) _ _ nn169 (some (.int (iI (((i : Nat) : Int))))) x169_14 ⟨(fun a9 h9 => ((hF169 a9 (by show ¬ (a9 = K + 1 + 1 ∨ a9 = K + 1 + 1 + 1 + 1); omega)).trans ((kN hm32 (by omega)).trans (hF153 a9 (by show ¬ (a9 = K + 1 + 1 ∨ a9 = K + 1 + 1 + 1 + 1); omega))))), hA36⟩) (lcons rfl (lcons rfl (lcons rfl (lcons rfl (lcons rfl (lcons rfl (lcons rfl (lcons rfl (lcons rfl (lcons rfl (lcons rfl (lcons rfl (lcons (lvI (by omega)) (lcons rfl (lcons rfl (lcons rfl (lcons rfl rfl))))))))))))))))) rfl
                · skip
                  refine rw_of (fun rr hrr => q_aload rfl (q_iload rfl (q_aload rfl (q_iload rfl (q_lald (j := j) (Ro_made (by omega)) rfl (by omega) hk169 (q_aload rfl (q_iload rfl (q_lald (j := i) (Ro_new (Ro_made (by omega))) rfl (by omega) (((congrFun (hF169 (K + 1 + 1 + 1) (by show ¬ ((K + 1 + 1 + 1) = K + 1 + 1 ∨ (K + 1 + 1 + 1) = K + 1 + 1 + 1 + 1); omega)) _).trans ((congrFun (kN hm32 (by omega)) _).trans (congrFun (hF153 (K + 1 + 1 + 1) (by show ¬ ((K + 1 + 1 + 1) = K + 1 + 1 ∨ (K + 1 + 1 + 1) = K + 1 + 1 + 1 + 1); omega)) _))).trans (hv136 i (by omega))) (q_aload_n rfl (q_bipush rfl (q_iload rfl (q_imul (q_iload rfl (q_iadd (q_lald (j := 8 * i + j) (Ro_new (Ro_new (Ro_new (Ro_new ha)))) (by omega) (by omega) (((congrFun (hF169 a (by show ¬ (a = K + 1 + 1 ∨ a = K + 1 + 1 + 1 + 1); omega)) _).trans ((congrFun (kN hm32 (by omega)) _).trans ((congrFun (hF153 a (by show ¬ (a = K + 1 + 1 ∨ a = K + 1 + 1 + 1 + 1); omega)) _).trans ((congrFun (hF136 a (by show ¬ (a = K + 1 + 1 + 1); omega)) _).trans ((congrFun (hF33 a (by show ¬ (a = K + 1 ∨ a = K + 1 + 1 ∨ a = K + 1 + 1 + 1 ∨ a = K + 1 + 1 + 1 + 1); omega)) _).trans ((congrFun (kU hu7 (by omega)) _).trans ((congrFun (kU hu5 (by omega)) _).trans ((congrFun (kU hu3 (by omega)) _).trans (congrFun (kU hu1 (by omega)) _))))))))).trans (hA i (by omega) j (by omega))) (q_imul (q_iadd (q_sipush rfl (q_irem (by have := vF_ge (dot i (Vm n P B s) (fun zz => A zz j)); have := vF_lt (dot i (Vm n P B s) (fun zz => A zz j)); have := vF_ge (Vm n P B s i); have := vF_lt (Vm n P B s i); have := vF_ge (A i j); have := vF_lt (A i j); have := vF_mul_lt (Vm n P B s i) (A i j); have := Int.mul_nonneg (vF_ge (Vm n P B s i)) (vF_ge (A i j)); exact ⟨by omega, by omega⟩) ⟨by omega, by omega⟩ (by omega) (remF (by have := vF_ge (dot i (Vm n P B s) (fun zz => A zz j)); have := vF_lt (dot i (Vm n P B s) (fun zz => A zz j)); have := vF_ge (Vm n P B s i); have := vF_lt (Vm n P B s i); have := vF_ge (A i j); have := vF_lt (A i j); have := vF_mul_lt (Vm n P B s i) (A i j); have := Int.mul_nonneg (vF_ge (Vm n P B s i)) (vF_ge (A i j)); omega) (show toF ((vF (dot i (Vm n P B s) (fun zz => A zz j)) + (vF (Vm n P B s i) * vF (A i j)))) = ((dot i (Vm n P B s) (fun zz => A zz j)) + ((Vm n P B s i) * (A i j))) by simp only [toF_add, toF_mul, toF_sub, toF_neg, toF_vF, toF_nat, toF_0, toF_1, toF_M, F_add0, F_0sub])) (q_last (j := j) (Ro_made (by omega)) rfl (by omega) hrr)))))))))))))))))))) ?_
                  generalize hm37 : wI nn169 (K + 1 + 1 + 1 + 1) j (vF (((dot i (Vm n P B s) (fun zz => A zz j)) + ((Vm n P B s i) * (A i j))))) = e38
                  refine rw_of (fun rr hrr => q_aload rfl (q_bipush rfl (q_iload rfl (q_imul (q_iload rfl (q_iadd (q_iconst (q_last (j := 8 * i + j) (Ro_new (Ro_new (Ro_made (by omega)))) (by omega) (by omega) hrr)))))))) ?_
                  generalize hm39 : wI e38 (K + 1 + 1) (8 * i + j) (0) = e40
                  refine rw_of (fun rr hrr => q_iconst (q_istore (Nat.le_of_ble_eq_true rfl) rfl hrr)) ?_
                  have hL222 : ∀ e, e ≤ n → ∀ (cc ss : Nat) (nn222 : N2), (FrN (fun a_ => a_ = K + 1 + 1) e40 nn222 ∧ (nn222 (K + 1 + 1) (8 * i + j) = vF (dot e (P i) (fun zz => A zz j)) ∧ ∀ y, y ≠ 8 * i + j → nn222 (K + 1 + 1) y = e40 (K + 1 + 1) y)) → Rw (Ev d) k_L_costs (222, [], [some (.ref (a)), some (.ref (b)), some (.int (iI (vF (q)))), some (.int (iI (vF (r)))), some (.int (iI (((l : Nat) : Int)))), some (.int (iI (((n : Nat) : Int)))), some (.ref (K + 1)), some (.ref (K + 1 + 1)), some (.ref (K + 1 + 1 + 1)), some (.ref (K + 1 + 1 + 1 + 1)), some (.int (iI (((s : Nat) : Int)))), some (.int (iI (vF (mm)))), some (.int (iI (((j : Nat) : Int)))), some (.int (iI (((i : Nat) : Int)))), some (.int (iI (((e : Nat) : Int)))), x33_15, x33_16], [], hB X m p (K + 1 + 1 + 1 + 1) (shU (shU (shU (shU sh (K + 1) 64) (K + 1 + 1) 64) (K + 1 + 1 + 1) 8) (K + 1 + 1 + 1 + 1) 8) nn222, cc, ss) Qr := by
                    refine loop_any (fun e hi222 ih222 => ?_)
                    intro cc ss nn222
                    intro hI
                    obtain ⟨hF222, ⟨hw222, hu222⟩⟩ := hI
                    refine rw_blk lk_L_costs_222 ?_
                    refine rw_of (fun rr hrr => q_iload rfl (q_iload rfl hrr)) ?_
                    refine rw_icmp_ge ⟨by omega, by omega⟩ ⟨by omega, by omega⟩ (t := 284) rfl (fun hc41 => ?_) (fun hc41 => ?_)
                    · skip
                      refine rw_blk lk_L_costs_284 ?_
                      refine rw_of (fun rr hrr => q_iinc rfl rfl (q_goto (t := 169) rfl hrr)) ?_
                      have hA42 : nn222 (K + 1 + 1 + 1 + 1) j = vF (dot (i + 1) (Vm n P B s) (fun zz => A zz j)) ∧ (∀ z, z < j → nn222 (K + 1 + 1 + 1 + 1) z = vF (dot n (Vm n P B s) (fun zz => A zz z))) ∧ ∀ z y, y < n → (z < j ∨ z = j ∧ y < (i + 1)) → nn222 (K + 1 + 1) (8 * y + z) = vF (rpa n P A y z) := by
                        refine ⟨(congrFun (hF222 (K + 1 + 1 + 1 + 1) (by omega)) _).trans ((congrFun (kN hm39 (by omega)) _).trans ((kA hm37).trans (congrArg vF (by rw [dot_s])))), fun z hz => (congrFun (hF222 (K + 1 + 1 + 1 + 1) (by omega)) _).trans ((congrFun (kN hm39 (by omega)) _).trans ((kB hm37 (by omega)).trans (hl169 z hz))), fun z y hy hz => ?_⟩
                        by_cases q9 : z = j ∧ y = i
                        · rw [q9.1, q9.2]
                          exact hw222.trans (congrArg vF (by rw [show e = n by omega]; rfl))
                        · exact (hu222 (8 * y + z) (by omega)).trans ((kB hm39 (by omega)).trans ((congrFun (kN hm37 (by omega)) _).trans (hw169 z y hy (by omega))))
                      exact rw_cast (ih169 (by omega) _ _ nn222 (some (.int (iI (((e : Nat) : Int))))) ⟨(fun a9 h9 => ((hF222 a9 (by show ¬ (a9 = K + 1 + 1); omega)).trans ((kN hm39 (by omega)).trans ((kN hm37 (by omega)).trans (hF169 a9 (by show ¬ (a9 = K + 1 + 1 ∨ a9 = K + 1 + 1 + 1 + 1); omega)))))), hA42⟩) (lcons rfl (lcons rfl (lcons rfl (lcons rfl (lcons rfl (lcons rfl (lcons rfl (lcons rfl (lcons rfl (lcons rfl (lcons rfl (lcons rfl (lcons rfl (lcons (lvI (by omega)) (lcons rfl (lcons rfl (lcons rfl rfl))))))))))))))))) rfl
                    · skip
                      refine rw_of (fun rr hrr => q_aload rfl (q_bipush rfl (q_iload rfl (q_imul (q_iload rfl (q_iadd (q_aload rfl (q_bipush rfl (q_iload rfl (q_imul (q_iload rfl (q_iadd (q_lald (j := 8 * i + j) (Ro_new (Ro_new (Ro_made (by omega)))) (by omega) (by omega) hw222 (q_aload rfl (q_bipush rfl (q_iload rfl (q_imul (q_iload rfl (q_iadd (q_lald (j := 8 * i + e) (Ro_new (Ro_new (Ro_new (Ro_made (by omega))))) (by omega) (by omega) (((congrFun (hF222 (K + 1) (by show ¬ ((K + 1) = K + 1 + 1); omega)) _).trans ((congrFun (kN hm39 (by omega)) _).trans ((congrFun (kN hm37 (by omega)) _).trans ((congrFun (hF169 (K + 1) (by show ¬ ((K + 1) = K + 1 + 1 ∨ (K + 1) = K + 1 + 1 + 1 + 1); omega)) _).trans ((congrFun (kN hm32 (by omega)) _).trans ((congrFun (hF153 (K + 1) (by show ¬ ((K + 1) = K + 1 + 1 ∨ (K + 1) = K + 1 + 1 + 1 + 1); omega)) _).trans (congrFun (hF136 (K + 1) (by show ¬ ((K + 1) = K + 1 + 1 + 1); omega)) _))))))).trans (hp33 i (by omega) e (by omega))) (q_aload_n rfl (q_bipush rfl (q_iload rfl (q_imul (q_iload rfl (q_iadd (q_lald (j := 8 * e + j) (Ro_new (Ro_new (Ro_new (Ro_new ha)))) (by omega) (by omega) (((congrFun (hF222 a (by show ¬ (a = K + 1 + 1); omega)) _).trans ((congrFun (kN hm39 (by omega)) _).trans ((congrFun (kN hm37 (by omega)) _).trans ((congrFun (hF169 a (by show ¬ (a = K + 1 + 1 ∨ a = K + 1 + 1 + 1 + 1); omega)) _).trans ((congrFun (kN hm32 (by omega)) _).trans ((congrFun (hF153 a (by show ¬ (a = K + 1 + 1 ∨ a = K + 1 + 1 + 1 + 1); omega)) _).trans ((congrFun (hF136 a (by show ¬ (a = K + 1 + 1 + 1); omega)) _).trans ((congrFun (hF33 a (by show ¬ (a = K + 1 ∨ a = K + 1 + 1 ∨ a = K + 1 + 1 + 1 ∨ a = K + 1 + 1 + 1 + 1); omega)) _).trans ((congrFun (kU hu7 (by omega)) _).trans ((congrFun (kU hu5 (by omega)) _).trans ((congrFun (kU hu3 (by omega)) _).trans (congrFun (kU hu1 (by omega)) _)))))))))))).trans (hA e (by omega) j (by omega))) (q_imul (q_iadd (q_sipush rfl (q_irem (by have := vF_ge (dot e (P i) (fun zz => A zz j)); have := vF_lt (dot e (P i) (fun zz => A zz j)); have := vF_ge (P i e); have := vF_lt (P i e); have := vF_ge (A e j); have := vF_lt (A e j); have := vF_mul_lt (P i e) (A e j); have := Int.mul_nonneg (vF_ge (P i e)) (vF_ge (A e j)); exact ⟨by omega, by omega⟩) ⟨by omega, by omega⟩ (by omega) (remF (by have := vF_ge (dot e (P i) (fun zz => A zz j)); have := vF_lt (dot e (P i) (fun zz => A zz j)); have := vF_ge (P i e); have := vF_lt (P i e); have := vF_ge (A e j); have := vF_lt (A e j); have := vF_mul_lt (P i e) (A e j); have := Int.mul_nonneg (vF_ge (P i e)) (vF_ge (A e j)); omega) (show toF ((vF (dot e (P i) (fun zz => A zz j)) + (vF (P i e) * vF (A e j)))) = ((dot e (P i) (fun zz => A zz j)) + ((P i e) * (A e j))) by simp only [toF_add, toF_mul, toF_sub, toF_neg, toF_vF, toF_nat, toF_0, toF_1, toF_M, F_add0, F_0sub])) (q_last (j := 8 * i + j) (Ro_new (Ro_new (Ro_made (by omega)))) (by omega) (by omega) hrr)))))))))))))))))))))))))))))))) ?_
                      generalize hm43 : wI nn222 (K + 1 + 1) (8 * i + j) (vF (((dot e (P i) (fun zz => A zz j)) + ((P i e) * (A e j))))) = e44
                      refine rw_of (fun rr hrr => q_iinc rfl rfl (q_goto (t := 222) rfl hrr)) ?_
                      have hA45 : e44 (K + 1 + 1) (8 * i + j) = vF (dot (e + 1) (P i) (fun zz => A zz j)) ∧ ∀ y, y ≠ 8 * i + j → e44 (K + 1 + 1) y = e40 (K + 1 + 1) y := by
                        exact ⟨(kA hm43).trans (congrArg vF (by rw [dot_s])), fun y hy => (kB hm43 hy).trans (hu222 y hy)⟩
                      exact rw_cast (ih222 (by omega) _ _ e44 ⟨(fun a9 h9 => ((kN hm43 (by omega)).trans (hF222 a9 (by show ¬ (a9 = K + 1 + 1); omega)))), hA45⟩) (lcons rfl (lcons rfl (lcons rfl (lcons rfl (lcons rfl (lcons rfl (lcons rfl (lcons rfl (lcons rfl (lcons rfl (lcons rfl (lcons rfl (lcons rfl (lcons rfl (lcons (lvI (by omega)) (lcons rfl (lcons rfl rfl))))))))))))))))) rfl
                  have hA47 : e40 (K + 1 + 1) (8 * i + j) = vF (dot 0 (P i) (fun zz => A zz j)) ∧ ∀ y, y ≠ 8 * i + j → e40 (K + 1 + 1) y = e40 (K + 1 + 1) y := by
                    exact ⟨(kA hm39).trans rfl, fun _ _ => rfl⟩
                  exact rw_cast (hL222 0 (by omega) _ _ e40 ⟨(fun _ _ => rfl), hA47⟩) (lcons rfl (lcons rfl (lcons rfl (lcons rfl (lcons rfl (lcons rfl (lcons rfl (lcons rfl (lcons rfl (lcons rfl (lcons rfl (lcons rfl (lcons rfl (lcons rfl (lcons (lvI (by omega)) (lcons rfl (lcons rfl rfl))))))))))))))))) rfl
              have hA48 : e34 (K + 1 + 1 + 1 + 1) j = vF (dot 0 (Vm n P B s) (fun zz => A zz j)) ∧ (∀ z, z < j → e34 (K + 1 + 1 + 1 + 1) z = vF (dot n (Vm n P B s) (fun zz => A zz z))) ∧ ∀ z y, y < n → (z < j ∨ z = j ∧ y < 0) → e34 (K + 1 + 1) (8 * y + z) = vF (rpa n P A y z) := by
                exact ⟨(kA hm32).trans rfl, fun z hz => (kB hm32 (by omega)).trans (hk153 z hz), fun z y hy hz => (congrFun (kN hm32 (by omega)) _).trans (hw153 z y hy (by omega))⟩
              exact rw_cast (hL169 0 (by omega) _ _ e34 x153_14 ⟨(fun _ _ => rfl), hA48⟩) (lcons rfl (lcons rfl (lcons rfl (lcons rfl (lcons rfl (lcons rfl (lcons rfl (lcons rfl (lcons rfl (lcons rfl (lcons rfl (lcons rfl (lcons rfl (lcons (lvI (by omega)) (lcons rfl (lcons rfl (lcons rfl rfl))))))))))))))))) rfl
          have hA49 : (∀ z, z < 0 → nn136 (K + 1 + 1 + 1 + 1) z = vF (dot n (Vm n P B s) (fun zz => A zz z))) ∧ ∀ z y, y < n → z < 0 → nn136 (K + 1 + 1) (8 * y + z) = vF (rpa n P A y z) := by
            exact ⟨fun z hz => absurd hz (Nat.not_lt_zero z), fun z _ _ hz => absurd hz (Nat.not_lt_zero z)⟩
          exact rw_cast (hL153 0 (by omega) _ _ nn136 x136_13 x33_14 ⟨(fun _ _ => rfl), hA49⟩) (lcons rfl (lcons rfl (lcons rfl (lcons rfl (lcons rfl (lcons rfl (lcons rfl (lcons rfl (lcons rfl (lcons rfl (lcons rfl (lcons rfl (lcons (lvI (by omega)) (lcons rfl (lcons rfl (lcons rfl (lcons rfl rfl))))))))))))))))) rfl
        refine rw_if_le ⟨by omega, by omega⟩ (t := 150) rfl (fun hc50 => ?_) (fun hc50 => ?_)
        · skip
          have hA51 : s ≤ l0 := by
            omega
          exact rw_cast (hL150 _ _ hA51) rfl rfl
        · skip
          refine rw_of (fun rr hrr => q_iload rfl hrr) ?_
          refine rw_if_ne (rg_vF _) (t := 150) rfl (fun hc52 => ?_) (fun hc52 => ?_)
          · skip
            have hs9 : s ≤ l0 := by
              rcases Nat.lt_or_ge l0 s with q9 | q9
              · exact absurd (vF_eq0.mpr ((hm136 (by omega)).trans (by rw [hPs, show s = l0 + 1 by omega]; exact hr))) hc52
              · exact q9
            have hA53 : s ≤ l0 := by
              omega
            exact rw_cast (hL150 _ _ hA53) rfl rfl
          · skip
            refine rw_of (fun rr hrr => q_sipush rfl hrr) ?_
            refine lw_end hQ (q_ireturn (Or.inl rfl)) (by omega) (by omega) (FrS_tr (by omega) (FrS_tr (by omega) (FrS_tr (by omega) (FrS_tr (by omega) FrS_rfl FrS_new) FrS_new) FrS_new) FrS_new) ?_
            exact ⟨rfl, rfl, rfl, fun a9 h9 => ((hF136 a9 (by show ¬ (a9 = K + 1 + 1 + 1); omega)).trans ((hF33 a9 (by show ¬ (a9 = K + 1 ∨ a9 = K + 1 + 1 ∨ a9 = K + 1 + 1 + 1 ∨ a9 = K + 1 + 1 + 1 + 1); omega)).trans ((kU hu7 (by omega)).trans ((kU hu5 (by omega)).trans ((kU hu3 (by omega)).trans (kU hu1 (by omega)))))))⟩
      refine rw_of (fun rr hrr => q_istore (Nat.le_of_ble_eq_true rfl) rfl hrr) ?_
      have hL46 : ∀ i, i ≤ n → ∀ (cc ss : Nat) (nn46 : N2) (x46_13 : Option Value), (FrN (fun a_ => a_ = K + 1 + 1 + 1) nn33 nn46 ∧ ((∀ z, z < i → nn46 (K + 1 + 1 + 1) z = vF (rb n P B z)) ∧ (0 < i → 0 < s) ∧ (s = 0 → ∀ z, nn46 (K + 1 + 1 + 1) z = 0))) → Rw (Ev d) k_L_costs (46, [], [some (.ref (a)), some (.ref (b)), some (.int (iI (vF (q)))), some (.int (iI (vF (r)))), some (.int (iI (((l : Nat) : Int)))), some (.int (iI (((n : Nat) : Int)))), some (.ref (K + 1)), some (.ref (K + 1 + 1)), some (.ref (K + 1 + 1 + 1)), some (.ref (K + 1 + 1 + 1 + 1)), some (.int (iI (((s : Nat) : Int)))), some (.int (iI (vF (r + dot i B (rb n P B))))), some (.int (iI (((i : Nat) : Int)))), x46_13, x33_14, x33_15, x33_16], [], hB X m p (K + 1 + 1 + 1 + 1) (shU (shU (shU (shU sh (K + 1) 64) (K + 1 + 1) 64) (K + 1 + 1 + 1) 8) (K + 1 + 1 + 1 + 1) 8) nn46, cc, ss) Qr := by
        refine loop_any (fun i hi46 ih46 => ?_)
        intro cc ss nn46 x46_13
        intro hI
        obtain ⟨hF46, ⟨hv46, hi46, hz46⟩⟩ := hI
        refine rw_blk lk_L_costs_46 ?_
        refine rw_of (fun rr hrr => q_iload rfl (q_iload rfl hrr)) ?_
        refine rw_icmp_ge ⟨by omega, by omega⟩ ⟨by omega, by omega⟩ (t := 136) rfl (fun hc54 => ?_) (fun hc54 => ?_)
        · skip
          have hA55 : (∀ z, z < n → nn46 (K + 1 + 1 + 1) z = vF (Vm n P B s z)) ∧ (0 < s → (r + dot i B (rb n P B)) = rm n P B r) := by
            have hs0 : 0 < s := hi46 (by omega)
            refine ⟨fun z hz => ?_, fun _ => by rw [show i = n by omega]; rfl⟩
            rw [hv46 z (by omega)]
            unfold Vm
            rw [if_neg (by omega)]
          exact rw_cast (hL136 _ _ nn46 (r + dot i B (rb n P B)) (some (.int (iI (((i : Nat) : Int))))) x46_13 ⟨(fun a9 h9 => (hF46 a9 (by show ¬ (a9 = K + 1 + 1 + 1); omega))), hA55⟩) (lcons rfl (lcons rfl (lcons rfl (lcons rfl (lcons rfl (lcons rfl (lcons rfl (lcons rfl (lcons rfl (lcons rfl (lcons rfl (lcons (lvI (by exact congrArg vF (by first | rfl | grind))) (lcons rfl (lcons rfl (lcons rfl (lcons rfl (lcons rfl rfl))))))))))))))))) rfl
        · skip
          refine rw_of (fun rr hrr => q_iload rfl hrr) ?_
          refine rw_if_le ⟨by omega, by omega⟩ (t := 136) rfl (fun hc56 => ?_) (fun hc56 => ?_)
          · skip
            have hA57 : (∀ z, z < n → nn46 (K + 1 + 1 + 1) z = vF (Vm n P B s z)) ∧ (0 < s → (r + dot i B (rb n P B)) = rm n P B r) := by
              refine ⟨fun z hz => ?_, fun h => by omega⟩
              rw [hz46 (by omega) z]
              unfold Vm
              rw [if_pos (by omega)]
              rfl
            exact rw_cast (hL136 _ _ nn46 (r + dot i B (rb n P B)) (some (.int (iI (((i : Nat) : Int))))) x46_13 ⟨(fun a9 h9 => (hF46 a9 (by show ¬ (a9 = K + 1 + 1 + 1); omega))), hA57⟩) (lcons rfl (lcons rfl (lcons rfl (lcons rfl (lcons rfl (lcons rfl (lcons rfl (lcons rfl (lcons rfl (lcons rfl (lcons rfl (lcons (lvI (by exact congrArg vF (by first | rfl | grind))) (lcons rfl (lcons rfl (lcons rfl (lcons rfl (lcons rfl rfl))))))))))))))))) rfl
          · skip
            refine rw_of (fun rr hrr => q_aload rfl (q_iload rfl (q_iconst (q_last (j := i) (Ro_new (Ro_made (by omega))) rfl (by omega) hrr)))) ?_
            generalize hm58 : wI nn46 (K + 1 + 1 + 1) i (0) = e59
            refine rw_of (fun rr hrr => q_iconst (q_istore (Nat.le_of_ble_eq_true rfl) rfl hrr)) ?_
            have hL67 : ∀ j, j ≤ n → ∀ (cc ss : Nat) (nn67 : N2), (FrN (fun a_ => a_ = K + 1 + 1 + 1) e59 nn67 ∧ (nn67 (K + 1 + 1 + 1) i = vF (dot j (P i) B) ∧ ∀ z, z < i → nn67 (K + 1 + 1 + 1) z = vF (rb n P B z))) → Rw (Ev d) k_L_costs (67, [], [some (.ref (a)), some (.ref (b)), some (.int (iI (vF (q)))), some (.int (iI (vF (r)))), some (.int (iI (((l : Nat) : Int)))), some (.int (iI (((n : Nat) : Int)))), some (.ref (K + 1)), some (.ref (K + 1 + 1)), some (.ref (K + 1 + 1 + 1)), some (.ref (K + 1 + 1 + 1 + 1)), some (.int (iI (((s : Nat) : Int)))), some (.int (iI (vF (r + dot i B (rb n P B))))), some (.int (iI (((i : Nat) : Int)))), some (.int (iI (((j : Nat) : Int)))), x33_14, x33_15, x33_16], [], hB X m p (K + 1 + 1 + 1 + 1) (shU (shU (shU (shU sh (K + 1) 64) (K + 1 + 1) 64) (K + 1 + 1 + 1) 8) (K + 1 + 1 + 1 + 1) 8) nn67, cc, ss) Qr := by
              refine loop_any (fun j hi67 ih67 => ?_)
              intro cc ss nn67
              intro hI
              obtain ⟨hF67, ⟨hv67, hw67⟩⟩ := hI
              refine rw_blk lk_L_costs_67 ?_
              refine rw_of (fun rr hrr => q_iload rfl (q_iload rfl hrr)) ?_
              refine rw_icmp_ge ⟨by omega, by omega⟩ ⟨by omega, by omega⟩ (t := 111) rfl (fun hc60 => ?_) (fun hc60 => ?_)
              · skip
                refine rw_blk lk_L_costs_111 ?_
                refine rw_of (fun rr hrr => q_iload rfl (q_aload_n rfl (q_iload rfl (q_lald (j := i) (Ro_new (Ro_new (Ro_new (Ro_new hb)))) rfl (by omega) (((congrFun (hF67 b (by show ¬ (b = K + 1 + 1 + 1); omega)) _).trans ((congrFun (kN hm58 (by omega)) _).trans ((congrFun (hF46 b (by show ¬ (b = K + 1 + 1 + 1); omega)) _).trans ((congrFun (hF33 b (by show ¬ (b = K + 1 ∨ b = K + 1 + 1 ∨ b = K + 1 + 1 + 1 ∨ b = K + 1 + 1 + 1 + 1); omega)) _).trans ((congrFun (kU hu7 (by omega)) _).trans ((congrFun (kU hu5 (by omega)) _).trans ((congrFun (kU hu3 (by omega)) _).trans (congrFun (kU hu1 (by omega)) _)))))))).trans (hbv i (by omega))) (q_aload rfl (q_iload rfl (q_lald (j := i) (Ro_new (Ro_made (by omega))) rfl (by omega) hv67 (q_imul (q_iadd (q_sipush rfl (q_irem (by have := vF_ge (r + dot i B (rb n P B)); have := vF_lt (r + dot i B (rb n P B)); have := vF_ge (B i); have := vF_lt (B i); have := vF_ge (dot j (P i) B); have := vF_lt (dot j (P i) B); have := vF_mul_lt (B i) (dot j (P i) B); have := Int.mul_nonneg (vF_ge (B i)) (vF_ge (dot j (P i) B)); exact ⟨by omega, by omega⟩) ⟨by omega, by omega⟩ (by omega) (remF (by have := vF_ge (r + dot i B (rb n P B)); have := vF_lt (r + dot i B (rb n P B)); have := vF_ge (B i); have := vF_lt (B i); have := vF_ge (dot j (P i) B); have := vF_lt (dot j (P i) B); have := vF_mul_lt (B i) (dot j (P i) B); have := Int.mul_nonneg (vF_ge (B i)) (vF_ge (dot j (P i) B)); omega) (show toF ((vF (r + dot i B (rb n P B)) + (vF (B i) * vF (dot j (P i) B)))) = ((r + dot i B (rb n P B)) + ((B i) * (dot j (P i) B))) by simp only [toF_add, toF_mul, toF_sub, toF_neg, toF_vF, toF_nat, toF_0, toF_1, toF_M, F_add0, F_0sub])) (q_istore (Nat.le_of_ble_eq_true rfl) rfl (q_iinc rfl rfl (q_goto (t := 46) rfl hrr)))))))))))))) ?_
                have hA61 : (∀ z, z < (i + 1) → nn67 (K + 1 + 1 + 1) z = vF (rb n P B z)) ∧ (0 < (i + 1) → 0 < s) ∧ (s = 0 → ∀ z, nn67 (K + 1 + 1 + 1) z = 0) := by
                  refine ⟨fun z hz => ?_, fun _ => by omega, fun h => by omega⟩
                  by_cases q9 : z = i
                  · rw [q9]
                    exact hv67.trans (congrArg vF (by rw [show j = n by omega]; rfl))
                  · exact hw67 z (by omega)
                exact rw_cast (ih46 (by omega) _ _ nn67 (some (.int (iI (((j : Nat) : Int))))) ⟨(fun a9 h9 => ((hF67 a9 (by show ¬ (a9 = K + 1 + 1 + 1); omega)).trans ((kN hm58 (by omega)).trans (hF46 a9 (by show ¬ (a9 = K + 1 + 1 + 1); omega))))), hA61⟩) (lcons rfl (lcons rfl (lcons rfl (lcons rfl (lcons rfl (lcons rfl (lcons rfl (lcons rfl (lcons rfl (lcons rfl (lcons rfl (lcons (lvI (by exact congrArg vF (by rw [dot_s]; show _ = r + (dot i B (rb n P B) + B i * dot n (P i) B); rw [show j = n by omega]; grind))) (lcons (lvI (by omega)) (lcons rfl (lcons rfl (lcons rfl (lcons rfl rfl))))))))))))))))) rfl
              · skip
                refine rw_of (fun rr hrr => q_aload rfl (q_iload rfl (q_aload rfl (q_iload rfl (q_lald (j := i) (Ro_new (Ro_made (by omega))) rfl (by omega) hv67 (q_aload rfl (q_bipush rfl (q_iload rfl (q_imul (q_iload rfl (q_iadd (q_lald (j := 8 * i + j) (Ro_new (Ro_new (Ro_new (Ro_made (by omega))))) (by omega) (by omega) (((congrFun (hF67 (K + 1) (by show ¬ ((K + 1) = K + 1 + 1 + 1); omega)) _).trans ((congrFun (kN hm58 (by omega)) _).trans (congrFun (hF46 (K + 1) (by show ¬ ((K + 1) = K + 1 + 1 + 1); omega)) _))).trans (hp33 i (by omega) j (by omega))) (q_aload_n rfl (q_iload rfl (q_lald (j := j) (Ro_new (Ro_new (Ro_new (Ro_new hb)))) rfl (by omega) (((congrFun (hF67 b (by show ¬ (b = K + 1 + 1 + 1); omega)) _).trans ((congrFun (kN hm58 (by omega)) _).trans ((congrFun (hF46 b (by show ¬ (b = K + 1 + 1 + 1); omega)) _).trans ((congrFun (hF33 b (by show ¬ (b = K + 1 ∨ b = K + 1 + 1 ∨ b = K + 1 + 1 + 1 ∨ b = K + 1 + 1 + 1 + 1); omega)) _).trans ((congrFun (kU hu7 (by omega)) _).trans ((congrFun (kU hu5 (by omega)) _).trans ((congrFun (kU hu3 (by omega)) _).trans (congrFun (kU hu1 (by omega)) _)))))))).trans (hbv j (by omega))) (q_imul (q_iadd (q_sipush rfl (q_irem (by have := vF_ge (dot j (P i) B); have := vF_lt (dot j (P i) B); have := vF_ge (P i j); have := vF_lt (P i j); have := vF_ge (B j); have := vF_lt (B j); have := vF_mul_lt (P i j) (B j); have := Int.mul_nonneg (vF_ge (P i j)) (vF_ge (B j)); exact ⟨by omega, by omega⟩) ⟨by omega, by omega⟩ (by omega) (remF (by have := vF_ge (dot j (P i) B); have := vF_lt (dot j (P i) B); have := vF_ge (P i j); have := vF_lt (P i j); have := vF_ge (B j); have := vF_lt (B j); have := vF_mul_lt (P i j) (B j); have := Int.mul_nonneg (vF_ge (P i j)) (vF_ge (B j)); omega) (show toF ((vF (dot j (P i) B) + (vF (P i j) * vF (B j)))) = ((dot j (P i) B) + ((P i j) * (B j))) by simp only [toF_add, toF_mul, toF_sub, toF_neg, toF_vF, toF_nat, toF_0, toF_1, toF_M, F_add0, F_0sub])) (q_last (j := i) (Ro_new (Ro_made (by omega))) rfl (by omega) hrr)))))))))))))))))))) ?_
                generalize hm62 : wI nn67 (K + 1 + 1 + 1) i (vF (((dot j (P i) B) + ((P i j) * (B j))))) = e63
                refine rw_of (fun rr hrr => q_iinc rfl rfl (q_goto (t := 67) rfl hrr)) ?_
                have hA64 : e63 (K + 1 + 1 + 1) i = vF (dot (j + 1) (P i) B) ∧ ∀ z, z < i → e63 (K + 1 + 1 + 1) z = vF (rb n P B z) := by
                  exact ⟨(kA hm62).trans (congrArg vF (by rw [dot_s])), fun z hz => (kB hm62 (by omega)).trans (hw67 z hz)⟩
                exact rw_cast (ih67 (by omega) _ _ e63 ⟨(fun a9 h9 => ((kN hm62 (by omega)).trans (hF67 a9 (by show ¬ (a9 = K + 1 + 1 + 1); omega)))), hA64⟩) (lcons rfl (lcons rfl (lcons rfl (lcons rfl (lcons rfl (lcons rfl (lcons rfl (lcons rfl (lcons rfl (lcons rfl (lcons rfl (lcons rfl (lcons rfl (lcons (lvI (by omega)) (lcons rfl (lcons rfl (lcons rfl rfl))))))))))))))))) rfl
            have hA65 : e59 (K + 1 + 1 + 1) i = vF (dot 0 (P i) B) ∧ ∀ z, z < i → e59 (K + 1 + 1 + 1) z = vF (rb n P B z) := by
              exact ⟨(kA hm58).trans rfl, fun z hz => (kB hm58 (by omega)).trans (hv46 z hz)⟩
            exact rw_cast (hL67 0 (by omega) _ _ e59 ⟨(fun _ _ => rfl), hA65⟩) (lcons rfl (lcons rfl (lcons rfl (lcons rfl (lcons rfl (lcons rfl (lcons rfl (lcons rfl (lcons rfl (lcons rfl (lcons rfl (lcons rfl (lcons rfl (lcons (lvI (by omega)) (lcons rfl (lcons rfl (lcons rfl rfl))))))))))))))))) rfl
      have hA66 : (∀ z, z < 0 → nn33 (K + 1 + 1 + 1) z = vF (rb n P B z)) ∧ (0 < 0 → 0 < s) ∧ (s = 0 → ∀ z, nn33 (K + 1 + 1 + 1) z = 0) := by
        exact ⟨fun z hz => absurd hz (Nat.not_lt_zero z), fun h => by omega, hv33⟩
      exact rw_cast (hL46 0 (by omega) _ _ nn33 x33_13 ⟨(fun _ _ => rfl), hA66⟩) (lcons rfl (lcons rfl (lcons rfl (lcons rfl (lcons rfl (lcons rfl (lcons rfl (lcons rfl (lcons rfl (lcons rfl (lcons rfl (lcons (lvI (by exact congrArg vF (by rw [dot_0]; grind))) (lcons (lvI (by omega)) (lcons rfl (lcons rfl (lcons rfl (lcons rfl rfl))))))))))))))))) rfl
  have hA68 : (fun _ _ => 0) = Pm n A B C q r 0 ∧ Mv e8 (K + 1) n (fun _ _ => 0) ∧ Zo e8 (K + 1) n ∧ (0 = 0 → ∀ z, e8 (K + 1 + 1 + 1) z = 0) := by
    exact ⟨rfl, fun i _ j _ => (congrFun ((kU hu7 (by omega)).trans ((kU hu5 (by omega)).trans (kU hu3 (by omega)))) _).trans (kU0 hu1), fun i j _ _ _ => (congrFun ((kU hu7 (by omega)).trans ((kU hu5 (by omega)).trans (kU hu3 (by omega)))) _).trans (kU0 hu1), fun _ z => (congrFun (kU hu7 (by omega)) _).trans (kU0 hu5)⟩
  exact rw_cast (hL33 0 (by omega) _ _ e8 (fun _ _ => 0) none none none none none none ⟨(fun _ _ => rfl), hA68⟩) (lcons rfl (lcons rfl (lcons rfl (lcons rfl (lcons rfl (lcons rfl (lcons rfl (lcons rfl (lcons rfl (lcons rfl (lcons (lvI (by omega)) (lcons rfl (lcons rfl (lcons rfl (lcons rfl (lcons rfl (lcons rfl rfl))))))))))))))))) rfl
