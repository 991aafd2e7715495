/-! PLACES: what stands ahead of each column. -/
def SolI (n : Nat) (K : Nat → Nat → F) (e : Nat → F) (j : Nat) (T : Nat → Nat → F) (ρ : Nat → F) : Prop := (∀ i, j ≤ i → i < n → ∀ c, c < n → T i c = (els n K j).1 i c) ∧ (∀ x, (∀ i, i < n → dot n (T i) x = ρ i) ↔ ∀ i, i < n → dot n (K i) x = e i) ∧ ∀ c, c < j → T c c ≠ 0 ∧ ∀ i, i < n → i ≠ c → T i c = 0
theorem SolI_0 {n : Nat} {K T : Nat → Nat → F} {e ρ : Nat → F} (h : ∀ i, i < n → ∀ c, c < n → T i c = K i c) (h' : ∀ i, i < n → ρ i = e i) : SolI n K e 0 T ρ := by
  have hd : ∀ x i, i < n → dot n (T i) x = dot n (K i) x := fun x i hi => dot_congr (fun c hc => h i hi c hc) (fun _ _ => rfl)
  refine ⟨fun i _ hi c hc => h i hi c hc, fun x => ⟨fun s i hi => ?_, fun s i hi => ?_⟩, fun c hc => absurd hc (Nat.not_lt_zero c)⟩
  · rw [← hd x i hi, s i hi, h' i hi]
  · rw [hd x i hi, s i hi, h' i hi]
theorem SolI_piv {n j : Nat} {K T : Nat → Nat → F} {e ρ : Nat → F} (hr : rk n K = n) (h : SolI n K e j T ρ) (hj : j < n) : ∃ k, IsF (fun i => T i j) n j k ∧ k < n := by
  refine ⟨ff (fun i => T i j) n j, ff_is (by omega), ?_⟩
  have h1 := els_all hr (j := j) (by omega)
  have h2 := els_all hr (j := j + 1) (by omega)
  by_cases q : ff (fun i => T i j) n j < n
  · exact q
  · exfalso
    have h3 : el n (els n K j) j = els n K j := (gj_el (g := els n K j) (M := T) (by omega) hj (by rw [h1]; exact h.1) (by rw [h1]; exact ff_is (by omega))).2 q
    have h4 : (el n (els n K j) j).2 = j + 1 := h2
    rw [h3, h1] at h4
    omega
theorem SolI_step {n j k : Nat} {K T T2 : Nat → Nat → F} {e ρ ρ2 : Nat → F} (hr : rk n K = n) (h : SolI n K e j T ρ) (hj : j < n) (hk : IsF (fun i => T i j) n j k) (hkn : k < n)
    (hT : ∀ i, i < n → ∀ c, c < n → T2 i c = swA T j k i c - (if i = j then 0 else swA T j k i j * iv (swA T j k j j)) * swA T j k j c)
    (hρ : ∀ i, i < n → ρ2 i = (if i = k then ρ j else if i = j then ρ k else ρ i) - (if i = j then 0 else swA T j k i j * iv (swA T j k j j)) * ρ k) : SolI n K e (j + 1) T2 ρ2 := by
  obtain ⟨h1, h2, h3⟩ := h
  have hrj := els_all hr (j := j) (by omega)
  have hp : T k j ≠ 0 := hk.2.2.1 hkn
  have hkj := hk.1
  have hsj : swA T j k j = T k := by
    unfold swA
    by_cases c : j = k
    · rw [if_pos c, c]
    · rw [if_neg c, if_pos rfl]
  have hg := (gj_el (g := els n K j) (M := T) (by omega) hj (by rw [hrj]; exact h1) (by rw [hrj]; exact hk)).1 hkn
  rw [hrj] at hg
  have hiv := iv_l hp
  have hsc : ∀ c, c < j → ∀ i, i < n → i ≠ c → swA T j k i c = 0 := fun c hc i hi hne => by
    unfold swA
    by_cases c1 : i = k
    · rw [if_pos c1]
      exact (h3 c hc).2 j hj (by omega)
    · rw [if_neg c1]
      by_cases c2 : i = j
      · rw [if_pos c2]
        exact (h3 c hc).2 k hkn (by omega)
      · rw [if_neg c2]
        exact (h3 c hc).2 i hi hne
  refine ⟨fun i hi hin c hc => ?_, fun x => ?_, fun c hc => ?_⟩
  · show _ = (el n (els n K j) j).1 i c
    rw [← hg.2 i hi hin c hc, hT i hin c hc]
    unfold gj
    rw [if_neg (by omega), if_neg (by omega)]
    grind
  · rw [← h2 x]
    have hd : ∀ i, i < n → dot n (T2 i) x = dot n (swA T j k i) x - (if i = j then 0 else swA T j k i j * iv (swA T j k j j)) * dot n (T k) x := fun i hi => by
      rw [← hsj, ← dot_less]
      exact dot_congr (fun c hc => hT i hi c hc) (fun _ _ => rfl)
    have hs : (∀ i, i < n → dot n (swA T j k i) x = if i = k then ρ j else if i = j then ρ k else ρ i) ↔ ∀ i, i < n → dot n (T i) x = ρ i := by
      refine ⟨fun s i hi => ?_, fun s i hi => ?_⟩
      · by_cases c1 : i = k
        · have := s j hj
          rw [hsj] at this
          by_cases c2 : j = k
          · rw [if_pos c2, ← c2] at this
            rw [c1, ← c2]
            exact this
          · rw [if_neg c2, if_pos rfl] at this
            rw [c1]
            exact this
        · by_cases c2 : i = j
          · have := s k hkn
            unfold swA at this
            rw [if_pos rfl, if_pos rfl] at this
            rw [c2]
            exact this
          · have := s i hi
            unfold swA at this
            rw [if_neg c1, if_neg c2, if_neg c1, if_neg c2] at this
            exact this
      · unfold swA
        by_cases c1 : i = k
        · rw [if_pos c1, if_pos c1]
          exact s j hj
        · rw [if_neg c1, if_neg c1]
          by_cases c2 : i = j
          · rw [if_pos c2, if_pos c2]
            exact s k hkn
          · rw [if_neg c2, if_neg c2]
            exact s i hi
    have hρj : (if j = k then ρ j else if j = j then ρ k else ρ j) = ρ k := by
      by_cases c : j = k
      · rw [if_pos c, c]
      · rw [if_neg c, if_pos rfl]
    rw [← hs]
    refine ⟨fun s => ?_, fun s i hi => ?_⟩
    · have s0 : dot n (T k) x = ρ k := by
        have := s j hj
        rw [hd j hj, hρ j hj, hρj, hsj, if_pos rfl] at this
        grind
      intro i hi
      have := s i hi
      rw [hd i hi, hρ i hi, s0] at this
      grind
    · have s0 : dot n (T k) x = ρ k := by
        have := s j hj
        rw [hsj, hρj] at this
        exact this
      rw [hd i hi, hρ i hi, s0, s i hi]
  · by_cases q : c = j
    · rw [q]
      refine ⟨?_, fun i hi hne => ?_⟩
      · rw [hT j hj j hj, if_pos rfl, hsj]
        have : T k j - 0 * T k j = T k j := by grind
        rw [this]
        exact hp
      · rw [hT i hi j hj, if_neg hne, hsj]
        grind
    · have hc' : c < j := by omega
      have h5 := h3 c hc'
      have e0 : swA T j k j c = 0 := hsc c hc' j hj (by omega)
      refine ⟨?_, fun i hi hne => ?_⟩
      · rw [hT c (by omega) c (by omega), e0]
        have : swA T j k c c = T c c := by
          unfold swA
          rw [if_neg (by omega), if_neg (by omega)]
        rw [this]
        have h6 : ∀ a b : F, a - b * 0 = a := fun a b => by grind
        rw [h6]
        exact h5.1
      · rw [hT i hi c (by omega), e0, hsc c hc' i hi hne]
        grind
theorem SolI_end {n : Nat} {K T : Nat → Nat → F} {e ρ : Nat → F} (h : SolI n K e n T ρ) : ∀ i, i < n → dot n (K i) (fun i => ρ i * iv (T i i)) = e i := by
  obtain ⟨_, h2, h3⟩ := h
  refine (h2 _).mp (fun i hi => ?_)
  show sm n (fun c => T i c * (ρ c * iv (T c c))) = ρ i
  rw [sm_one (k := i) hi (fun c hc hne => by rw [(h3 c hc).2 i hi (fun w => hne w.symm)]; grind)]
  have := iv_r (h3 i hi).1
  grind
/-- a column done, in memory -/
theorem SolI_mem {n j k : Nat} {K : Nat → Nat → F} {e : Nat → F} {m2 m3 m4 m5 m6 : M1} (hn : n ≤ 8) (hr : rk n K = n) (h : SolI n K e j (fun z w => m2 271 (8 * z + w)) (m2 274)) (hj : j < n) (hk : IsF (fun i => m2 271 (8 * i + j)) n j k) (hkn : k < n)
    (hs : ∀ i, i < 8 → ∀ c, c < n → m3 271 (8 * i + c) = swA (fun z w => m2 271 (8 * z + w)) j k i c) (hF : m3 274 = m2 274) (h4 : w1 m3 274 j (m3 274 k) = m4) (h5 : w1 m4 274 k (m3 274 j) = m5)
    (hv : ∀ i, i < n → ∀ c, c < n → m6 271 (8 * i + c) = m5 271 (8 * i + c) - slw m5 j i * m5 271 (8 * j + c)) (hf : ∀ i, i < n → m6 274 i = m5 274 i - slw m5 j i * m5 274 j) : SolI n K e (j + 1) (fun z w => m6 271 (8 * z + w)) (m6 274) := by
  have e1 : m5 271 = m3 271 := by rw [← h5, ← h4, w1_a (by omega), w1_a (by omega)]
  have e2 : ∀ i, m5 274 i = if i = k then m2 274 j else if i = j then m2 274 k else m2 274 i := fun i => by
    rw [← h5, ← h4]
    by_cases c1 : i = k
    · rw [if_pos c1, c1, w1_at, hF]
    · rw [if_neg c1, w1_ne (fun z => c1 z.2)]
      by_cases c2 : i = j
      · rw [if_pos c2, c2, w1_at, hF]
      · rw [if_neg c2, w1_ne (fun z => c2 z.2), hF]
  have e3 : ∀ i, i < n → slw m5 j i = if i = j then 0 else swA (fun z w => m2 271 (8 * z + w)) j k i j * iv (swA (fun z w => m2 271 (8 * z + w)) j k j j) := fun i hi => by
    unfold slw
    by_cases c : i = j
    · rw [if_pos c, if_pos c]
    · rw [if_neg c, if_neg c, e1, hs i (by omega) j hj, show 9 * j = 8 * j + j by omega, hs j (by omega) j hj]
  have e4 : m5 274 j = m2 274 k := by
    rw [e2 j]
    by_cases c : j = k
    · rw [if_pos c, c]
    · rw [if_neg c, if_pos rfl]
  refine SolI_step hr h hj hk hkn (fun i hi c hc => ?_) (fun i hi => ?_)
  · show m6 271 (8 * i + c) = _
    rw [hv i hi c hc, e3 i hi, e1, hs i (by omega) c hc, hs j (by omega) c hc]
  · rw [hf i hi, e3 i hi, e4, e2 i]
theorem vxp_s {n k : Nat} {A : Nat → Nat → F} {x : Nat → F} {j : Nat} : vxp n A x (k + 1) j = dot n (vxp n A x k) (fun i => A i j) := rfl
theorem c_X10_places0 {d : Nat} {S : MC} {fz : Bool} {m : M1} {p : M2} (hd : 4 ≤ d) (s n f : Nat) (hP : PI p) (hm : m 262 s = nF n) (hn0 : 1 ≤ n) (hn : n ≤ 8) (hs12 : s ≤ 12) (hf : f + n ≤ 16) (hr : rk n (kr n (fun z w => m 263 (64 * s + 8 * z + w)) (fun z => m 264 (8 * s + z))) = n) : Ct d k_X10_places S fz [.ref (261), .int (iI (((s : Nat) : Int))), .int (iI (0)), .int (iI (((f : Nat) : Int)))] m p (fun v m' p' => ∃ x, v = none ∧ p = p' ∧ Fr (fun a_ => a_ = 278 ∨ (271 ≤ a_ ∧ a_ < 276)) m m' ∧ (∀ i, i < n → dot n ((kr n (fun z w => m 263 (64 * s + 8 * z + w)) (fun z => m 264 (8 * s + z))) i) x = if i + 1 = n then 1 else 0) ∧ ∀ j, j < n → m' 275 j = av n (fun z w => m 263 (64 * s + 8 * z + w)) (fun z => m 267 (f + z)) x n j) := by
  obtain ⟨d, rfl⟩ : ∃ e, d = e + 1 := ⟨d - 1, by omega⟩
  refine ct_go (lv := [some (.ref (261)), some (.int (iI (((s : Nat) : Int)))), some (.int (iI (0))), some (.int (iI (((f : Nat) : Int)))), none, none, none, none]) (Nat.le_of_ble_eq_true rfl) (okar_cons rfl (okar_cons rfl (okar_cons rfl (okar_cons rfl okar_nil)))) rfl (fun Qr hQ => ?_)
  refine rw_blk lk_X10_places_0 ?_
  refine rw_of (fun rr hrr => q_aload_n rfl (q_getR (show SH 261 = (18, 0) from rfl) rfl (pt_261_1 hP) (q_iload_n rfl (q_iald (j := s) (show SH 262 = (1, 13) from rfl) rfl (by omega) (ki rfl hm (by omega)) (q_istore (Nat.le_of_ble_eq_true rfl) rfl (q_aload_n rfl (q_iload_n rfl (q_iload rfl hrr)))))))) ?_
  obtain ⟨_, mm1, pp2, hV3, rfl, rfl, hF3, hv3⟩ := c_X10_asks (S := S) (fz := fz) (m := m) (p := p) (d := d) (by omega) (f) (n) hP (by omega) (by omega)
  refine rw_of (fun rr hrr => q_invV hV3 (show SH 261 = (18, 0) from rfl) rfl rfl (okar_cons rfl (okar_cons rfl okar_nil)) (Nat.le_of_ble_eq_true rfl) (q_aload_n rfl (q_iload_n rfl (q_iload_n rfl hrr)))) ?_
  obtain ⟨_, mm4, pp5, hV6, rfl, rfl, hF6, hv6⟩ := c_X10_powers0 (S := S) (fz := fz) (m := mm1) (p := p) (d := d) (by omega) (s) (n) hP ((congrFun (hF3 262 (by show ¬ (262 = 278); omega)) s).trans hm) (by omega) (by omega) (by omega)
  refine rw_of (fun rr hrr => q_invV hV6 (show SH 261 = (18, 0) from rfl) rfl rfl (okar_cons rfl (okar_cons rfl okar_nil)) (Nat.le_of_ble_eq_true rfl) (q_iconst (q_istore (Nat.le_of_ble_eq_true rfl) rfl hrr))) ?_
  have hL24 : ∀ i, i ≤ n → ∀ (m1 : M1), (Fr (fun a_ => a_ = 278 ∨ (271 ≤ a_ ∧ a_ < 276)) m m1 ∧ (∀ z, z < n → ∀ w, w < n → m1 271 (8 * z + w) = (kr n (fun z w => m 263 (64 * s + 8 * z + w)) (fun z => m 264 (8 * s + z))) z w) ∧ (∀ z, z < 9 → m1 278 z = ask (fun z => m 267 (f + z)) n z) ∧ ∀ z, z < i → m1 274 z = (fun z => if z + 1 = n then (1 : F) else 0) z) → Rw (Ev d) k_X10_places (24, [], [some (.ref (261)), some (.int (iI (((s : Nat) : Int)))), some (.int (iI (0))), some (.int (iI (((f : Nat) : Int)))), some (.int (iI (((n : Nat) : Int)))), some (.int (iI (((i : Nat) : Int)))), none, none], [], hpM S fz (m1, p), 0, 0) Qr := by
    refine loop_any (fun i hi24 ih24 => ?_)
    intro m1
    intro hI24
    obtain ⟨hF1, hK1, hA1, hE1⟩ := hI24
    refine rw_blk lk_X10_places_24 ?_
    refine rw_of (fun rr hrr => q_iload rfl (q_iload rfl hrr)) ?_
    refine rw_icmp_ge ⟨by omega, by omega⟩ ⟨by omega, by omega⟩ (t := 58) rfl (fun hc7 => ?_) (fun hc7 => ?_)
    · skip
      refine rw_blk lk_X10_places_58 ?_
      refine rw_of (fun rr hrr => q_iconst (q_istore (Nat.le_of_ble_eq_true rfl) rfl hrr)) ?_
      have hL61 : ∀ j, j ≤ n → ∀ (m2 : M1) (x61_6 : Option Value) (x61_7 : Option Value), (Fr (fun a_ => a_ = 278 ∨ (271 ≤ a_ ∧ a_ < 276)) m m2 ∧ (∀ z, z < 9 → m2 278 z = ask (fun z => m 267 (f + z)) n z) ∧ SolI n (kr n (fun z w => m 263 (64 * s + 8 * z + w)) (fun z => m 264 (8 * s + z))) (fun z => if z + 1 = n then (1 : F) else 0) j (fun z w => m2 271 (8 * z + w)) (m2 274)) → Rw (Ev d) k_X10_places (61, [], [some (.ref (261)), some (.int (iI (((s : Nat) : Int)))), some (.int (iI (0))), some (.int (iI (((f : Nat) : Int)))), some (.int (iI (((n : Nat) : Int)))), some (.int (iI (((j : Nat) : Int)))), x61_6, x61_7], [], hpM S fz (m2, p), 0, 0) Qr := by
        refine loop_any (fun j hi61 ih61 => ?_)
        intro m2 x61_6 x61_7
        intro hI61
        obtain ⟨hF2, hA2, hS⟩ := hI61
        refine rw_blk lk_X10_places_61 ?_
        refine rw_of (fun rr hrr => q_iload rfl (q_iload rfl hrr)) ?_
        refine rw_icmp_ge ⟨by omega, by omega⟩ ⟨by omega, by omega⟩ (t := 150) rfl (fun hc8 => ?_) (fun hc8 => ?_)
        · skip
          refine rw_blk lk_X10_places_150 ?_
          refine rw_of (fun rr hrr => q_iconst (q_istore (Nat.le_of_ble_eq_true rfl) rfl hrr)) ?_
          have hL153 : ∀ i, i ≤ n → ∀ (m3 : M1), (Fr (fun a_ => a_ = 272 ∨ a_ = 274 ∨ a_ = 275) m2 m3 ∧ (∀ z, m3 274 z = if z < i then (fun z => m2 274 z * iv (m2 271 (8 * z + z))) z else m2 274 z) ∧ (∀ z, z < i → m3 272 z = (fun z => m2 274 z * iv (m2 271 (8 * z + z))) z) ∧ ∀ z, z < i → m3 275 z = (fun z => m2 274 z * iv (m2 271 (8 * z + z))) z * m2 278 0) → Rw (Ev d) k_X10_places (153, [], [some (.ref (261)), some (.int (iI (((s : Nat) : Int)))), some (.int (iI (0))), some (.int (iI (((f : Nat) : Int)))), some (.int (iI (((n : Nat) : Int)))), some (.int (iI (((i : Nat) : Int)))), x61_6, x61_7], [], hpM S fz (m3, p), 0, 0) Qr := by
            refine loop_any (fun i hi153 ih153 => ?_)
            intro m3
            intro hI153
            obtain ⟨hF3, h274, h272, h275⟩ := hI153
            refine rw_blk lk_X10_places_153 ?_
            refine rw_of (fun rr hrr => q_iload rfl (q_iload rfl hrr)) ?_
            refine rw_icmp_ge ⟨by omega, by omega⟩ ⟨by omega, by omega⟩ (t := 233) rfl (fun hc9 => ?_) (fun hc9 => ?_)
            · skip
              refine rw_blk lk_X10_places_233 ?_
              refine rw_of (fun rr hrr => q_iconst (q_istore (Nat.le_of_ble_eq_true rfl) rfl hrr)) ?_
              have hL236 : ∀ k, k ≤ n → ∀ (m4 : M1) (x236_6 : Option Value), (Fr (fun a_ => 271 ≤ a_ ∧ a_ < 276) m2 m4 ∧ (∀ z, z < n → m4 272 z = vxp n (fun z w => m 263 (64 * s + 8 * z + w)) (fun z => m2 274 z * iv (m2 271 (8 * z + z))) k z) ∧ ∀ z, z < n → m4 275 z = sm (k + 1) (fun l => m2 278 l * vxp n (fun z w => m 263 (64 * s + 8 * z + w)) (fun z => m2 274 z * iv (m2 271 (8 * z + z))) l z)) → Rw (Ev d) k_X10_places (236, [], [some (.ref (261)), some (.int (iI (((s : Nat) : Int)))), some (.int (iI (0))), some (.int (iI (((f : Nat) : Int)))), some (.int (iI (((n : Nat) : Int)))), some (.int (iI (((k + 1 : Nat) : Int)))), x236_6, x61_7], [], hpM S fz (m4, p), 0, 0) Qr := by
                refine loop_any (fun k hi236 ih236 => ?_)
                intro m4 x236_6
                intro hI236
                obtain ⟨hF4, hV, hW⟩ := hI236
                refine rw_blk lk_X10_places_236 ?_
                refine rw_of (fun rr hrr => q_iload rfl (q_iload rfl hrr)) ?_
                refine rw_icmp_gt ⟨by omega, by omega⟩ ⟨by omega, by omega⟩ (t := 315) rfl (fun hc10 => ?_) (fun hc10 => ?_)
                · skip
                  refine rw_blk lk_X10_places_315 ?_
                  refine rw_ret hQ (q_return) ?_
                  
                  have e9 : n = k := (by omega)
                  have e8 : n = j := (by omega)
                  subst e8
                  refine ⟨(fun z => m2 274 z * iv (m2 271 (8 * z + z))), rfl, rfl, Fr_trans hF2 (Fr_mono hF4 (fun a ha => by omega)), fun i hi => SolI_end hS i hi, fun z hz => ?_⟩
                  rw [hW z hz, ← e9, av_ask]
                  exact sm_congr (fun l hl => by rw [hA2 l (by omega)])
                  
                · skip
                  refine rw_of (fun rr hrr => q_aload_n rfl (q_iload_n rfl (q_iload_n rfl hrr))) ?_
                  refine rw_if_ne ⟨by omega, by omega⟩ (t := 253) rfl (fun hc11 => ?_) (fun hc11 => ?_)
                  · exfalso; omega
                  · skip
                    refine rw_of (fun rr hrr => q_iconst (q_goto (t := 254) rfl hrr)) ?_
                    refine rw_blk lk_X10_places_254 ?_
                    obtain ⟨_, mm12, pp13, hV14, rfl, rfl, hF14, hv14⟩ := c_X10_goes1 (S := S) (fz := fz) (m := m4) (p := p) (d := d) (by omega) (s) (n) hP ((congrFun ((hF4 262 (by show ¬ (271 ≤ 262 ∧ 262 < 276); omega)).trans (hF2 262 (by show ¬ (262 = 278 ∨ (271 ≤ 262 ∧ 262 < 276)); omega))) s).trans hm) (by omega) (by omega) (by omega)
                    refine rw_of (fun rr hrr => q_invV hV14 (show SH 261 = (18, 0) from rfl) rfl rfl (okar_cons rfl (okar_cons rfl okar_nil)) (Nat.le_of_ble_eq_true rfl) (q_iconst (q_istore (Nat.le_of_ble_eq_true rfl) rfl hrr))) ?_
                    have hL260 : ∀ i, i ≤ n → ∀ (m5 : M1), (Fr (fun a_ => a_ = 275) mm12 m5 ∧ ∀ z, m5 275 z = if z < i then mm12 275 z + mm12 272 z * mm12 278 (k + 1) else mm12 275 z) → Rw (Ev d) k_X10_places (260, [], [some (.ref (261)), some (.int (iI (((s : Nat) : Int)))), some (.int (iI (0))), some (.int (iI (((f : Nat) : Int)))), some (.int (iI (((n : Nat) : Int)))), some (.int (iI (((k + 1 : Nat) : Int)))), some (.int (iI (((i : Nat) : Int)))), x61_7], [], hpM S fz (m5, p), 0, 0) Qr := by
                      refine loop_any (fun i hi260 ih260 => ?_)
                      intro m5
                      intro hI260
                      obtain ⟨hF5, h5⟩ := hI260
                      refine rw_blk lk_X10_places_260 ?_
                      refine rw_of (fun rr hrr => q_iload rfl (q_iload rfl hrr)) ?_
                      refine rw_icmp_ge ⟨by omega, by omega⟩ ⟨by omega, by omega⟩ (t := 309) rfl (fun hc15 => ?_) (fun hc15 => ?_)
                      · skip
                        refine rw_blk lk_X10_places_309 ?_
                        refine rw_of (fun rr hrr => q_iinc rfl rfl (q_goto (t := 236) rfl hrr)) ?_
                        have hA16 : Fr (fun a_ => 271 ≤ a_ ∧ a_ < 276) m2 m5 ∧ (∀ z, z < n → m5 272 z = vxp n (fun z w => m 263 (64 * s + 8 * z + w)) (fun z => m2 274 z * iv (m2 271 (8 * z + z))) (k + 1) z) ∧ ∀ z, z < n → m5 275 z = sm ((k + 1) + 1) (fun l => m2 278 l * vxp n (fun z w => m 263 (64 * s + 8 * z + w)) (fun z => m2 274 z * iv (m2 271 (8 * z + z))) l z) := by
                          have eV : ∀ z, z < n → mm12 272 z = vxp n (fun z w => m 263 (64 * s + 8 * z + w)) (fun z => m2 274 z * iv (m2 271 (8 * z + z))) (k + 1) z := fun z hz => by
                            rw [hv14 z hz, hF4 263 (by omega), hF2 263 (by omega), vxp_s]
                            exact dot_congr (fun c hc => hV c hc) (fun _ _ => rfl)
                          refine ⟨Fr_trans hF4 (Fr_trans (Fr_mono hF14 (fun a ha => by omega)) (Fr_mono hF5 (fun a ha => by omega))), fun z hz => ?_, fun z hz => ?_⟩
                          · rw [hF5 272 (by omega)]
                            exact eV z hz
                          · rw [h5, if_pos (by omega), hF14 275 (by omega), hW z hz, eV z hz, hF14 278 (by omega), hF4 278 (by omega)]
                            show _ = sm (k + 1) _ + _
                            grind
                        exact rw_cast (ih236 (by omega) m5 (some (.int (iI (((i : Nat) : Int))))) hA16) (lcons rfl (lcons rfl (lcons rfl (lcons rfl (lcons rfl (lcons (lvI (by omega)) (lcons rfl (lcons rfl rfl)))))))) rfl
                      · skip
                        refine rw_of (fun rr hrr => q_aload_n rfl (q_getR (show SH 261 = (18, 0) from rfl) rfl (pt_261_16 hP) (q_iload rfl (q_aload_n rfl (q_getR (show SH 261 = (18, 0) from rfl) rfl (pt_261_16 hP) (q_iload rfl (q_iald (j := i) (show SH 275 = (1, 8) from rfl) rfl (by omega) rfl (q_aload_n rfl (q_getR (show SH 261 = (18, 0) from rfl) rfl (pt_261_13 hP) (q_iload rfl (q_iald (j := i) (show SH 272 = (1, 8) from rfl) rfl (by omega) rfl (q_aload_n rfl (q_getR (show SH 261 = (18, 0) from rfl) rfl (pt_261_19 hP) (q_iload rfl (q_iald (j := k + 1) (show SH 278 = (1, 9) from rfl) (by omega) (by omega) rfl hrr))))))))))))))) ?_
                        obtain ⟨_, mm17, pp18, hV19, rfl, rfl, rfl⟩ := c_X10_times (S := S) (fz := fz) (m := m5) (p := p) (d := d) (by omega) (m5 272 i) (m5 278 (k + 1))
                        refine rw_of (fun rr hrr => q_invS hV19 rfl rfl (okar_cons rfl (okar_cons rfl okar_nil)) (Nat.le_of_ble_eq_true rfl) (q_iadd (q_sipush rfl (q_irem (by have := vF_ge (m5 275 i); have := vF_lt (m5 275 i); have := vF_ge ((m5 272 i) * (m5 278 (k + 1))); have := vF_lt ((m5 272 i) * (m5 278 (k + 1))); exact ⟨by omega, by omega⟩) ⟨by omega, by omega⟩ (by omega) (remF (by have := vF_ge (m5 275 i); have := vF_lt (m5 275 i); have := vF_ge ((m5 272 i) * (m5 278 (k + 1))); have := vF_lt ((m5 272 i) * (m5 278 (k + 1))); omega) (show toF ((vF (m5 275 i) + vF ((m5 272 i) * (m5 278 (k + 1))))) = ((m5 275 i) + ((m5 272 i) * (m5 278 (k + 1)))) by simp only [toF_add, toF_mul, toF_sub, toF_neg, toF_vF, toF_0, toF_1, toF_M, F_add0, F_0sub])) (q_iast (j := i) (xx := ((m5 275 i) + ((m5 272 i) * (m5 278 (k + 1))))) (show SH 275 = (1, 8) from rfl) rfl (by omega) rfl hrr))))) ?_
                        generalize hm21 : w1 m5 275 i (((m5 275 i) + ((m5 272 i) * (m5 278 (k + 1))))) = mm20
                        refine rw_of (fun rr hrr => q_iinc rfl rfl (q_goto (t := 260) rfl hrr)) ?_
                        exact rw_cast (ih260 (by omega) mm20 (by exact ⟨fr_w hm21 hF5 rfl, fill_w (f := fun z => mm12 275 z + mm12 272 z * mm12 278 (k + 1)) hm21 h5 (by rw [h5, if_neg (by omega), hF5 272 (by omega), hF5 278 (by omega)])⟩)) (lcons rfl (lcons rfl (lcons rfl (lcons rfl (lcons rfl (lcons rfl (lcons (lvI (by omega)) (lcons rfl rfl)))))))) rfl
                    exact rw_cast (hL260 0 (by omega) mm12 (by exact ⟨Fr_rfl, fun z => (if_neg (Nat.not_lt_zero z)).symm⟩)) (lcons rfl (lcons rfl (lcons rfl (lcons rfl (lcons rfl (lcons rfl (lcons (lvI (by omega)) (lcons rfl rfl)))))))) rfl
              have hA22 : Fr (fun a_ => 271 ≤ a_ ∧ a_ < 276) m2 m3 ∧ (∀ z, z < n → m3 272 z = vxp n (fun z w => m 263 (64 * s + 8 * z + w)) (fun z => m2 274 z * iv (m2 271 (8 * z + z))) 0 z) ∧ ∀ z, z < n → m3 275 z = sm (0 + 1) (fun l => m2 278 l * vxp n (fun z w => m 263 (64 * s + 8 * z + w)) (fun z => m2 274 z * iv (m2 271 (8 * z + z))) l z) := by
                refine ⟨Fr_mono hF3 (fun a ha => by omega), fun z hz => ?_, fun z hz => ?_⟩
                · exact h272 z (by omega)
                · rw [h275 z (by omega)]
                  show _ = 0 + m2 278 0 * (fun z => m2 274 z * iv (m2 271 (8 * z + z))) z
                  grind
              exact rw_cast (hL236 0 (by omega) m3 x61_6 hA22) (lcons rfl (lcons rfl (lcons rfl (lcons rfl (lcons rfl (lcons (lvI (by omega)) (lcons rfl (lcons rfl rfl)))))))) rfl
            · skip
              refine rw_of (fun rr hrr => q_aload_n rfl (q_getR (show SH 261 = (18, 0) from rfl) rfl (pt_261_15 hP) (q_iload rfl (q_aload_n rfl (q_getR (show SH 261 = (18, 0) from rfl) rfl (pt_261_15 hP) (q_iload rfl (q_iald (j := i) (show SH 274 = (1, 8) from rfl) rfl (by omega) rfl (q_aload_n rfl (q_getR (show SH 261 = (18, 0) from rfl) rfl (pt_261_12 hP) (q_bipush rfl (q_iload rfl (q_imul (q_iald (j := 9 * i) (show SH 271 = (1, 64) from rfl) (by omega) (by omega) rfl hrr))))))))))))) ?_
              obtain ⟨_, mm23, pp24, hV25, rfl, rfl, rfl⟩ := c_X10_inverse (S := S) (fz := fz) (m := m3) (p := p) (d := d) (by omega) (m3 271 (9 * i))
              refine rw_of (fun rr hrr => q_invS hV25 rfl rfl (okar_cons rfl okar_nil) (Nat.le_of_ble_eq_true rfl) hrr) ?_
              obtain ⟨_, mm26, pp27, hV28, rfl, rfl, rfl⟩ := c_X10_times (S := S) (fz := fz) (m := m3) (p := p) (d := d) (by omega) (m3 274 i) (iv (m3 271 (9 * i)))
              refine rw_of (fun rr hrr => q_invS hV28 rfl rfl (okar_cons rfl (okar_cons rfl okar_nil)) (Nat.le_of_ble_eq_true rfl) (q_iast (j := i) (xx := (m3 274 i) * (iv (m3 271 (9 * i)))) (show SH 274 = (1, 8) from rfl) rfl (by omega) rfl hrr)) ?_
              generalize hm30 : w1 m3 274 i ((m3 274 i) * (iv (m3 271 (9 * i)))) = mm29
              refine rw_of (fun rr hrr => q_aload_n rfl (q_getR (show SH 261 = (18, 0) from rfl) rfl (pt_261_13 hP) (q_iload rfl (q_aload_n rfl (q_getR (show SH 261 = (18, 0) from rfl) rfl (pt_261_15 hP) (q_iload rfl (q_iald (j := i) (show SH 274 = (1, 8) from rfl) rfl (by omega) rfl (q_iast (j := i) (xx := mm29 274 i) (show SH 272 = (1, 8) from rfl) rfl (by omega) rfl hrr)))))))) ?_
              generalize hm32 : w1 mm29 272 i (mm29 274 i) = mm31
              refine rw_of (fun rr hrr => q_aload_n rfl (q_getR (show SH 261 = (18, 0) from rfl) rfl (pt_261_16 hP) (q_iload rfl (q_aload_n rfl (q_getR (show SH 261 = (18, 0) from rfl) rfl (pt_261_15 hP) (q_iload rfl (q_iald (j := i) (show SH 274 = (1, 8) from rfl) rfl (by omega) rfl (q_aload_n rfl (q_getR (show SH 261 = (18, 0) from rfl) rfl (pt_261_19 hP) (q_iconst (q_iald (j := 0) (show SH 278 = (1, 9) from rfl) rfl (by omega) rfl hrr))))))))))) ?_
              obtain ⟨_, mm33, pp34, hV35, rfl, rfl, rfl⟩ := c_X10_times (S := S) (fz := fz) (m := mm31) (p := p) (d := d) (by omega) (mm31 274 i) (mm31 278 0)
              refine rw_of (fun rr hrr => q_invS hV35 rfl rfl (okar_cons rfl (okar_cons rfl okar_nil)) (Nat.le_of_ble_eq_true rfl) (q_iast (j := i) (xx := (mm31 274 i) * (mm31 278 0)) (show SH 275 = (1, 8) from rfl) rfl (by omega) rfl hrr)) ?_
              generalize hm37 : w1 mm31 275 i ((mm31 274 i) * (mm31 278 0)) = mm36
              refine rw_of (fun rr hrr => q_iinc rfl rfl (q_goto (t := 153) rfl hrr)) ?_
              have hA38 : Fr (fun a_ => a_ = 272 ∨ a_ = 274 ∨ a_ = 275) m2 mm36 ∧ (∀ z, mm36 274 z = if z < (i + 1) then (fun z => m2 274 z * iv (m2 271 (8 * z + z))) z else m2 274 z) ∧ (∀ z, z < (i + 1) → mm36 272 z = (fun z => m2 274 z * iv (m2 271 (8 * z + z))) z) ∧ ∀ z, z < (i + 1) → mm36 275 z = (fun z => m2 274 z * iv (m2 271 (8 * z + z))) z * m2 278 0 := by
                have e1 : m3 274 i * iv (m3 271 (9 * i)) = (fun z => m2 274 z * iv (m2 271 (8 * z + z))) i := by
                  rw [h274, if_neg (by omega), hF3 271 (by omega), show 9 * i = 8 * i + i by omega]
                have e2 : ∀ z, z ≠ i → w1 m3 274 i (m3 274 i * iv (m3 271 (9 * i))) 274 z = m3 274 z := fun z q => w1_ne (fun w => q w.2)
                refine ⟨fr_w hm37 (fr_w hm32 (fr_w hm30 hF3 (by omega)) (by omega)) (by omega), fun z => ?_, fun z hz => ?_, fun z hz => ?_⟩
                · rw [← hm37, w1_a (by omega), ← hm32, w1_a (by omega)]
                  exact fill_w (f := (fun z => m2 274 z * iv (m2 271 (8 * z + z)))) hm30 h274 e1 z
                · rw [← hm37, w1_a (by omega), ← hm32]
                  by_cases q : z = i
                  · rw [q, w1_at, ← hm30, w1_at, e1]
                  · rw [w1_ne (fun w => q w.2), ← hm30, w1_a (by omega)]
                    exact h272 z (by omega)
                · rw [← hm37]
                  by_cases q : z = i
                  · rw [q, w1_at, ← hm32, w1_a (by omega), ← hm30, w1_at, e1, w1_a (by omega), w1_a (by omega), hF3 278 (by omega)]
                  · rw [w1_ne (fun w => q w.2), ← hm32, w1_a (by omega), ← hm30, w1_a (by omega)]
                    exact h275 z (by omega)
              exact rw_cast (ih153 (by omega) mm36 hA38) (lcons rfl (lcons rfl (lcons rfl (lcons rfl (lcons rfl (lcons (lvI (by omega)) (lcons rfl (lcons rfl rfl)))))))) rfl
          exact rw_cast (hL153 0 (by omega) m2 (by exact ⟨Fr_rfl, fun z => (if_neg (Nat.not_lt_zero z)).symm, fun z hz => absurd hz (Nat.not_lt_zero z), fun z hz => absurd hz (Nat.not_lt_zero z)⟩)) (lcons rfl (lcons rfl (lcons rfl (lcons rfl (lcons rfl (lcons (lvI (by omega)) (lcons rfl (lcons rfl rfl)))))))) rfl
        · skip
          obtain ⟨k0, hk0, hk0n⟩ := SolI_piv hr hS (by omega)
          refine rw_of (fun rr hrr => q_iload rfl (q_istore (Nat.le_of_ble_eq_true rfl) rfl hrr)) ?_
          have hL72 : ∀ t, t ≤ k0 - j → (True) → Rw (Ev d) k_X10_places (72, [], [some (.ref (261)), some (.int (iI (((s : Nat) : Int)))), some (.int (iI (0))), some (.int (iI (((f : Nat) : Int)))), some (.int (iI (((n : Nat) : Int)))), some (.int (iI (((j : Nat) : Int)))), some (.int (iI (((j + t : Nat) : Int)))), x61_7], [], hpM S fz (m2, p), 0, 0) Qr := by
            refine loop_any (fun t hi72 ih72 => ?_)
            intro _hT
            have h11 := hk0.1
            refine rw_blk lk_X10_places_72 ?_
            refine rw_of (fun rr hrr => q_aload_n rfl (q_getR (show SH 261 = (18, 0) from rfl) rfl (pt_261_12 hP) (q_bipush rfl (q_iload rfl (q_imul (q_iload rfl (q_iadd (q_iald (j := 8 * (j + t) + j) (show SH 271 = (1, 64) from rfl) (by omega) (by omega) rfl hrr)))))))) ?_
            refine rw_if_ne (rg_vF _) (t := 94) rfl (fun hc39 => ?_) (fun hc39 => ?_)
            · skip
              have h8 : m2 271 (8 * (j + t) + j) ≠ 0 := fun z => absurd (vF_eq0.mpr z) hc39
              have h9 : j + t = k0 := by
                by_cases q : j + t < k0
                · exact absurd (hk0.2.2.2 (j + t) (by omega) q) h8
                · omega
              have h10 := hk0.2.1
              refine rw_blk lk_X10_places_94 ?_
              refine rw_of (fun rr hrr => q_aload_n rfl (q_iload rfl (q_iload rfl (q_iload rfl hrr)))) ?_
              obtain ⟨_, mm40, pp41, hV42, rfl, rfl, hF42, hv42⟩ := c_X10_swaps (S := S) (fz := fz) (m := m2) (p := p) (d := d) (by omega) (j) (j + t) (n) hP (by omega) (by omega) (by omega)
              refine rw_of (fun rr hrr => q_invV hV42 (show SH 261 = (18, 0) from rfl) rfl rfl (okar_cons rfl (okar_cons rfl (okar_cons rfl okar_nil))) (Nat.le_of_ble_eq_true rfl) (q_aload_n rfl (q_getR (show SH 261 = (18, 0) from rfl) rfl (pt_261_15 hP) (q_iload rfl (q_iald (j := j) (show SH 274 = (1, 8) from rfl) rfl (by omega) rfl (q_istore (Nat.le_of_ble_eq_true rfl) rfl (q_aload_n rfl (q_getR (show SH 261 = (18, 0) from rfl) rfl (pt_261_15 hP) (q_iload rfl (q_aload_n rfl (q_getR (show SH 261 = (18, 0) from rfl) rfl (pt_261_15 hP) (q_iload rfl (q_iald (j := j + t) (show SH 274 = (1, 8) from rfl) (by omega) (by omega) rfl (q_iast (j := j) (xx := mm40 274 (j + t)) (show SH 274 = (1, 8) from rfl) rfl (by omega) rfl hrr)))))))))))))) ?_
              generalize hm44 : w1 mm40 274 j (mm40 274 (j + t)) = mm43
              refine rw_of (fun rr hrr => q_aload_n rfl (q_getR (show SH 261 = (18, 0) from rfl) rfl (pt_261_15 hP) (q_iload rfl (q_iload rfl (q_iast (j := j + t) (xx := mm40 274 j) (show SH 274 = (1, 8) from rfl) (by omega) (by omega) rfl hrr))))) ?_
              generalize hm46 : w1 mm43 274 (j + t) (mm40 274 j) = mm45
              refine rw_of (fun rr hrr => q_aload_n rfl (q_iload rfl (q_iload rfl hrr))) ?_
              obtain ⟨_, mm47, pp48, hV49, rfl, rfl, hF49, hv49, hf49⟩ := c_X10_solves (S := S) (fz := fz) (m := mm45) (p := p) (d := d) (by omega) (j) (n) hP (by omega) (by omega)
              refine rw_of (fun rr hrr => q_invV hV49 (show SH 261 = (18, 0) from rfl) rfl rfl (okar_cons rfl (okar_cons rfl okar_nil)) (Nat.le_of_ble_eq_true rfl) (q_iinc rfl rfl (q_goto (t := 61) rfl hrr))) ?_
              have hA50 : Fr (fun a_ => a_ = 278 ∨ (271 ≤ a_ ∧ a_ < 276)) m mm47 ∧ (∀ z, z < 9 → mm47 278 z = ask (fun z => m 267 (f + z)) n z) ∧ SolI n (kr n (fun z w => m 263 (64 * s + 8 * z + w)) (fun z => m 264 (8 * s + z))) (fun z => if z + 1 = n then (1 : F) else 0) (j + 1) (fun z w => mm47 271 (8 * z + w)) (mm47 274) := by
                refine ⟨Fr_trans (fr_w hm46 (fr_w hm44 (Fr_trans hF2 (Fr_mono hF42 (fun a ha => by omega))) (by omega)) (by omega)) (Fr_mono hF49 (fun a ha => by omega)), fun z hz => ?_, ?_⟩
                · rw [hF49 278 (by omega), ← hm46, w1_a (by omega), ← hm44, w1_a (by omega), hF42 278 (by omega)]
                  exact hA2 z hz
                · subst h9
                  exact SolI_mem hn hr hS (by omega) hk0 hk0n hv42 (hF42 274 (by omega)) hm44 hm46 hv49 hf49
              exact rw_cast (ih61 (by omega) mm47 (some (.int (iI (((j + t : Nat) : Int))))) (some (.int (iI (vF (mm40 274 j))))) hA50) (lcons rfl (lcons rfl (lcons rfl (lcons rfl (lcons rfl (lcons (lvI (by omega)) (lcons rfl (lcons rfl rfl)))))))) rfl
            · skip
              have h8 : m2 271 (8 * (j + t) + j) = 0 := vF_eq0.mp hc39
              have h9 : j + t ≠ k0 := fun e => hk0.2.2.1 hk0n (by rw [← e]; exact h8)
              refine rw_of (fun rr hrr => q_iinc rfl rfl (q_goto (t := 72) rfl hrr)) ?_
              exact rw_cast (ih72 (by omega) (by exact trivial)) (lcons rfl (lcons rfl (lcons rfl (lcons rfl (lcons rfl (lcons rfl (lcons (lvI (by omega)) (lcons rfl rfl)))))))) rfl
          exact rw_cast (hL72 0 (by omega) (by exact trivial)) (lcons rfl (lcons rfl (lcons rfl (lcons rfl (lcons rfl (lcons rfl (lcons (lvI (by omega)) (lcons rfl rfl)))))))) rfl
      exact rw_cast (hL61 0 (by omega) m1 none none (by exact ⟨hF1, hA1, SolI_0 hK1 (fun z hz => hE1 z (by omega))⟩)) (lcons rfl (lcons rfl (lcons rfl (lcons rfl (lcons rfl (lcons (lvI (by omega)) (lcons rfl (lcons rfl rfl)))))))) rfl
    · skip
      refine rw_of (fun rr hrr => q_aload_n rfl (q_getR (show SH 261 = (18, 0) from rfl) rfl (pt_261_15 hP) (q_iload rfl (q_iload rfl (q_iload rfl (q_iconst (q_isub hrr))))))) ?_
      refine rw_icmp_ne ⟨by omega, by omega⟩ ⟨by omega, by omega⟩ (t := 50) rfl (fun hc51 => ?_) (fun hc51 => ?_)
      · skip
        refine rw_blk lk_X10_places_50 ?_
        refine rw_of (fun rr hrr => q_iconst hrr) ?_
        refine rw_blk lk_X10_places_51 ?_
        refine rw_of (fun rr hrr => q_iast (j := i) (xx := 0) (show SH 274 = (1, 8) from rfl) rfl (by omega) rfl hrr) ?_
        generalize hm53 : w1 m1 274 i 0 = mm52
        refine rw_of (fun rr hrr => q_iinc rfl rfl (q_goto (t := 24) rfl hrr)) ?_
        have hA54 : Fr (fun a_ => a_ = 278 ∨ (271 ≤ a_ ∧ a_ < 276)) m mm52 ∧ (∀ z, z < n → ∀ w, w < n → mm52 271 (8 * z + w) = (kr n (fun z w => m 263 (64 * s + 8 * z + w)) (fun z => m 264 (8 * s + z))) z w) ∧ (∀ z, z < 9 → mm52 278 z = ask (fun z => m 267 (f + z)) n z) ∧ ∀ z, z < (i + 1) → mm52 274 z = (fun z => if z + 1 = n then (1 : F) else 0) z := by
          refine ⟨fr_w hm53 hF1 (by omega), fun z hz w hw => ?_, fun z hz => ?_, fun z hz => ?_⟩
          · rw [← hm53, w1_a (by omega)]
            exact hK1 z hz w hw
          · rw [← hm53, w1_a (by omega)]
            exact hA1 z hz
          · rw [← hm53]
            by_cases q : z = i
            · rw [q, w1_at]
              first
                | exact (if_pos (by omega)).symm
                | exact (if_neg (by omega)).symm
            · rw [w1_ne (fun w => q w.2)]
              exact hE1 z (by omega)
        exact rw_cast (ih24 (by omega) mm52 hA54) (lcons rfl (lcons rfl (lcons rfl (lcons rfl (lcons rfl (lcons (lvI (by omega)) (lcons rfl (lcons rfl rfl)))))))) rfl
      · skip
        refine rw_of (fun rr hrr => q_iconst (q_goto (t := 51) rfl hrr)) ?_
        refine rw_blk lk_X10_places_51 ?_
        refine rw_of (fun rr hrr => q_iast (j := i) (xx := 1) (show SH 274 = (1, 8) from rfl) rfl (by omega) rfl hrr) ?_
        generalize hm56 : w1 m1 274 i 1 = mm55
        refine rw_of (fun rr hrr => q_iinc rfl rfl (q_goto (t := 24) rfl hrr)) ?_
        have hA57 : Fr (fun a_ => a_ = 278 ∨ (271 ≤ a_ ∧ a_ < 276)) m mm55 ∧ (∀ z, z < n → ∀ w, w < n → mm55 271 (8 * z + w) = (kr n (fun z w => m 263 (64 * s + 8 * z + w)) (fun z => m 264 (8 * s + z))) z w) ∧ (∀ z, z < 9 → mm55 278 z = ask (fun z => m 267 (f + z)) n z) ∧ ∀ z, z < (i + 1) → mm55 274 z = (fun z => if z + 1 = n then (1 : F) else 0) z := by
          refine ⟨fr_w hm56 hF1 (by omega), fun z hz w hw => ?_, fun z hz => ?_, fun z hz => ?_⟩
          · rw [← hm56, w1_a (by omega)]
            exact hK1 z hz w hw
          · rw [← hm56, w1_a (by omega)]
            exact hA1 z hz
          · rw [← hm56]
            by_cases q : z = i
            · rw [q, w1_at]
              first
                | exact (if_pos (by omega)).symm
                | exact (if_neg (by omega)).symm
            · rw [w1_ne (fun w => q w.2)]
              exact hE1 z (by omega)
        exact rw_cast (ih24 (by omega) mm55 hA57) (lcons rfl (lcons rfl (lcons rfl (lcons rfl (lcons rfl (lcons (lvI (by omega)) (lcons rfl (lcons rfl rfl)))))))) rfl
  have hA58 : Fr (fun a_ => a_ = 278 ∨ (271 ≤ a_ ∧ a_ < 276)) m mm4 ∧ (∀ z, z < n → ∀ w, w < n → mm4 271 (8 * z + w) = (kr n (fun z w => m 263 (64 * s + 8 * z + w)) (fun z => m 264 (8 * s + z))) z w) ∧ (∀ z, z < 9 → mm4 278 z = ask (fun z => m 267 (f + z)) n z) ∧ ∀ z, z < 0 → mm4 274 z = (fun z => if z + 1 = n then (1 : F) else 0) z := by
    refine ⟨Fr_trans (Fr_mono hF3 (fun a ha => by omega)) (Fr_mono hF6 (fun a ha => by omega)), fun z hz w hw => ?_, fun z hz => ?_, fun z hz => absurd hz (Nat.not_lt_zero z)⟩
    · have h9 := hv6 z hz w hw
      rw [hF3 263 (by omega), hF3 264 (by omega)] at h9
      exact h9
    · rw [hF6 278 (by omega)]
      exact hv3 z hz
  exact rw_cast (hL24 0 (by omega) mm4 hA58) (lcons rfl (lcons rfl (lcons rfl (lcons rfl (lcons rfl (lcons (lvI (by omega)) (lcons rfl (lcons rfl rfl)))))))) rfl
theorem c_X10_places1 {d : Nat} {S : MC} {fz : Bool} {m : M1} {p : M2} (hd : 4 ≤ d) (s n f : Nat) (hP : PI p) (hm : m 262 s = nF n) (hn0 : 1 ≤ n) (hn : n ≤ 8) (hs12 : s ≤ 12) (hf : f + n ≤ 16) (hr : rk n (kr n (fun z w => m 263 (64 * s + 8 * w + z)) (fun z => m 265 (8 * s + z))) = n) : Ct d k_X10_places S fz [.ref (261), .int (iI (((s : Nat) : Int))), .int (iI (1)), .int (iI (((f : Nat) : Int)))] m p (fun v m' p' => ∃ x, v = none ∧ p = p' ∧ Fr (fun a_ => a_ = 278 ∨ (271 ≤ a_ ∧ a_ < 276)) m m' ∧ (∀ i, i < n → dot n ((kr n (fun z w => m 263 (64 * s + 8 * w + z)) (fun z => m 265 (8 * s + z))) i) x = if i + 1 = n then 1 else 0) ∧ ∀ j, j < n → m' 275 j = av n (fun z w => m 263 (64 * s + 8 * w + z)) (fun z => m 267 (f + z)) x n j) := by
  obtain ⟨d, rfl⟩ : ∃ e, d = e + 1 := ⟨d - 1, by omega⟩
  refine ct_go (lv := [some (.ref (261)), some (.int (iI (((s : Nat) : Int)))), some (.int (iI (1))), some (.int (iI (((f : Nat) : Int)))), none, none, none, none]) (Nat.le_of_ble_eq_true rfl) (okar_cons rfl (okar_cons rfl (okar_cons rfl (okar_cons rfl okar_nil)))) rfl (fun Qr hQ => ?_)
  refine rw_blk lk_X10_places_0 ?_
  refine rw_of (fun rr hrr => q_aload_n rfl (q_getR (show SH 261 = (18, 0) from rfl) rfl (pt_261_1 hP) (q_iload_n rfl (q_iald (j := s) (show SH 262 = (1, 13) from rfl) rfl (by omega) (ki rfl hm (by omega)) (q_istore (Nat.le_of_ble_eq_true rfl) rfl (q_aload_n rfl (q_iload_n rfl (q_iload rfl hrr)))))))) ?_
  obtain ⟨_, mm1, pp2, hV3, rfl, rfl, hF3, hv3⟩ := c_X10_asks (S := S) (fz := fz) (m := m) (p := p) (d := d) (by omega) (f) (n) hP (by omega) (by omega)
  refine rw_of (fun rr hrr => q_invV hV3 (show SH 261 = (18, 0) from rfl) rfl rfl (okar_cons rfl (okar_cons rfl okar_nil)) (Nat.le_of_ble_eq_true rfl) (q_aload_n rfl (q_iload_n rfl (q_iload_n rfl hrr)))) ?_
  obtain ⟨_, mm4, pp5, hV6, rfl, rfl, hF6, hv6⟩ := c_X10_powers1 (S := S) (fz := fz) (m := mm1) (p := p) (d := d) (by omega) (s) (n) hP ((congrFun (hF3 262 (by show ¬ (262 = 278); omega)) s).trans hm) (by omega) (by omega) (by omega)
  refine rw_of (fun rr hrr => q_invV hV6 (show SH 261 = (18, 0) from rfl) rfl rfl (okar_cons rfl (okar_cons rfl okar_nil)) (Nat.le_of_ble_eq_true rfl) (q_iconst (q_istore (Nat.le_of_ble_eq_true rfl) rfl hrr))) ?_
  have hL24 : ∀ i, i ≤ n → ∀ (m1 : M1), (Fr (fun a_ => a_ = 278 ∨ (271 ≤ a_ ∧ a_ < 276)) m m1 ∧ (∀ z, z < n → ∀ w, w < n → m1 271 (8 * z + w) = (kr n (fun z w => m 263 (64 * s + 8 * w + z)) (fun z => m 265 (8 * s + z))) z w) ∧ (∀ z, z < 9 → m1 278 z = ask (fun z => m 267 (f + z)) n z) ∧ ∀ z, z < i → m1 274 z = (fun z => if z + 1 = n then (1 : F) else 0) z) → Rw (Ev d) k_X10_places (24, [], [some (.ref (261)), some (.int (iI (((s : Nat) : Int)))), some (.int (iI (1))), some (.int (iI (((f : Nat) : Int)))), some (.int (iI (((n : Nat) : Int)))), some (.int (iI (((i : Nat) : Int)))), none, none], [], hpM S fz (m1, p), 0, 0) Qr := by
    refine loop_any (fun i hi24 ih24 => ?_)
    intro m1
    intro hI24
    obtain ⟨hF1, hK1, hA1, hE1⟩ := hI24
    refine rw_blk lk_X10_places_24 ?_
    refine rw_of (fun rr hrr => q_iload rfl (q_iload rfl hrr)) ?_
    refine rw_icmp_ge ⟨by omega, by omega⟩ ⟨by omega, by omega⟩ (t := 58) rfl (fun hc7 => ?_) (fun hc7 => ?_)
    · skip
      refine rw_blk lk_X10_places_58 ?_
      refine rw_of (fun rr hrr => q_iconst (q_istore (Nat.le_of_ble_eq_true rfl) rfl hrr)) ?_
      have hL61 : ∀ j, j ≤ n → ∀ (m2 : M1) (x61_6 : Option Value) (x61_7 : Option Value), (Fr (fun a_ => a_ = 278 ∨ (271 ≤ a_ ∧ a_ < 276)) m m2 ∧ (∀ z, z < 9 → m2 278 z = ask (fun z => m 267 (f + z)) n z) ∧ SolI n (kr n (fun z w => m 263 (64 * s + 8 * w + z)) (fun z => m 265 (8 * s + z))) (fun z => if z + 1 = n then (1 : F) else 0) j (fun z w => m2 271 (8 * z + w)) (m2 274)) → Rw (Ev d) k_X10_places (61, [], [some (.ref (261)), some (.int (iI (((s : Nat) : Int)))), some (.int (iI (1))), some (.int (iI (((f : Nat) : Int)))), some (.int (iI (((n : Nat) : Int)))), some (.int (iI (((j : Nat) : Int)))), x61_6, x61_7], [], hpM S fz (m2, p), 0, 0) Qr := by
        refine loop_any (fun j hi61 ih61 => ?_)
        intro m2 x61_6 x61_7
        intro hI61
        obtain ⟨hF2, hA2, hS⟩ := hI61
        refine rw_blk lk_X10_places_61 ?_
        refine rw_of (fun rr hrr => q_iload rfl (q_iload rfl hrr)) ?_
        refine rw_icmp_ge ⟨by omega, by omega⟩ ⟨by omega, by omega⟩ (t := 150) rfl (fun hc8 => ?_) (fun hc8 => ?_)
        · skip
          refine rw_blk lk_X10_places_150 ?_
          refine rw_of (fun rr hrr => q_iconst (q_istore (Nat.le_of_ble_eq_true rfl) rfl hrr)) ?_
          have hL153 : ∀ i, i ≤ n → ∀ (m3 : M1), (Fr (fun a_ => a_ = 272 ∨ a_ = 274 ∨ a_ = 275) m2 m3 ∧ (∀ z, m3 274 z = if z < i then (fun z => m2 274 z * iv (m2 271 (8 * z + z))) z else m2 274 z) ∧ (∀ z, z < i → m3 272 z = (fun z => m2 274 z * iv (m2 271 (8 * z + z))) z) ∧ ∀ z, z < i → m3 275 z = (fun z => m2 274 z * iv (m2 271 (8 * z + z))) z * m2 278 0) → Rw (Ev d) k_X10_places (153, [], [some (.ref (261)), some (.int (iI (((s : Nat) : Int)))), some (.int (iI (1))), some (.int (iI (((f : Nat) : Int)))), some (.int (iI (((n : Nat) : Int)))), some (.int (iI (((i : Nat) : Int)))), x61_6, x61_7], [], hpM S fz (m3, p), 0, 0) Qr := by
            refine loop_any (fun i hi153 ih153 => ?_)
            intro m3
            intro hI153
            obtain ⟨hF3, h274, h272, h275⟩ := hI153
            refine rw_blk lk_X10_places_153 ?_
            refine rw_of (fun rr hrr => q_iload rfl (q_iload rfl hrr)) ?_
            refine rw_icmp_ge ⟨by omega, by omega⟩ ⟨by omega, by omega⟩ (t := 233) rfl (fun hc9 => ?_) (fun hc9 => ?_)
            · skip
              refine rw_blk lk_X10_places_233 ?_
              refine rw_of (fun rr hrr => q_iconst (q_istore (Nat.le_of_ble_eq_true rfl) rfl hrr)) ?_
              have hL236 : ∀ k, k ≤ n → ∀ (m4 : M1) (x236_6 : Option Value), (Fr (fun a_ => 271 ≤ a_ ∧ a_ < 276) m2 m4 ∧ (∀ z, z < n → m4 272 z = vxp n (fun z w => m 263 (64 * s + 8 * w + z)) (fun z => m2 274 z * iv (m2 271 (8 * z + z))) k z) ∧ ∀ z, z < n → m4 275 z = sm (k + 1) (fun l => m2 278 l * vxp n (fun z w => m 263 (64 * s + 8 * w + z)) (fun z => m2 274 z * iv (m2 271 (8 * z + z))) l z)) → Rw (Ev d) k_X10_places (236, [], [some (.ref (261)), some (.int (iI (((s : Nat) : Int)))), some (.int (iI (1))), some (.int (iI (((f : Nat) : Int)))), some (.int (iI (((n : Nat) : Int)))), some (.int (iI (((k + 1 : Nat) : Int)))), x236_6, x61_7], [], hpM S fz (m4, p), 0, 0) Qr := by
                refine loop_any (fun k hi236 ih236 => ?_)
                intro m4 x236_6
                intro hI236
                obtain ⟨hF4, hV, hW⟩ := hI236
                refine rw_blk lk_X10_places_236 ?_
                refine rw_of (fun rr hrr => q_iload rfl (q_iload rfl hrr)) ?_
                refine rw_icmp_gt ⟨by omega, by omega⟩ ⟨by omega, by omega⟩ (t := 315) rfl (fun hc10 => ?_) (fun hc10 => ?_)
                · skip
                  refine rw_blk lk_X10_places_315 ?_
                  refine rw_ret hQ (q_return) ?_
                  
                  have e9 : n = k := (by omega)
                  have e8 : n = j := (by omega)
                  subst e8
                  refine ⟨(fun z => m2 274 z * iv (m2 271 (8 * z + z))), rfl, rfl, Fr_trans hF2 (Fr_mono hF4 (fun a ha => by omega)), fun i hi => SolI_end hS i hi, fun z hz => ?_⟩
                  rw [hW z hz, ← e9, av_ask]
                  exact sm_congr (fun l hl => by rw [hA2 l (by omega)])
                  
                · skip
                  refine rw_of (fun rr hrr => q_aload_n rfl (q_iload_n rfl (q_iload_n rfl hrr))) ?_
                  refine rw_if_ne ⟨by omega, by omega⟩ (t := 253) rfl (fun hc11 => ?_) (fun hc11 => ?_)
                  · skip
                    refine rw_blk lk_X10_places_253 ?_
                    refine rw_of (fun rr hrr => q_iconst hrr) ?_
                    refine rw_blk lk_X10_places_254 ?_
                    obtain ⟨_, mm12, pp13, hV14, rfl, rfl, hF14, hv14⟩ := c_X10_goes0 (S := S) (fz := fz) (m := m4) (p := p) (d := d) (by omega) (s) (n) hP ((congrFun ((hF4 262 (by show ¬ (271 ≤ 262 ∧ 262 < 276); omega)).trans (hF2 262 (by show ¬ (262 = 278 ∨ (271 ≤ 262 ∧ 262 < 276)); omega))) s).trans hm) (by omega) (by omega) (by omega)
                    refine rw_of (fun rr hrr => q_invV hV14 (show SH 261 = (18, 0) from rfl) rfl rfl (okar_cons rfl (okar_cons rfl okar_nil)) (Nat.le_of_ble_eq_true rfl) (q_iconst (q_istore (Nat.le_of_ble_eq_true rfl) rfl hrr))) ?_
                    have hL260 : ∀ i, i ≤ n → ∀ (m5 : M1), (Fr (fun a_ => a_ = 275) mm12 m5 ∧ ∀ z, m5 275 z = if z < i then mm12 275 z + mm12 272 z * mm12 278 (k + 1) else mm12 275 z) → Rw (Ev d) k_X10_places (260, [], [some (.ref (261)), some (.int (iI (((s : Nat) : Int)))), some (.int (iI (1))), some (.int (iI (((f : Nat) : Int)))), some (.int (iI (((n : Nat) : Int)))), some (.int (iI (((k + 1 : Nat) : Int)))), some (.int (iI (((i : Nat) : Int)))), x61_7], [], hpM S fz (m5, p), 0, 0) Qr := by
                      refine loop_any (fun i hi260 ih260 => ?_)
                      intro m5
                      intro hI260
                      obtain ⟨hF5, h5⟩ := hI260
                      refine rw_blk lk_X10_places_260 ?_
                      refine rw_of (fun rr hrr => q_iload rfl (q_iload rfl hrr)) ?_
                      refine rw_icmp_ge ⟨by omega, by omega⟩ ⟨by omega, by omega⟩ (t := 309) rfl (fun hc15 => ?_) (fun hc15 => ?_)
                      · skip
                        refine rw_blk lk_X10_places_309 ?_
                        refine rw_of (fun rr hrr => q_iinc rfl rfl (q_goto (t := 236) rfl hrr)) ?_
                        have hA16 : Fr (fun a_ => 271 ≤ a_ ∧ a_ < 276) m2 m5 ∧ (∀ z, z < n → m5 272 z = vxp n (fun z w => m 263 (64 * s + 8 * w + z)) (fun z => m2 274 z * iv (m2 271 (8 * z + z))) (k + 1) z) ∧ ∀ z, z < n → m5 275 z = sm ((k + 1) + 1) (fun l => m2 278 l * vxp n (fun z w => m 263 (64 * s + 8 * w + z)) (fun z => m2 274 z * iv (m2 271 (8 * z + z))) l z) := by
                          have eV : ∀ z, z < n → mm12 272 z = vxp n (fun z w => m 263 (64 * s + 8 * w + z)) (fun z => m2 274 z * iv (m2 271 (8 * z + z))) (k + 1) z := fun z hz => by
                            rw [hv14 z hz, hF4 263 (by omega), hF2 263 (by omega), vxp_s]
                            exact (dot_comm _ _ _).trans (dot_congr (fun c hc => hV c hc) (fun _ _ => rfl))
                          refine ⟨Fr_trans hF4 (Fr_trans (Fr_mono hF14 (fun a ha => by omega)) (Fr_mono hF5 (fun a ha => by omega))), fun z hz => ?_, fun z hz => ?_⟩
                          · rw [hF5 272 (by omega)]
                            exact eV z hz
                          · rw [h5, if_pos (by omega), hF14 275 (by omega), hW z hz, eV z hz, hF14 278 (by omega), hF4 278 (by omega)]
                            show _ = sm (k + 1) _ + _
                            grind
                        exact rw_cast (ih236 (by omega) m5 (some (.int (iI (((i : Nat) : Int))))) hA16) (lcons rfl (lcons rfl (lcons rfl (lcons rfl (lcons rfl (lcons (lvI (by omega)) (lcons rfl (lcons rfl rfl)))))))) rfl
                      · skip
                        refine rw_of (fun rr hrr => q_aload_n rfl (q_getR (show SH 261 = (18, 0) from rfl) rfl (pt_261_16 hP) (q_iload rfl (q_aload_n rfl (q_getR (show SH 261 = (18, 0) from rfl) rfl (pt_261_16 hP) (q_iload rfl (q_iald (j := i) (show SH 275 = (1, 8) from rfl) rfl (by omega) rfl (q_aload_n rfl (q_getR (show SH 261 = (18, 0) from rfl) rfl (pt_261_13 hP) (q_iload rfl (q_iald (j := i) (show SH 272 = (1, 8) from rfl) rfl (by omega) rfl (q_aload_n rfl (q_getR (show SH 261 = (18, 0) from rfl) rfl (pt_261_19 hP) (q_iload rfl (q_iald (j := k + 1) (show SH 278 = (1, 9) from rfl) (by omega) (by omega) rfl hrr))))))))))))))) ?_
                        obtain ⟨_, mm17, pp18, hV19, rfl, rfl, rfl⟩ := c_X10_times (S := S) (fz := fz) (m := m5) (p := p) (d := d) (by omega) (m5 272 i) (m5 278 (k + 1))
                        refine rw_of (fun rr hrr => q_invS hV19 rfl rfl (okar_cons rfl (okar_cons rfl okar_nil)) (Nat.le_of_ble_eq_true rfl) (q_iadd (q_sipush rfl (q_irem (by have := vF_ge (m5 275 i); have := vF_lt (m5 275 i); have := vF_ge ((m5 272 i) * (m5 278 (k + 1))); have := vF_lt ((m5 272 i) * (m5 278 (k + 1))); exact ⟨by omega, by omega⟩) ⟨by omega, by omega⟩ (by omega) (remF (by have := vF_ge (m5 275 i); have := vF_lt (m5 275 i); have := vF_ge ((m5 272 i) * (m5 278 (k + 1))); have := vF_lt ((m5 272 i) * (m5 278 (k + 1))); omega) (show toF ((vF (m5 275 i) + vF ((m5 272 i) * (m5 278 (k + 1))))) = ((m5 275 i) + ((m5 272 i) * (m5 278 (k + 1)))) by simp only [toF_add, toF_mul, toF_sub, toF_neg, toF_vF, toF_0, toF_1, toF_M, F_add0, F_0sub])) (q_iast (j := i) (xx := ((m5 275 i) + ((m5 272 i) * (m5 278 (k + 1))))) (show SH 275 = (1, 8) from rfl) rfl (by omega) rfl hrr))))) ?_
                        generalize hm21 : w1 m5 275 i (((m5 275 i) + ((m5 272 i) * (m5 278 (k + 1))))) = mm20
                        refine rw_of (fun rr hrr => q_iinc rfl rfl (q_goto (t := 260) rfl hrr)) ?_
                        exact rw_cast (ih260 (by omega) mm20 (by exact ⟨fr_w hm21 hF5 rfl, fill_w (f := fun z => mm12 275 z + mm12 272 z * mm12 278 (k + 1)) hm21 h5 (by rw [h5, if_neg (by omega), hF5 272 (by omega), hF5 278 (by omega)])⟩)) (lcons rfl (lcons rfl (lcons rfl (lcons rfl (lcons rfl (lcons rfl (lcons (lvI (by omega)) (lcons rfl rfl)))))))) rfl
                    exact rw_cast (hL260 0 (by omega) mm12 (by exact ⟨Fr_rfl, fun z => (if_neg (Nat.not_lt_zero z)).symm⟩)) (lcons rfl (lcons rfl (lcons rfl (lcons rfl (lcons rfl (lcons rfl (lcons (lvI (by omega)) (lcons rfl rfl)))))))) rfl
                  · exfalso; omega
              have hA22 : Fr (fun a_ => 271 ≤ a_ ∧ a_ < 276) m2 m3 ∧ (∀ z, z < n → m3 272 z = vxp n (fun z w => m 263 (64 * s + 8 * w + z)) (fun z => m2 274 z * iv (m2 271 (8 * z + z))) 0 z) ∧ ∀ z, z < n → m3 275 z = sm (0 + 1) (fun l => m2 278 l * vxp n (fun z w => m 263 (64 * s + 8 * w + z)) (fun z => m2 274 z * iv (m2 271 (8 * z + z))) l z) := by
                refine ⟨Fr_mono hF3 (fun a ha => by omega), fun z hz => ?_, fun z hz => ?_⟩
                · exact h272 z (by omega)
                · rw [h275 z (by omega)]
                  show _ = 0 + m2 278 0 * (fun z => m2 274 z * iv (m2 271 (8 * z + z))) z
                  grind
              exact rw_cast (hL236 0 (by omega) m3 x61_6 hA22) (lcons rfl (lcons rfl (lcons rfl (lcons rfl (lcons rfl (lcons (lvI (by omega)) (lcons rfl (lcons rfl rfl)))))))) rfl
            · skip
              refine rw_of (fun rr hrr => q_aload_n rfl (q_getR (show SH 261 = (18, 0) from rfl) rfl (pt_261_15 hP) (q_iload rfl (q_aload_n rfl (q_getR (show SH 261 = (18, 0) from rfl) rfl (pt_261_15 hP) (q_iload rfl (q_iald (j := i) (show SH 274 = (1, 8) from rfl) rfl (by omega) rfl (q_aload_n rfl (q_getR (show SH 261 = (18, 0) from rfl) rfl (pt_261_12 hP) (q_bipush rfl (q_iload rfl (q_imul (q_iald (j := 9 * i) (show SH 271 = (1, 64) from rfl) (by omega) (by omega) rfl hrr))))))))))))) ?_
              obtain ⟨_, mm23, pp24, hV25, rfl, rfl, rfl⟩ := c_X10_inverse (S := S) (fz := fz) (m := m3) (p := p) (d := d) (by omega) (m3 271 (9 * i))
              refine rw_of (fun rr hrr => q_invS hV25 rfl rfl (okar_cons rfl okar_nil) (Nat.le_of_ble_eq_true rfl) hrr) ?_
              obtain ⟨_, mm26, pp27, hV28, rfl, rfl, rfl⟩ := c_X10_times (S := S) (fz := fz) (m := m3) (p := p) (d := d) (by omega) (m3 274 i) (iv (m3 271 (9 * i)))
              refine rw_of (fun rr hrr => q_invS hV28 rfl rfl (okar_cons rfl (okar_cons rfl okar_nil)) (Nat.le_of_ble_eq_true rfl) (q_iast (j := i) (xx := (m3 274 i) * (iv (m3 271 (9 * i)))) (show SH 274 = (1, 8) from rfl) rfl (by omega) rfl hrr)) ?_
              generalize hm30 : w1 m3 274 i ((m3 274 i) * (iv (m3 271 (9 * i)))) = mm29
              refine rw_of (fun rr hrr => q_aload_n rfl (q_getR (show SH 261 = (18, 0) from rfl) rfl (pt_261_13 hP) (q_iload rfl (q_aload_n rfl (q_getR (show SH 261 = (18, 0) from rfl) rfl (pt_261_15 hP) (q_iload rfl (q_iald (j := i) (show SH 274 = (1, 8) from rfl) rfl (by omega) rfl (q_iast (j := i) (xx := mm29 274 i) (show SH 272 = (1, 8) from rfl) rfl (by omega) rfl hrr)))))))) ?_
              generalize hm32 : w1 mm29 272 i (mm29 274 i) = mm31
              refine rw_of (fun rr hrr => q_aload_n rfl (q_getR (show SH 261 = (18, 0) from rfl) rfl (pt_261_16 hP) (q_iload rfl (q_aload_n rfl (q_getR (show SH 261 = (18, 0) from rfl) rfl (pt_261_15 hP) (q_iload rfl (q_iald (j := i) (show SH 274 = (1, 8) from rfl) rfl (by omega) rfl (q_aload_n rfl (q_getR (show SH 261 = (18, 0) from rfl) rfl (pt_261_19 hP) (q_iconst (q_iald (j := 0) (show SH 278 = (1, 9) from rfl) rfl (by omega) rfl hrr))))))))))) ?_
              obtain ⟨_, mm33, pp34, hV35, rfl, rfl, rfl⟩ := c_X10_times (S := S) (fz := fz) (m := mm31) (p := p) (d := d) (by omega) (mm31 274 i) (mm31 278 0)
              refine rw_of (fun rr hrr => q_invS hV35 rfl rfl (okar_cons rfl (okar_cons rfl okar_nil)) (Nat.le_of_ble_eq_true rfl) (q_iast (j := i) (xx := (mm31 274 i) * (mm31 278 0)) (show SH 275 = (1, 8) from rfl) rfl (by omega) rfl hrr)) ?_
              generalize hm37 : w1 mm31 275 i ((mm31 274 i) * (mm31 278 0)) = mm36
              refine rw_of (fun rr hrr => q_iinc rfl rfl (q_goto (t := 153) rfl hrr)) ?_
              have hA38 : Fr (fun a_ => a_ = 272 ∨ a_ = 274 ∨ a_ = 275) m2 mm36 ∧ (∀ z, mm36 274 z = if z < (i + 1) then (fun z => m2 274 z * iv (m2 271 (8 * z + z))) z else m2 274 z) ∧ (∀ z, z < (i + 1) → mm36 272 z = (fun z => m2 274 z * iv (m2 271 (8 * z + z))) z) ∧ ∀ z, z < (i + 1) → mm36 275 z = (fun z => m2 274 z * iv (m2 271 (8 * z + z))) z * m2 278 0 := by
                have e1 : m3 274 i * iv (m3 271 (9 * i)) = (fun z => m2 274 z * iv (m2 271 (8 * z + z))) i := by
                  rw [h274, if_neg (by omega), hF3 271 (by omega), show 9 * i = 8 * i + i by omega]
                have e2 : ∀ z, z ≠ i → w1 m3 274 i (m3 274 i * iv (m3 271 (9 * i))) 274 z = m3 274 z := fun z q => w1_ne (fun w => q w.2)
                refine ⟨fr_w hm37 (fr_w hm32 (fr_w hm30 hF3 (by omega)) (by omega)) (by omega), fun z => ?_, fun z hz => ?_, fun z hz => ?_⟩
                · rw [← hm37, w1_a (by omega), ← hm32, w1_a (by omega)]
                  exact fill_w (f := (fun z => m2 274 z * iv (m2 271 (8 * z + z)))) hm30 h274 e1 z
                · rw [← hm37, w1_a (by omega), ← hm32]
                  by_cases q : z = i
                  · rw [q, w1_at, ← hm30, w1_at, e1]
                  · rw [w1_ne (fun w => q w.2), ← hm30, w1_a (by omega)]
                    exact h272 z (by omega)
                · rw [← hm37]
                  by_cases q : z = i
                  · rw [q, w1_at, ← hm32, w1_a (by omega), ← hm30, w1_at, e1, w1_a (by omega), w1_a (by omega), hF3 278 (by omega)]
                  · rw [w1_ne (fun w => q w.2), ← hm32, w1_a (by omega), ← hm30, w1_a (by omega)]
                    exact h275 z (by omega)
              exact rw_cast (ih153 (by omega) mm36 hA38) (lcons rfl (lcons rfl (lcons rfl (lcons rfl (lcons rfl (lcons (lvI (by omega)) (lcons rfl (lcons rfl rfl)))))))) rfl
          exact rw_cast (hL153 0 (by omega) m2 (by exact ⟨Fr_rfl, fun z => (if_neg (Nat.not_lt_zero z)).symm, fun z hz => absurd hz (Nat.not_lt_zero z), fun z hz => absurd hz (Nat.not_lt_zero z)⟩)) (lcons rfl (lcons rfl (lcons rfl (lcons rfl (lcons rfl (lcons (lvI (by omega)) (lcons rfl (lcons rfl rfl)))))))) rfl
        · skip
          obtain ⟨k0, hk0, hk0n⟩ := SolI_piv hr hS (by omega)
          refine rw_of (fun rr hrr => q_iload rfl (q_istore (Nat.le_of_ble_eq_true rfl) rfl hrr)) ?_
          have hL72 : ∀ t, t ≤ k0 - j → (True) → Rw (Ev d) k_X10_places (72, [], [some (.ref (261)), some (.int (iI (((s : Nat) : Int)))), some (.int (iI (1))), some (.int (iI (((f : Nat) : Int)))), some (.int (iI (((n : Nat) : Int)))), some (.int (iI (((j : Nat) : Int)))), some (.int (iI (((j + t : Nat) : Int)))), x61_7], [], hpM S fz (m2, p), 0, 0) Qr := by
            refine loop_any (fun t hi72 ih72 => ?_)
            intro _hT
            have h11 := hk0.1
            refine rw_blk lk_X10_places_72 ?_
            refine rw_of (fun rr hrr => q_aload_n rfl (q_getR (show SH 261 = (18, 0) from rfl) rfl (pt_261_12 hP) (q_bipush rfl (q_iload rfl (q_imul (q_iload rfl (q_iadd (q_iald (j := 8 * (j + t) + j) (show SH 271 = (1, 64) from rfl) (by omega) (by omega) rfl hrr)))))))) ?_
            refine rw_if_ne (rg_vF _) (t := 94) rfl (fun hc39 => ?_) (fun hc39 => ?_)
            · skip
              have h8 : m2 271 (8 * (j + t) + j) ≠ 0 := fun z => absurd (vF_eq0.mpr z) hc39
              have h9 : j + t = k0 := by
                by_cases q : j + t < k0
                · exact absurd (hk0.2.2.2 (j + t) (by omega) q) h8
                · omega
              have h10 := hk0.2.1
              refine rw_blk lk_X10_places_94 ?_
              refine rw_of (fun rr hrr => q_aload_n rfl (q_iload rfl (q_iload rfl (q_iload rfl hrr)))) ?_
              obtain ⟨_, mm40, pp41, hV42, rfl, rfl, hF42, hv42⟩ := c_X10_swaps (S := S) (fz := fz) (m := m2) (p := p) (d := d) (by omega) (j) (j + t) (n) hP (by omega) (by omega) (by omega)
              refine rw_of (fun rr hrr => q_invV hV42 (show SH 261 = (18, 0) from rfl) rfl rfl (okar_cons rfl (okar_cons rfl (okar_cons rfl okar_nil))) (Nat.le_of_ble_eq_true rfl) (q_aload_n rfl (q_getR (show SH 261 = (18, 0) from rfl) rfl (pt_261_15 hP) (q_iload rfl (q_iald (j := j) (show SH 274 = (1, 8) from rfl) rfl (by omega) rfl (q_istore (Nat.le_of_ble_eq_true rfl) rfl (q_aload_n rfl (q_getR (show SH 261 = (18, 0) from rfl) rfl (pt_261_15 hP) (q_iload rfl (q_aload_n rfl (q_getR (show SH 261 = (18, 0) from rfl) rfl (pt_261_15 hP) (q_iload rfl (q_iald (j := j + t) (show SH 274 = (1, 8) from rfl) (by omega) (by omega) rfl (q_iast (j := j) (xx := mm40 274 (j + t)) (show SH 274 = (1, 8) from rfl) rfl (by omega) rfl hrr)))))))))))))) ?_
              generalize hm44 : w1 mm40 274 j (mm40 274 (j + t)) = mm43
              refine rw_of (fun rr hrr => q_aload_n rfl (q_getR (show SH 261 = (18, 0) from rfl) rfl (pt_261_15 hP) (q_iload rfl (q_iload rfl (q_iast (j := j + t) (xx := mm40 274 j) (show SH 274 = (1, 8) from rfl) (by omega) (by omega) rfl hrr))))) ?_
              generalize hm46 : w1 mm43 274 (j + t) (mm40 274 j) = mm45
              refine rw_of (fun rr hrr => q_aload_n rfl (q_iload rfl (q_iload rfl hrr))) ?_
              obtain ⟨_, mm47, pp48, hV49, rfl, rfl, hF49, hv49, hf49⟩ := c_X10_solves (S := S) (fz := fz) (m := mm45) (p := p) (d := d) (by omega) (j) (n) hP (by omega) (by omega)
              refine rw_of (fun rr hrr => q_invV hV49 (show SH 261 = (18, 0) from rfl) rfl rfl (okar_cons rfl (okar_cons rfl okar_nil)) (Nat.le_of_ble_eq_true rfl) (q_iinc rfl rfl (q_goto (t := 61) rfl hrr))) ?_
              have hA50 : Fr (fun a_ => a_ = 278 ∨ (271 ≤ a_ ∧ a_ < 276)) m mm47 ∧ (∀ z, z < 9 → mm47 278 z = ask (fun z => m 267 (f + z)) n z) ∧ SolI n (kr n (fun z w => m 263 (64 * s + 8 * w + z)) (fun z => m 265 (8 * s + z))) (fun z => if z + 1 = n then (1 : F) else 0) (j + 1) (fun z w => mm47 271 (8 * z + w)) (mm47 274) := by
                refine ⟨Fr_trans (fr_w hm46 (fr_w hm44 (Fr_trans hF2 (Fr_mono hF42 (fun a ha => by omega))) (by omega)) (by omega)) (Fr_mono hF49 (fun a ha => by omega)), fun z hz => ?_, ?_⟩
                · rw [hF49 278 (by omega), ← hm46, w1_a (by omega), ← hm44, w1_a (by omega), hF42 278 (by omega)]
                  exact hA2 z hz
                · subst h9
                  exact SolI_mem hn hr hS (by omega) hk0 hk0n hv42 (hF42 274 (by omega)) hm44 hm46 hv49 hf49
              exact rw_cast (ih61 (by omega) mm47 (some (.int (iI (((j + t : Nat) : Int))))) (some (.int (iI (vF (mm40 274 j))))) hA50) (lcons rfl (lcons rfl (lcons rfl (lcons rfl (lcons rfl (lcons (lvI (by omega)) (lcons rfl (lcons rfl rfl)))))))) rfl
            · skip
              have h8 : m2 271 (8 * (j + t) + j) = 0 := vF_eq0.mp hc39
              have h9 : j + t ≠ k0 := fun e => hk0.2.2.1 hk0n (by rw [← e]; exact h8)
              refine rw_of (fun rr hrr => q_iinc rfl rfl (q_goto (t := 72) rfl hrr)) ?_
              exact rw_cast (ih72 (by omega) (by exact trivial)) (lcons rfl (lcons rfl (lcons rfl (lcons rfl (lcons rfl (lcons rfl (lcons (lvI (by omega)) (lcons rfl rfl)))))))) rfl
          exact rw_cast (hL72 0 (by omega) (by exact trivial)) (lcons rfl (lcons rfl (lcons rfl (lcons rfl (lcons rfl (lcons rfl (lcons (lvI (by omega)) (lcons rfl rfl)))))))) rfl
      exact rw_cast (hL61 0 (by omega) m1 none none (by exact ⟨hF1, hA1, SolI_0 hK1 (fun z hz => hE1 z (by omega))⟩)) (lcons rfl (lcons rfl (lcons rfl (lcons rfl (lcons rfl (lcons (lvI (by omega)) (lcons rfl (lcons rfl rfl)))))))) rfl
    · skip
      refine rw_of (fun rr hrr => q_aload_n rfl (q_getR (show SH 261 = (18, 0) from rfl) rfl (pt_261_15 hP) (q_iload rfl (q_iload rfl (q_iload rfl (q_iconst (q_isub hrr))))))) ?_
      refine rw_icmp_ne ⟨by omega, by omega⟩ ⟨by omega, by omega⟩ (t := 50) rfl (fun hc51 => ?_) (fun hc51 => ?_)
      · skip
        refine rw_blk lk_X10_places_50 ?_
        refine rw_of (fun rr hrr => q_iconst hrr) ?_
        refine rw_blk lk_X10_places_51 ?_
        refine rw_of (fun rr hrr => q_iast (j := i) (xx := 0) (show SH 274 = (1, 8) from rfl) rfl (by omega) rfl hrr) ?_
        generalize hm53 : w1 m1 274 i 0 = mm52
        refine rw_of (fun rr hrr => q_iinc rfl rfl (q_goto (t := 24) rfl hrr)) ?_
        have hA54 : Fr (fun a_ => a_ = 278 ∨ (271 ≤ a_ ∧ a_ < 276)) m mm52 ∧ (∀ z, z < n → ∀ w, w < n → mm52 271 (8 * z + w) = (kr n (fun z w => m 263 (64 * s + 8 * w + z)) (fun z => m 265 (8 * s + z))) z w) ∧ (∀ z, z < 9 → mm52 278 z = ask (fun z => m 267 (f + z)) n z) ∧ ∀ z, z < (i + 1) → mm52 274 z = (fun z => if z + 1 = n then (1 : F) else 0) z := by
          refine ⟨fr_w hm53 hF1 (by omega), fun z hz w hw => ?_, fun z hz => ?_, fun z hz => ?_⟩
          · rw [← hm53, w1_a (by omega)]
            exact hK1 z hz w hw
          · rw [← hm53, w1_a (by omega)]
            exact hA1 z hz
          · rw [← hm53]
            by_cases q : z = i
            · rw [q, w1_at]
              first
                | exact (if_pos (by omega)).symm
                | exact (if_neg (by omega)).symm
            · rw [w1_ne (fun w => q w.2)]
              exact hE1 z (by omega)
        exact rw_cast (ih24 (by omega) mm52 hA54) (lcons rfl (lcons rfl (lcons rfl (lcons rfl (lcons rfl (lcons (lvI (by omega)) (lcons rfl (lcons rfl rfl)))))))) rfl
      · skip
        refine rw_of (fun rr hrr => q_iconst (q_goto (t := 51) rfl hrr)) ?_
        refine rw_blk lk_X10_places_51 ?_
        refine rw_of (fun rr hrr => q_iast (j := i) (xx := 1) (show SH 274 = (1, 8) from rfl) rfl (by omega) rfl hrr) ?_
        generalize hm56 : w1 m1 274 i 1 = mm55
        refine rw_of (fun rr hrr => q_iinc rfl rfl (q_goto (t := 24) rfl hrr)) ?_
        have hA57 : Fr (fun a_ => a_ = 278 ∨ (271 ≤ a_ ∧ a_ < 276)) m mm55 ∧ (∀ z, z < n → ∀ w, w < n → mm55 271 (8 * z + w) = (kr n (fun z w => m 263 (64 * s + 8 * w + z)) (fun z => m 265 (8 * s + z))) z w) ∧ (∀ z, z < 9 → mm55 278 z = ask (fun z => m 267 (f + z)) n z) ∧ ∀ z, z < (i + 1) → mm55 274 z = (fun z => if z + 1 = n then (1 : F) else 0) z := by
          refine ⟨fr_w hm56 hF1 (by omega), fun z hz w hw => ?_, fun z hz => ?_, fun z hz => ?_⟩
          · rw [← hm56, w1_a (by omega)]
            exact hK1 z hz w hw
          · rw [← hm56, w1_a (by omega)]
            exact hA1 z hz
          · rw [← hm56]
            by_cases q : z = i
            · rw [q, w1_at]
              first
                | exact (if_pos (by omega)).symm
                | exact (if_neg (by omega)).symm
            · rw [w1_ne (fun w => q w.2)]
              exact hE1 z (by omega)
        exact rw_cast (ih24 (by omega) mm55 hA57) (lcons rfl (lcons rfl (lcons rfl (lcons rfl (lcons rfl (lcons (lvI (by omega)) (lcons rfl (lcons rfl rfl)))))))) rfl
  have hA58 : Fr (fun a_ => a_ = 278 ∨ (271 ≤ a_ ∧ a_ < 276)) m mm4 ∧ (∀ z, z < n → ∀ w, w < n → mm4 271 (8 * z + w) = (kr n (fun z w => m 263 (64 * s + 8 * w + z)) (fun z => m 265 (8 * s + z))) z w) ∧ (∀ z, z < 9 → mm4 278 z = ask (fun z => m 267 (f + z)) n z) ∧ ∀ z, z < 0 → mm4 274 z = (fun z => if z + 1 = n then (1 : F) else 0) z := by
    refine ⟨Fr_trans (Fr_mono hF3 (fun a ha => by omega)) (Fr_mono hF6 (fun a ha => by omega)), fun z hz w hw => ?_, fun z hz => ?_, fun z hz => absurd hz (Nat.not_lt_zero z)⟩
    · have h9 := hv6 z hz w hw
      rw [hF3 263 (by omega), hF3 265 (by omega)] at h9
      exact h9
    · rw [hF6 278 (by omega)]
      exact hv3 z hz
  exact rw_cast (hL24 0 (by omega) mm4 hA58) (lcons rfl (lcons rfl (lcons rfl (lcons rfl (lcons rfl (lcons (lvI (by omega)) (lcons rfl (lcons rfl rfl)))))))) rfl
