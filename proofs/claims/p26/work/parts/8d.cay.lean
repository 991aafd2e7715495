/-! THE POLYNOMIAL of a system is its determinant. -/
theorem mx_as {n : Nat} {A B C : Nat → Nat → F} (i j : Nat) : mx n (mx n A B) C i j = mx n A (mx n B C) i j := (dot_adj (n := n) (A := B) (x := A i) (y := fun k => C k j)).symm
theorem dot_dl {n i : Nat} {x : Nat → F} (hi : i < n) : dot n (fun c => if c = i then 1 else 0) x = x i := by
  rw [← dot_unit (x := x) hi]
  exact dot_congr (fun c _ => by
    by_cases q : c = i
    · rw [if_pos q, if_pos q.symm]
    · rw [if_neg q, if_neg (fun z => q z.symm)]) (fun _ _ => rfl)
theorem cay_kr {n : Nat} {A : Nat → Nat → F} {b : Nat → F} (hn : n ≤ 8) {c : Nat} (hc : c < n) : sm (n + 1) (fun t => pbl n A t * kr n A b t c) = 0 := by
  have h1 := hM_kr (n := n) (A := A) (b := b) (a := pbl n A) pbl_1 n (Nat.le_refl n) 0 c hc
  rw [← flM_hM n (Nat.le_refl n), dot_zero_l (f := flM n A n c) (fun z hz => Or.inl (fl_zero hn hc hz)), Nat.sub_self] at h1
  rw [h1]
  exact sm_congr (fun t _ => by rw [Nat.zero_add, Nat.add_zero])
/-- x times the identity, less A turned -/
def xT (A : Nat → Nat → F) (x : F) (k c : Nat) : F := (if k = c then x else 0) - A c k
theorem xT_v {n : Nat} {A : Nat → Nat → F} {x : F} {v : Nat → F} {c : Nat} (hc : c < n) : dot n v (fun k => xT A x k c) = x * v c - dot n (A c) v := by
  have e : (fun k => xT A x k c) = fun k => x * (if k = c then 1 else 0) - 1 * A c k := funext fun k => by
    unfold xT
    by_cases q : k = c
    · rw [if_pos q, if_pos q]; grind
    · rw [if_neg q, if_neg q]; grind
  rw [e, dot_comm, dot_less (f := fun k => x * (if k = c then 1 else 0)) (g := A c), dot_scale, dot_dl hc]
  grind
theorem F_can {u v w : F} (h : u ≠ 0) (e : u * v = w * u) : v = w := by
  have h1 : u * (v - w) = 0 := by grind
  rcases F_mul0 h1 with h2 | h2
  · exact absurd h2 h
  · grind
theorem chT_cyc {n : Nat} {A : Nat → Nat → F} {b : Nat → F} {x : F} (hn : n ≤ 8) (h : rk n (kr n A b) = n) : dt n (xT A x) = pe n (pbl n A) x := by
  cases n with
  | zero => show (1 : F) = 0 + pbl 0 A 0 * 1; rw [pbl_1]; grind
  | succ n =>
    have hV : rk (n + 1) (fun i => kr (n + 1) A b (n - i)) = n + 1 := rk_full.mpr (fun y hy => rk_full.mp h y (fun i hi => by
      have := hy (n - i) (by omega)
      rw [show n - (n - i) = i by omega] at this
      exact this))
    have hd := dt_ne hV
    have h1 := dt_mx (n := n + 1) (L := fun i => kr (n + 1) A b (n - i)) (M := xT A x)
    have h2 := dt_mx (n := n + 1) (L := Hx x (fun k => pbl (n + 1) A (n - k) + if k = 0 then x else 0)) (M := fun i => kr (n + 1) A b (n - i))
    have e : dt (n + 1) (mx (n + 1) (fun i => kr (n + 1) A b (n - i)) (xT A x)) = dt (n + 1) (mx (n + 1) (Hx x (fun k => pbl (n + 1) A (n - k) + if k = 0 then x else 0)) (fun i => kr (n + 1) A b (n - i))) := dt_cg (fun i hi c hc => by
      show dot (n + 1) (kr (n + 1) A b (n - i)) (fun k => xT A x k c) = dot (n + 1) (Hx x _ i) (fun k => kr (n + 1) A b (n - k) c)
      rw [xT_v hc]
      have ek : dot (n + 1) (A c) (kr (n + 1) A b (n - i)) = kr (n + 1) A b (n - i + 1) c := rfl
      rw [ek]
      by_cases q : i = 0
      · have eg : Hx x (fun k => pbl (n + 1) A (n - k) + if k = 0 then x else 0) i = fun k => pbl (n + 1) A (n - k) + x * (if k = 0 then 1 else 0) := funext fun k => by
          unfold Hx
          rw [if_pos q]
          show (pbl (n + 1) A (n - k) + if k = 0 then x else 0) = _
          by_cases q2 : k = 0
          · rw [if_pos q2, if_pos q2]; grind
          · rw [if_neg q2, if_neg q2]; grind
        rw [eg, dot_add (g := fun k => x * (if k = 0 then 1 else 0)), dot_scale, dot_dl (by omega), q]
        have hc0 := cay_kr (b := b) (A := A) hn hc
        rw [sm_s, pbl_1] at hc0
        have e3 : dot (n + 1) (fun k => pbl (n + 1) A (n - k)) (fun k => kr (n + 1) A b (n - k) c) = sm (n + 1) (fun t => pbl (n + 1) A t * kr (n + 1) A b t c) := by
          rw [← sm_rev (n := n + 1)]
          exact sm_congr (fun k _ => by rw [show n + 1 - 1 - k = n - k by omega])
        rw [e3, show n - 0 = n by omega]
        grind
      · have eg : dot (n + 1) (Hx x (fun k => pbl (n + 1) A (n - k) + if k = 0 then x else 0) i) (fun k => kr (n + 1) A b (n - k) c) = dot (n + 1) (fun k => x * (if k = i then 1 else 0) - 1 * (if k = i - 1 then 1 else 0)) (fun k => kr (n + 1) A b (n - k) c) := dot_congr (fun k hk => by
          unfold Hx
          rw [if_neg q]
          by_cases q2 : k + 1 = i
          · rw [if_pos q2, if_neg (by omega), if_pos (by omega)]; grind
          · rw [if_neg q2]
            by_cases q3 : k = i
            · rw [if_pos q3, if_pos q3, if_neg (by omega)]; grind
            · rw [if_neg q3, if_neg q3, if_neg (by omega)]; grind) (fun _ _ => rfl)
        rw [eg, dot_less (f := fun k => x * (if k = i then 1 else 0)) (g := fun k => if k = i - 1 then 1 else 0), dot_scale, dot_dl hi, dot_dl (by omega), show n - (i - 1) = n - i + 1 by omega]
        grind)
    rw [h1, h2] at e
    rw [F_can hd e, dt_Hx]
    unfold pe
    rw [sm_s (n := n + 1), pbl_1]
    have e4 : sm (n + 1) (fun k => (pbl (n + 1) A (n - k) + if k = 0 then x else 0) * pw x (n - k)) = sm (n + 1) (fun k => pbl (n + 1) A (n - k) * pw x (n - k)) + sm (n + 1) (fun k => (if k = 0 then x else 0) * pw x (n - k)) := by
      rw [← sm_add]
      exact sm_congr (fun k _ => by grind)
    rw [e4, sm_one (n := n + 1) (k := 0) (f := fun k => (if k = 0 then x else 0) * pw x (n - k)) (by omega) (fun i _ hi => by show (if i = 0 then x else 0) * _ = 0; rw [if_neg hi]; grind), if_pos rfl, show n - 0 = n by omega]
    have e5 : sm (n + 1) (fun k => pbl (n + 1) A (n - k) * pw x (n - k)) = sm (n + 1) (fun t => pbl (n + 1) A t * pw x t) :=
      (sm_congr (fun k _ => by
        show _ = pbl (n + 1) A (n + 1 - 1 - k) * pw x (n + 1 - 1 - k)
        rw [show n + 1 - 1 - k = n - k by omega])).trans (sm_rev (n := n + 1) (f := fun t => pbl (n + 1) A t * pw x t))
    rw [e5]
    show _ = _ + 1 * (pw x n * x)
    grind
/-! .. for all, on the line. -/
theorem ex_PD {d e : Nat} (S : List Bool) : ∀ (r : F → Nat → F) (w : F → VV), (∀ i, PD d (fun u => r u i)) → (∀ T, PD e (fun u => w u T)) → PD (d + e) (fun u => ex S (r u) (w u)) := by
  induction S with
  | nil => intro r w _ _; exact PD_c 0
  | cons b S ih =>
    intro r w hr hw
    cases b with
    | false => exact ih (fun u i => r u (i + 1)) (fun u T => w u (false :: T)) (fun i => hr _) (fun T => hw _)
    | true => exact PD_sub (PD_mul (hr 0) (hw _)) (ih (fun u i => r u (i + 1)) (fun u T => w u (true :: T)) (fun i => hr _) (fun T => hw _))
theorem wd_PD {M : F → Nat → Nat → F} (t : Nat) : ∀ s, (∀ i c, PD 1 (fun u => M u i c)) → ∀ T, PD t (fun u => wd (rws (M u) s t) T) := by
  induction t with
  | zero => exact fun s _ T => PD_c _
  | succ t ih =>
    intro s h T
    have := ex_PD (d := 1) (e := t) T (fun u => M u s) (fun u => wd (rws (M u) (s + 1) t)) (fun i => h s i) (ih (s + 1) h)
    rw [Nat.add_comm 1 t] at this
    exact this
theorem dt_PD {n : Nat} {M : F → Nat → Nat → F} (h : ∀ i c, PD 1 (fun u => M u i c)) : PD n (fun u => dt n (M u)) := wd_PD n 0 h _
theorem flt_PD {n s : Nat} {A : Nat → Nat → F} : PD (s + 1) (fun u => flt n (lnB A u) (flM n (lnB A u) s) s) := by
  have h1 : PD (s + 1) (fun u => sm n (fun i => flG n (lnB A u) (flM n (lnB A u) s) i i)) := PD_sm (fun i _ => PD_sm (fun l _ => by
    have := PD_mul (lnB_PD (A := A) i l) (flM_PD (n := n) (A := A) s l i)
    rw [Nat.add_comm 1 s] at this
    exact this))
  exact PD_congr (PD_scl (iv (nF (s + 1))) (PD_sub (PD_c 0) h1)) (fun u => by unfold flt; grind)
theorem pbl_PD {n k : Nat} {A : Nat → Nat → F} (hk : k ≤ n) : PD n (fun u => pbl n (lnB A u) k) := by
  unfold pbl
  by_cases q : k = n
  · simp only [if_pos q]
    exact PD_c 1
  · simp only [if_neg q]
    exact PD_mono flt_PD (by omega)
theorem pe_PD {n : Nat} {C : F → Nat → F} {x : F} (h : ∀ k, k ≤ n → PD n (fun u => C u k)) : PD n (fun u => pe n (C u) x) := PD_sm (fun k hk => PD_congr (PD_scl (pw x k) (h k (by omega))) (fun u => by grind))
theorem chT {n : Nat} {A : Nat → Nat → F} {x : F} (hn : n ≤ 8) : dt n (xT A x) = pe n (pbl n A) x := by
  have h1 : ∀ i, i < n → ∀ j, PD 7 (fun u => kr n (lnB A u) bas0 i j) := fun i hi j => PD_mono (kr_PD i j) (by omega)
  have h2 := pvt_PD h1 n (Nat.le_refl n)
  have h3 : 7 * 2 ^ n ≤ 1792 := by
    have : 2 ^ n ≤ 2 ^ 8 := Nat.pow_le_pow_right (by omega) hn
    omega
  have h5 : PD n (fun u => dt n (xT (lnB A u) x)) := dt_PD (fun i c => PD_sub (PD_c _) (lnB_PD c i))
  have h6 : PD n (fun u => pe n (pbl n (lnB A u)) x) := pe_PD (fun k hk => pbl_PD hk)
  have h4 := PD_zero (d := n) (e := 1792) (by omega) (PD_sub h5 h6) (PD_mono h2 h3) (by
    show pvt (kr n (lnB A 0) bas0) n ≠ 0
    rw [pvt_id (fun i hi j hj => kr_sh i hi j hj) n (Nat.le_refl n)]
    decide) (fun u hu => by
    rw [chT_cyc hn (nde_full (pvt_ne hu))]
    grind) 1
  have h7 : dt n (xT (lnB A 1) x) - pe n (pbl n (lnB A 1)) x = 0 := h4
  rw [lnB_1] at h7
  grind
/-! turned round -/
theorem fl_com {n : Nat} {A : Nat → Nat → F} (s : Nat) : ∀ i, i < n → ∀ j, j < n → mx n A (flM n A s) i j = mx n (flM n A s) A i j := by
  induction s with
  | zero =>
    intro i hi j hj
    show dot n (A i) (fun k => if k = j then 1 else 0) = dot n (fun k => if i = k then 1 else 0) (fun k => A k j)
    rw [dot_comm, dot_dl hj, dot_unit (x := fun k => A k j) hi]
  | succ s ih =>
    intro i hi j hj
    generalize ht : flt n A (flM n A s) s = t
    have e1 : ∀ k, flM n A (s + 1) k j = mx n A (flM n A s) k j + t * (if k = j then 1 else 0) := fun k => by
      rw [flM_s, ht]
      show _ + _ = _ + _
      by_cases q : k = j
      · rw [if_pos q, if_pos q]; show mx n A (flM n A s) k j + t = _; grind
      · rw [if_neg q, if_neg q]; show mx n A (flM n A s) k j + 0 = _; grind
    have e2 : ∀ k, flM n A (s + 1) i k = mx n A (flM n A s) i k + t * (if k = i then 1 else 0) := fun k => by
      rw [flM_s, ht]
      by_cases q : i = k
      · rw [if_pos q, if_pos q.symm]; show mx n A (flM n A s) i k + t = _; grind
      · rw [if_neg q, if_neg (fun z => q z.symm)]; show mx n A (flM n A s) i k + 0 = _; grind
    show dot n (A i) (fun k => flM n A (s + 1) k j) = dot n (flM n A (s + 1) i) (fun k => A k j)
    rw [show (fun k => flM n A (s + 1) k j) = fun k => mx n A (flM n A s) k j + t * (if k = j then 1 else 0) from funext e1, show flM n A (s + 1) i = fun k => mx n A (flM n A s) i k + t * (if k = i then 1 else 0) from funext e2]
    rw [dot_addr (g := fun k => t * (if k = j then 1 else 0)), dot_add (g := fun k => t * (if k = i then 1 else 0)), dot_scale, dot_dl (x := fun k => A k j) hi, dot_scaler, dot_comm n (A i) (fun k => if k = j then 1 else 0), dot_dl hj]
    have e3 : dot n (mx n A (flM n A s) i) (fun k => A k j) = dot n (A i) (fun k => mx n A (flM n A s) k j) := by
      have := mx_as (n := n) (A := A) (B := flM n A s) (C := A) i j
      refine Eq.trans this (dot_congr (fun _ _ => rfl) (fun k hk => (ih k hk j hj).symm))
    rw [e3]
theorem fl_trp {n : Nat} {A : Nat → Nat → F} (s : Nat) : ∀ i, i < n → ∀ j, j < n → flM n (trp A) s i j = flM n A s j i := by
  induction s with
  | zero =>
    intro i _ j _
    show (if i = j then 1 else 0) = (if j = i then (1 : F) else 0)
    by_cases q : i = j
    · rw [if_pos q, if_pos q.symm]
    · rw [if_neg q, if_neg (fun z => q z.symm)]
  | succ s ih =>
    have eG : ∀ i, i < n → ∀ j, j < n → flG n (trp A) (flM n (trp A) s) i j = flG n A (flM n A s) j i := fun i hi j hj => by
      have h1 : flG n (trp A) (flM n (trp A) s) i j = dot n (flM n A s j) (fun l => A l i) := by
        rw [dot_comm]
        exact dot_congr (fun _ _ => rfl) (fun l hl => ih l hl j hj)
      rw [h1]
      exact (fl_com s j hj i hi).symm
    intro i hi j hj
    have et : flt n (trp A) (flM n (trp A) s) s = flt n A (flM n A s) s := by
      unfold flt
      rw [sm_congr (fun k hk => eG k hk k hk)]
    rw [flM_s, flM_s, eG i hi j hj, et]
    by_cases q : i = j
    · rw [if_pos q, if_pos q.symm]
    · rw [if_neg q, if_neg (fun z => q z.symm)]
theorem pbl_trp {n k : Nat} {A : Nat → Nat → F} : pbl n (trp A) k = pbl n A k := by
  unfold pbl
  by_cases q : k = n
  · rw [if_pos q, if_pos q]
  · rw [if_neg q, if_neg q]
    unfold flt
    rw [sm_congr (fun i hi => ?_)]
    show dot n (fun l => A l i) (fun l => flM n (trp A) (n - 1 - k) l i) = flG n A (flM n A (n - 1 - k)) i i
    rw [dot_congr (fun _ _ => rfl) (fun l hl => fl_trp (n - 1 - k) l hl i hi), dot_comm]
    exact (fl_com (n - 1 - k) i hi i hi).symm
/-- the polynomial of a system is the determinant of x times the identity less A -/
theorem chr {n : Nat} {A : Nat → Nat → F} {x : F} (hn : n ≤ 8) : dt n (fun i c => (if i = c then x else 0) - A i c) = pe n (pbl n A) x := by
  have h := chT (A := trp A) (x := x) hn
  have e : pe n (pbl n (trp A)) x = pe n (pbl n A) x := sm_congr (fun k _ => by rw [pbl_trp])
  rw [← e, ← h]
  rfl
