/-! DETERMINANTS of products: whatever takes rows in as the outer product does. -/
def en0 (c : Nat) : F := if c = 0 then 1 else 0
def sup (r : Nat → F) (c : Nat) : F := if c = 0 then 0 else r (c - 1)
abbrev VV : Type := List Bool → F
def gam : Nat → ((Nat → F) → VV → VV) → VV → VV → VV
  | 0, _, v, w => fun T => w [] * v T
  | n + 1, G, v, w => fun T => gam n (fun r => G (sup r)) v (fun S => w (false :: S)) T + G en0 (gam n (fun r => G (sup r)) v (fun S => w (true :: S))) T
def GP (n : Nat) (G : (Nat → F) → VV → VV) : Prop := (∀ r s a u T, G (fun c => r c + a * s c) u T = G r u T + a * G s u T) ∧ (∀ r a u v T, G r (fun T => u T + a * v T) T = G r u T + a * G r v T) ∧ (∀ r u T, G r (G r u) T = 0) ∧ (∀ r s u T, (∀ c, c < n → r c = s c) → G r u T = G s u T)
theorem GP_s {n : Nat} {G : (Nat → F) → VV → VV} (h : GP (n + 1) G) : GP n (fun r => G (sup r)) := by
  obtain ⟨h1, h2, h3, h4⟩ := h
  refine ⟨fun r s a u T => ?_, fun r a u v T => h2 _ a u v T, fun r u T => h3 _ u T, fun r s u T hc => h4 _ _ u T (fun c hc' => ?_)⟩
  · show G (sup (fun c => r c + a * s c)) u T = G (sup r) u T + a * G (sup s) u T
    rw [← h1]
    refine congrArg (fun f => G f u T) (funext fun c => ?_)
    unfold sup
    by_cases q : c = 0
    · rw [if_pos q, if_pos q, if_pos q]; grind
    · rw [if_neg q, if_neg q, if_neg q]
  · unfold sup
    by_cases q : c = 0
    · rw [if_pos q, if_pos q]
    · rw [if_neg q, if_neg q]
      exact hc (c - 1) (by omega)
section
variable {n : Nat} {G : (Nat → F) → VV → VV}
theorem GP_0r (h : GP n G) (u : VV) (T : List Bool) : G (fun _ => 0) u T = 0 := by
  have h1 := h.1 (fun _ => 0) (fun _ => 0) 1 u T
  rw [show (fun _ : Nat => (0 : F) + 1 * 0) = fun _ => 0 from funext fun _ => by grind] at h1
  grind
theorem GP_0u (h : GP n G) (r : Nat → F) (T : List Bool) : G r (fun _ => 0) T = 0 := by
  have h1 := h.2.1 r 1 (fun _ => 0) (fun _ => 0) T
  rw [show (fun _ : List Bool => (0 : F) + 1 * 0) = fun _ => 0 from funext fun _ => by grind] at h1
  grind
theorem GP_su (h : GP n G) (r : Nat → F) (a : F) (u : VV) (T : List Bool) : G r (fun T => a * u T) T = a * G r u T := by
  have h1 := h.2.1 r a (fun _ => 0) u T
  rw [GP_0u h, show (fun T : List Bool => (0 : F) + a * u T) = fun T => a * u T from funext fun _ => by grind] at h1
  rw [h1]
  grind
theorem GP_an (h : GP n G) (r s : Nat → F) (u : VV) (T : List Bool) : G r (G s u) T + G s (G r u) T = 0 := by
  have h1 := h.2.2.1 (fun c => r c + 1 * s c) u T
  rw [h.1, show G (fun c => r c + 1 * s c) u = fun T => G r u T + 1 * G s u T from funext fun T => h.1 r s 1 u T, h.2.1, h.2.1, h.2.2.1, h.2.2.1] at h1
  grind
end
theorem gam_l (n : Nat) : ∀ (G : (Nat → F) → VV → VV), GP n G → ∀ (v : VV) (a : F) (w x : VV) (T : List Bool), gam n G v (fun S => w S + a * x S) T = gam n G v w T + a * gam n G v x T := by
  induction n with
  | zero => intro G _ v a w x T; show (w [] + a * x []) * v T = w [] * v T + a * (x [] * v T); grind
  | succ n ih =>
    intro G h v a w x T
    have h' := GP_s h
    show gam n _ v (fun S => w (false :: S) + a * x (false :: S)) T + G en0 (gam n _ v (fun S => w (true :: S) + a * x (true :: S))) T = _
    rw [ih _ h' v a (fun S => w (false :: S)) (fun S => x (false :: S)), show gam n (fun r => G (sup r)) v (fun S => w (true :: S) + a * x (true :: S)) = fun T => gam n (fun r => G (sup r)) v (fun S => w (true :: S)) T + a * gam n (fun r => G (sup r)) v (fun S => x (true :: S)) T from funext (ih _ h' v a (fun S => w (true :: S)) (fun S => x (true :: S))), h.2.1]
    show _ = gam n _ v _ T + G en0 (gam n _ v _) T + a * (gam n _ v _ T + G en0 (gam n _ v _) T)
    grind
theorem gam_0 {n : Nat} {G : (Nat → F) → VV → VV} (h : GP n G) (v : VV) (T : List Bool) : gam n G v (fun _ => 0) T = 0 := by
  have h1 := gam_l n G h v 1 (fun _ => 0) (fun _ => 0) T
  rw [show (fun _ : List Bool => (0 : F) + 1 * 0) = fun _ => 0 from funext fun _ => by grind] at h1
  grind
theorem sup_sp (r : Nat → F) : r = fun c => sup (fun i => r (i + 1)) c + r 0 * en0 c := funext fun c => by
  unfold sup en0
  by_cases q : c = 0
  · rw [if_pos q, if_pos q, q]; grind
  · rw [if_neg q, if_neg q]
    show r c = r (c - 1 + 1) + r 0 * 0
    rw [show c - 1 + 1 = c by omega]; grind
theorem gam_ex (n : Nat) : ∀ (G : (Nat → F) → VV → VV), GP n G → ∀ (v : VV) (r : Nat → F) (w : VV) (T : List Bool), gam n G v (fun S => ex S r w) T = G r (gam n G v w) T := by
  induction n with
  | zero =>
    intro G h v r w T
    show ex [] r w * v T = _
    rw [ex_n, h.2.2.2 r (fun _ => 0) _ T (fun c hc => absurd hc (Nat.not_lt_zero c)), GP_0r h]
    grind
  | succ n ih =>
    intro G h v r w T
    have h' := GP_s h
    generalize hA : gam n (fun r => G (sup r)) v (fun S => w (false :: S)) = A
    generalize hB : gam n (fun r => G (sup r)) v (fun S => w (true :: S)) = B
    have e1 : gam n (fun r => G (sup r)) v (fun S => ex (false :: S) r w) = G (sup (fun i => r (i + 1))) A := by
      rw [← hA]
      exact funext (ih _ h' v (fun i => r (i + 1)) (fun S => w (false :: S)))
    have e2 : gam n (fun r => G (sup r)) v (fun S => ex (true :: S) r w) = fun T => r 0 * A T + (0 - 1) * G (sup (fun i => r (i + 1))) B T := by
      refine funext fun T => ?_
      have q1 := gam_l n _ h' v (0 - 1) (fun S => r 0 * w (false :: S)) (fun S => ex S (fun i => r (i + 1)) (fun T => w (true :: T))) T
      have q2 := gam_l n _ h' v (r 0) (fun _ => 0) (fun S => w (false :: S)) T
      rw [gam_0 h', hA, show (fun S : List Bool => (0 : F) + r 0 * w (false :: S)) = fun S => r 0 * w (false :: S) from funext fun _ => by grind] at q2
      rw [q2, show gam n (fun r => G (sup r)) v (fun S => ex S (fun i => r (i + 1)) (fun T => w (true :: T))) T = G (sup (fun i => r (i + 1))) B T from by rw [← hB]; exact ih _ h' v _ _ T, show (fun S : List Bool => r 0 * w (false :: S) + (0 - 1) * ex S (fun i => r (i + 1)) (fun T => w (true :: T))) = fun S => ex (true :: S) r w from funext fun S => by rw [ex_t]; grind] at q1
      rw [q1]
      grind
    show gam n _ v (fun S => ex (false :: S) r w) T + G en0 (gam n _ v (fun S => ex (true :: S) r w)) T = G r (fun T => gam n _ v _ T + G en0 (gam n _ v _) T) T
    rw [e1, e2, hA, hB, h.2.1, GP_su h]
    have q3 := h.2.1 r 1 A (G en0 B) T
    rw [show (fun T => A T + 1 * G en0 B T) = fun T => A T + G en0 B T from funext fun _ => by grind] at q3
    rw [q3]
    conv => rhs; rw [sup_sp r, h.1, h.1, h.2.2.1]
    have q4 := GP_an h (sup (fun i => r (i + 1))) en0 B T
    grind
def chn (G : (Nat → F) → VV → VV) : List (Nat → F) → VV → VV
  | [], v => v
  | r :: l, v => G r (chn G l v)
theorem gam_1 (n : Nat) : ∀ (G : (Nat → F) → VV → VV), GP n G → ∀ (v : VV) (T : List Bool), gam n G v (wd []) T = v T := by
  induction n with
  | zero => intro G _ v T; show 1 * v T = v T; grind
  | succ n ih =>
    intro G h v T
    have h' := GP_s h
    show gam n _ v (fun S => wd [] (false :: S)) T + G en0 (gam n _ v (fun S => wd [] (true :: S))) T = _
    rw [show (fun S => wd [] (false :: S)) = wd [] from rfl, ih _ h', show gam n (fun r => G (sup r)) v (fun S => wd [] (true :: S)) = fun _ => 0 from funext (gam_0 h' v), GP_0u h]
    grind
theorem gam_wd {n : Nat} {G : (Nat → F) → VV → VV} (h : GP n G) (v : VV) (l : List (Nat → F)) : gam n G v (wd l) = chn G l v := by
  induction l with
  | nil => exact funext (gam_1 n G h v)
  | cons r l ih =>
    rw [wd_c']
    refine funext fun T => ?_
    rw [gam_ex n G h]
    show G r (gam n G v (wd l)) T = G r (chn G l v) T
    rw [ih]
def ctr1 : List Bool → Nat
  | [] => 0
  | true :: S => ctr1 S + 1
  | false :: S => ctr1 S
theorem ctr1_le (S : List Bool) : ctr1 S ≤ S.length := by
  induction S with
  | nil => exact Nat.le_refl 0
  | cons b S ih =>
    cases b with
    | false => exact Nat.le_succ_of_le ih
    | true => exact Nat.succ_le_succ ih
theorem ctr1_full (S : List Bool) : ctr1 S = S.length → S = List.replicate S.length true := by
  induction S with
  | nil => intro _; rfl
  | cons b S ih =>
    intro h
    cases b with
    | false => have h2 : ctr1 S = S.length + 1 := h; have := ctr1_le S; omega
    | true =>
      have h2 : ctr1 S + 1 = S.length + 1 := h
      show true :: S = true :: List.replicate S.length true
      rw [← ih (by omega)]
theorem ex_ct (S : List Bool) : ∀ (r : Nat → F) (w : VV), (∀ T, ctr1 T + 1 = ctr1 S → w T = 0) → ex S r w = 0 := by
  induction S with
  | nil => intros; rfl
  | cons b S ih =>
    intro r w h
    cases b with
    | false => rw [ex_f]; exact ih _ _ (fun T hT => h _ hT)
    | true =>
      rw [ex_t, h (false :: S) rfl, ih _ (fun T => w (true :: T)) (fun T hT => h (true :: T) (by show ctr1 T + 1 + 1 = ctr1 S + 1; omega))]
      grind
theorem all_ct (S : List Bool) : S.all (!·) = true → ctr1 S = 0 := by
  induction S with
  | nil => intro _; rfl
  | cons b S ih =>
    intro h
    cases b with
    | false => exact ih (by simpa using h)
    | true => simp at h
theorem wd_ct (l : List (Nat → F)) : ∀ S, ctr1 S ≠ l.length → wd l S = 0 := by
  induction l with
  | nil =>
    intro S h
    show (if S.all (!·) = true then 1 else 0) = (0 : F)
    rw [if_neg (fun q => h (all_ct S q))]
  | cons r l ih =>
    intro S h
    rw [wd_c]
    exact ex_ct S r _ (fun T hT => ih T (fun e => h (by rw [List.length_cons]; omega)))
theorem gam_cg (n : Nat) : ∀ (G : (Nat → F) → VV → VV) (v w x : VV), (∀ S : List Bool, S.length = n → w S = x S) → gam n G v w = gam n G v x := by
  induction n with
  | zero => intro G v w x h; exact funext fun T => by show w [] * v T = x [] * v T; rw [h [] rfl]
  | succ n ih =>
    intro G v w x h
    refine funext fun T => ?_
    show gam n _ v _ T + G en0 (gam n _ v _) T = gam n _ v _ T + G en0 (gam n _ v _) T
    rw [ih _ v (fun S => w (false :: S)) (fun S => x (false :: S)) (fun S hS => h _ (by rw [List.length_cons, hS])), ih _ v (fun S => w (true :: S)) (fun S => x (true :: S)) (fun S hS => h _ (by rw [List.length_cons, hS]))]
theorem rws_map {M : Nat → Nat → F} {f : (Nat → F) → Nat → F} (t : Nat) : ∀ s, (rws M s t).map f = rws (fun i => f (M i)) s t := by
  induction t with
  | zero => intro s; rfl
  | succ t ih =>
    intro s
    show f (M s) :: (rws M (s + 1) t).map f = f (M s) :: rws _ (s + 1) t
    rw [ih]
theorem rws_sh {M : Nat → Nat → F} (t : Nat) : ∀ s, rws M (s + 1) t = rws (fun i => M (i + 1)) s t := by
  induction t with
  | zero => intro s; rfl
  | succ t ih =>
    intro s
    show M (s + 1) :: rws M (s + 1 + 1) t = M (s + 1) :: rws _ (s + 1) t
    rw [ih]
theorem chn_map (G : (Nat → F) → VV → VV) (f : (Nat → F) → Nat → F) (l : List (Nat → F)) (v : VV) : chn (fun r => G (f r)) l v = chn G (l.map f) v := by
  induction l with
  | nil => rfl
  | cons r l ih =>
    show G (f r) (chn _ l v) = G (f r) (chn G (l.map f) v)
    rw [ih]
def unM (i c : Nat) : F := if i = c then 1 else 0
theorem gam_full (n : Nat) : ∀ (G : (Nat → F) → VV → VV), GP n G → ∀ (v w : VV), (∀ S : List Bool, S.length = n → S ≠ List.replicate n true → w S = 0) → ∀ T, gam n G v w T = w (List.replicate n true) * chn G (rws unM 0 n) v T := by
  induction n with
  | zero => intro G _ v w _ T; rfl
  | succ n ih =>
    intro G h v w hw T
    have h' := GP_s h
    have e1 : gam n (fun r => G (sup r)) v (fun S => w (false :: S)) T = 0 := by
      rw [gam_cg n _ v _ (fun _ => 0) (fun S hS => hw _ (by rw [List.length_cons, hS]) (fun q => by rw [List.replicate_succ] at q; cases q))]
      exact gam_0 h' v T
    have e2 := fun T => ih _ h' v (fun S => w (true :: S)) (fun S hS hne => hw _ (by rw [List.length_cons, hS]) (fun q => hne (by rw [List.replicate_succ] at q; exact (List.cons.inj q).2))) T
    show gam n _ v _ T + G en0 (gam n _ v _) T = _
    rw [e1, show gam n (fun r => G (sup r)) v (fun S => w (true :: S)) = fun T => w (true :: List.replicate n true) * chn (fun r => G (sup r)) (rws unM 0 n) v T from funext e2, GP_su h, chn_map, rws_map]
    have e3 : rws unM 0 (n + 1) = en0 :: rws (fun i => sup (unM i)) 0 n := by
      show unM 0 :: rws unM 1 n = _
      rw [rws_sh, show unM 0 = en0 from funext fun c => by unfold unM en0; by_cases q : c = 0 <;> simp [q, eq_comm], show (fun i => unM (i + 1)) = fun i => sup (unM i) from funext fun i => funext fun c => by
        unfold unM sup
        by_cases q : c = 0
        · rw [if_neg (by omega), if_pos q]
        · rw [if_neg q]
          by_cases q2 : i + 1 = c
          · exact (if_pos q2).trans (if_pos (by omega)).symm
          · exact (if_neg q2).trans (if_neg (by omega)).symm]
    rw [e3]
    show 0 + w (true :: List.replicate n true) * G en0 (chn G _ v) T = w (List.replicate (n + 1) true) * G en0 (chn G _ v) T
    rw [List.replicate_succ]
    grind
/-- rows that are put together out of the rows of M -/
def mx (n : Nat) (L M : Nat → Nat → F) (i c : Nat) : F := dot n (L i) (fun k => M k c)
theorem GP_mx (n : Nat) (M : Nat → Nat → F) : GP n (fun r u T => ex T (fun c => dot n r (fun k => M k c)) u) := by
  refine ⟨fun r s a u T => ?_, fun r a u v T => ex_lw T _ a u v, fun r u T => ex_qq T _ u, fun r s u T h => ?_⟩
  · show ex T (fun c => dot n (fun c => r c + a * s c) (fun k => M k c)) u = ex T _ u + a * ex T _ u
    rw [← ex_lr]
    refine congrArg (fun f => ex T f u) (funext fun c => ?_)
    rw [dot_add (g := fun c => a * s c), dot_scale]
  · show ex T (fun c => dot n r (fun k => M k c)) u = ex T (fun c => dot n s (fun k => M k c)) u
    exact congrArg (fun f => ex T f u) (funext fun c => dot_congr h (fun _ _ => rfl))
theorem wd_mx {n : Nat} {L M : Nat → Nat → F} (t : Nat) : ∀ s, wd (rws (mx n L M) s t) = chn (fun r u T => ex T (fun c => dot n r (fun k => M k c)) u) (rws L s t) (wd []) := by
  induction t with
  | zero => intro s; rfl
  | succ t ih =>
    intro s
    show wd (mx n L M s :: rws (mx n L M) (s + 1) t) = _
    rw [wd_c', ih (s + 1)]
    rfl
theorem rws_len {M : Nat → Nat → F} (t : Nat) : ∀ s, (rws M s t).length = t := by
  induction t with
  | zero => intro s; rfl
  | succ t ih => intro s; show (rws M (s + 1) t).length + 1 = t + 1; rw [ih]
theorem dt_mx {n : Nat} {L M : Nat → Nat → F} : dt n (mx n L M) = dt n L * dt n M := by
  have h := GP_mx n M
  have e0 : ∀ L : Nat → Nat → F, dt n (mx n L M) = chn (fun r u T => ex T (fun c => dot n r (fun k => M k c)) u) (rws L 0 n) (wd []) (List.replicate n true) := fun L => by
    unfold dt
    rw [wd_mx]
  rw [e0, ← gam_wd h, gam_full n _ h _ _ (fun S hS hne => wd_ct _ S (fun q => hne (by
    have := ctr1_full S (by rw [q, rws_len, hS])
    rw [hS] at this
    exact this))), ← e0 unM]
  refine congrArg (fun x => dt n L * x) (dt_cg (fun i hi c _ => ?_))
  exact dot_unit (x := fun k => M k c) hi
