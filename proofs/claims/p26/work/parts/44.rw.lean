/-! RULES with an end that is a property. -/
section RR
variable {C : Nat → List Value → MH → Res → Prop} {k : Nat} {Q : Res → Prop} {pc x y z : Nat} {is : List Ent} {lv lv' : List (Option Value)} {st : List Value} {h h' : MH} {c s : Nat} {S : Env} {fz : Bool} {m m' : M1} {p p' : M2}
theorem rw_of {g g' : Cfg} (h : ∀ r, Rn C k g' r → Rn C k g r) (n : Rw C k g' Q) : Rw C k g Q := by
  obtain ⟨r, hr, hq⟩ := n
  exact ⟨r, h r hr, hq⟩
theorem rw_end {g : Cfg} {r : Res} (h : Rn C k g r) (hq : Q r) : Rw C k g Q := ⟨r, h, hq⟩
theorem rw_blk {is' : List Ent} (hl : (m_bl k).lookup pc = some is') (n : Rw C k (pc, is', lv, st, h, c, s) Q) : Rw C k (pc, [], lv, st, h, c, s) Q := rw_of (fun _ hr => q_blk hl hr) n
theorem rw_cast (n : Rw C k (pc, [], lv', [], h', c, s) Q) (e : lv = lv') (e' : h = h') : Rw C k (pc, [], lv, [], h, c, s) Q := by
  subst e
  subst e'
  exact n
theorem rw_ret {v : Option Value} {Q' : Option Value → M1 → M2 → Prop} {g : Cfg} (hQ : Q = RQ S fz Q') (h : Rn C k g (.inl v, hpM S fz (m, p), 0, 0)) (hq : Q' v m p) : Rw C k g Q := by
  subst hQ
  exact ⟨_, h, v, m, p, rfl, hq⟩
theorem rw_icmp_eq {off : Int} {a b : Int} {t : Nat} (ha : rg a) (hb : rg b) (ht : mk_tg pc off = some t) (n1 : a = b → Rw C k (t, [], lv, st, h, c, s) Q) (n2 : a ≠ b → Rw C k (pc + 3, is, lv, st, h, c, s) Q) : Rw C k (pc, (.if_icmp .eq off, 3, x, y, z) :: is, lv, .int (iI b) :: .int (iI a) :: st, h, c, s) Q := by
  by_cases q : a = b
  · exact rw_of (fun r hr => q_icmp_eq ha hb ht (fun _ => hr) (fun f => by exfalso; omega)) (n1 q)
  · exact rw_of (fun r hr => q_icmp_eq ha hb ht (fun f => absurd f q) (fun _ => hr)) (n2 (by omega))
theorem rw_if_eq {off : Int} {a : Int} {t : Nat} (ha : rg a) (ht : mk_tg pc off = some t) (n1 : a = 0 → Rw C k (t, [], lv, st, h, c, s) Q) (n2 : a ≠ 0 → Rw C k (pc + 3, is, lv, st, h, c, s) Q) : Rw C k (pc, (.ifCond .eq off, 3, x, y, z) :: is, lv, .int (iI a) :: st, h, c, s) Q := by
  by_cases q : a = 0
  · exact rw_of (fun r hr => q_if_eq ha ht (fun _ => hr) (fun f => by exfalso; omega)) (n1 q)
  · exact rw_of (fun r hr => q_if_eq ha ht (fun f => absurd f q) (fun _ => hr)) (n2 (by omega))
theorem rw_icmp_ne {off : Int} {a b : Int} {t : Nat} (ha : rg a) (hb : rg b) (ht : mk_tg pc off = some t) (n1 : a ≠ b → Rw C k (t, [], lv, st, h, c, s) Q) (n2 : a = b → Rw C k (pc + 3, is, lv, st, h, c, s) Q) : Rw C k (pc, (.if_icmp .ne off, 3, x, y, z) :: is, lv, .int (iI b) :: .int (iI a) :: st, h, c, s) Q := by
  by_cases q : a ≠ b
  · exact rw_of (fun r hr => q_icmp_ne ha hb ht (fun _ => hr) (fun f => by exfalso; omega)) (n1 q)
  · exact rw_of (fun r hr => q_icmp_ne ha hb ht (fun f => absurd f q) (fun _ => hr)) (n2 (by omega))
theorem rw_if_ne {off : Int} {a : Int} {t : Nat} (ha : rg a) (ht : mk_tg pc off = some t) (n1 : a ≠ 0 → Rw C k (t, [], lv, st, h, c, s) Q) (n2 : a = 0 → Rw C k (pc + 3, is, lv, st, h, c, s) Q) : Rw C k (pc, (.ifCond .ne off, 3, x, y, z) :: is, lv, .int (iI a) :: st, h, c, s) Q := by
  by_cases q : a ≠ 0
  · exact rw_of (fun r hr => q_if_ne ha ht (fun _ => hr) (fun f => by exfalso; omega)) (n1 q)
  · exact rw_of (fun r hr => q_if_ne ha ht (fun f => absurd f q) (fun _ => hr)) (n2 (by omega))
theorem rw_icmp_lt {off : Int} {a b : Int} {t : Nat} (ha : rg a) (hb : rg b) (ht : mk_tg pc off = some t) (n1 : a < b → Rw C k (t, [], lv, st, h, c, s) Q) (n2 : b ≤ a → Rw C k (pc + 3, is, lv, st, h, c, s) Q) : Rw C k (pc, (.if_icmp .lt off, 3, x, y, z) :: is, lv, .int (iI b) :: .int (iI a) :: st, h, c, s) Q := by
  by_cases q : a < b
  · exact rw_of (fun r hr => q_icmp_lt ha hb ht (fun _ => hr) (fun f => by exfalso; omega)) (n1 q)
  · exact rw_of (fun r hr => q_icmp_lt ha hb ht (fun f => absurd f q) (fun _ => hr)) (n2 (by omega))
theorem rw_if_lt {off : Int} {a : Int} {t : Nat} (ha : rg a) (ht : mk_tg pc off = some t) (n1 : a < 0 → Rw C k (t, [], lv, st, h, c, s) Q) (n2 : 0 ≤ a → Rw C k (pc + 3, is, lv, st, h, c, s) Q) : Rw C k (pc, (.ifCond .lt off, 3, x, y, z) :: is, lv, .int (iI a) :: st, h, c, s) Q := by
  by_cases q : a < 0
  · exact rw_of (fun r hr => q_if_lt ha ht (fun _ => hr) (fun f => by exfalso; omega)) (n1 q)
  · exact rw_of (fun r hr => q_if_lt ha ht (fun f => absurd f q) (fun _ => hr)) (n2 (by omega))
theorem rw_icmp_ge {off : Int} {a b : Int} {t : Nat} (ha : rg a) (hb : rg b) (ht : mk_tg pc off = some t) (n1 : b ≤ a → Rw C k (t, [], lv, st, h, c, s) Q) (n2 : a < b → Rw C k (pc + 3, is, lv, st, h, c, s) Q) : Rw C k (pc, (.if_icmp .ge off, 3, x, y, z) :: is, lv, .int (iI b) :: .int (iI a) :: st, h, c, s) Q := by
  by_cases q : b ≤ a
  · exact rw_of (fun r hr => q_icmp_ge ha hb ht (fun _ => hr) (fun f => by exfalso; omega)) (n1 q)
  · exact rw_of (fun r hr => q_icmp_ge ha hb ht (fun f => absurd f q) (fun _ => hr)) (n2 (by omega))
theorem rw_if_ge {off : Int} {a : Int} {t : Nat} (ha : rg a) (ht : mk_tg pc off = some t) (n1 : 0 ≤ a → Rw C k (t, [], lv, st, h, c, s) Q) (n2 : a < 0 → Rw C k (pc + 3, is, lv, st, h, c, s) Q) : Rw C k (pc, (.ifCond .ge off, 3, x, y, z) :: is, lv, .int (iI a) :: st, h, c, s) Q := by
  by_cases q : 0 ≤ a
  · exact rw_of (fun r hr => q_if_ge ha ht (fun _ => hr) (fun f => by exfalso; omega)) (n1 q)
  · exact rw_of (fun r hr => q_if_ge ha ht (fun f => absurd f q) (fun _ => hr)) (n2 (by omega))
theorem rw_icmp_gt {off : Int} {a b : Int} {t : Nat} (ha : rg a) (hb : rg b) (ht : mk_tg pc off = some t) (n1 : b < a → Rw C k (t, [], lv, st, h, c, s) Q) (n2 : a ≤ b → Rw C k (pc + 3, is, lv, st, h, c, s) Q) : Rw C k (pc, (.if_icmp .gt off, 3, x, y, z) :: is, lv, .int (iI b) :: .int (iI a) :: st, h, c, s) Q := by
  by_cases q : b < a
  · exact rw_of (fun r hr => q_icmp_gt ha hb ht (fun _ => hr) (fun f => by exfalso; omega)) (n1 q)
  · exact rw_of (fun r hr => q_icmp_gt ha hb ht (fun f => absurd f q) (fun _ => hr)) (n2 (by omega))
theorem rw_if_gt {off : Int} {a : Int} {t : Nat} (ha : rg a) (ht : mk_tg pc off = some t) (n1 : 0 < a → Rw C k (t, [], lv, st, h, c, s) Q) (n2 : a ≤ 0 → Rw C k (pc + 3, is, lv, st, h, c, s) Q) : Rw C k (pc, (.ifCond .gt off, 3, x, y, z) :: is, lv, .int (iI a) :: st, h, c, s) Q := by
  by_cases q : 0 < a
  · exact rw_of (fun r hr => q_if_gt ha ht (fun _ => hr) (fun f => by exfalso; omega)) (n1 q)
  · exact rw_of (fun r hr => q_if_gt ha ht (fun f => absurd f q) (fun _ => hr)) (n2 (by omega))
theorem rw_icmp_le {off : Int} {a b : Int} {t : Nat} (ha : rg a) (hb : rg b) (ht : mk_tg pc off = some t) (n1 : a ≤ b → Rw C k (t, [], lv, st, h, c, s) Q) (n2 : b < a → Rw C k (pc + 3, is, lv, st, h, c, s) Q) : Rw C k (pc, (.if_icmp .le off, 3, x, y, z) :: is, lv, .int (iI b) :: .int (iI a) :: st, h, c, s) Q := by
  by_cases q : a ≤ b
  · exact rw_of (fun r hr => q_icmp_le ha hb ht (fun _ => hr) (fun f => by exfalso; omega)) (n1 q)
  · exact rw_of (fun r hr => q_icmp_le ha hb ht (fun f => absurd f q) (fun _ => hr)) (n2 (by omega))
theorem rw_if_le {off : Int} {a : Int} {t : Nat} (ha : rg a) (ht : mk_tg pc off = some t) (n1 : a ≤ 0 → Rw C k (t, [], lv, st, h, c, s) Q) (n2 : 0 < a → Rw C k (pc + 3, is, lv, st, h, c, s) Q) : Rw C k (pc, (.ifCond .le off, 3, x, y, z) :: is, lv, .int (iI a) :: st, h, c, s) Q := by
  by_cases q : a ≤ 0
  · exact rw_of (fun r hr => q_if_le ha ht (fun _ => hr) (fun f => by exfalso; omega)) (n1 q)
  · exact rw_of (fun r hr => q_if_le ha ht (fun f => absurd f q) (fun _ => hr)) (n2 (by omega))
end RR
theorem ct_go {d k : Nat} {S : Env} {fz : Bool} {ar : List Value} {m : M1} {p : M2} {Q : Option Value → M1 → M2 → Prop} {lv : List (Option Value)} (hl : ar.length ≤ m_L k) (ha : okar ar) (hlv : lv0 (m_L k) ar = lv) (hr : ∀ Qr, Qr = RQ S fz Q → Rw (Ev d) k (0, [], lv, [], hpM S fz (m, p), 0, 0) Qr) : Ct (d + 1) k S fz ar m p Q := ct_run hl ha hlv (hr _ rfl)
/-- the end of a method that throws -/
def TQ (S : Env) (fz : Bool) (m : M1) (p : M2) (E : Nat) : Res → Prop := fun r => r = (.inr E, hpM (ths S) fz (m, p), 1, 6)
theorem tw_go {d k E : Nat} {S : Env} {fz : Bool} {ar : List Value} {m : M1} {p : M2} {lv : List (Option Value)} (hl : ar.length ≤ m_L k) (ha : okar ar) (hk : m_kd k ≠ 2 ∧ m_hh k = []) (hd : 6 ≤ d + 1) (hlv : lv0 (m_L k) ar = lv) (hr : ∀ Qr, Qr = TQ S fz m p E → Rw (Ev d) k (0, [], lv, [], hpM S fz (m, p), 0, 0) Qr) : Tw (d + 1) k S fz ar m p E := by
  obtain ⟨r, hr, rfl⟩ := hr _ rfl
  exact ev_thr hl ha hk hd hlv hr
theorem loop_any {P : Nat → Prop} {n : Nat} (hs : ∀ i, i ≤ n → (i < n → P (i + 1)) → P i) : ∀ i, i ≤ n → P i :=
  loop_up (hs n (Nat.le_refl n) (fun h => absurd h (Nat.lt_irrefl n))) (fun i hi h => hs i (Nat.le_of_lt hi) (fun _ => h))
theorem kw {m m' : M1} {a j c : Nat} {x : F} (h : w1 m a j x = m') (hc : c ≠ a) : m' c = m c := by
  rw [← h]
  exact w1_a hc
theorem ki {m m' : M1} {a y n : Nat} (h : m' a = m a) (hv : m a y = nF n) (hn : n < 10007) : vF (m' a y) = (n : Int) := by
  rw [congrFun h y, hv, vF_nF hn]
theorem remF {a : Int} {x : F} (h0 : 0 ≤ a) (h : toF a = x) : a.tmod 10007 = vF x := by rw [tmod_vF h0, h]
theorem F_add0 (x : F) : x + 0 = x := by grind
theorem F_0sub (x : F) : 0 - x = -x := by grind
