/-! A MODEL MACHINE: methods as blocks of instructions over cells that are numbered from 1 (0: the script); all answers are reckoned by functions. -/
/-- the law's numbers out of its constants -/
def cstT : List ((Nat × Nat) × Int32) := [((11, 7), 2147483647), ((11, 80), 1000000), ((11, 154), 60000)]
theorem cstT_ok : ∀ q ∈ cstT, Cond.constant (cnm q.1.1) q.1.2 q.2 ∈ lwg := by
  intro q h
  simp only [cstT, List.mem_cons, List.not_mem_nil, or_false] at h
  rcases h with rfl | rfl | rfl
  · exact lwi 260 (by decide +kernel) (by decide +kernel)
  · exact lwi 712 (by decide +kernel) (by decide +kernel)
  · exact lwi 784 (by decide +kernel) (by decide +kernel)
/-- an object (class, fields), ints, longs, references (kind 0: rows of ints, 1: plants) -/
abbrev MC : Type := (Nat × List Value) ⊕ ((Nat × (Nat → Int32)) ⊕ ((Nat × (Nat → Int64)) ⊕ (Nat × Nat × (Nat → Option Nat))))
/-- how many cells, whether no more are made, what they hold -/
abbrev MH : Type := Nat × Bool × (Nat → Option MC)
/-- place, instructions ahead, locals, stack, heap, cells and slots made so far -/
abbrev Cfg : Type := Nat × List Ent × List (Option Value) × List Value × MH × Nat × Nat
abbrev Res : Type := (Option Value ⊕ Nat) × MH × Nat × Nat
abbrev Out : Type := Cfg ⊕ (Res ⊕ (Nat × List Value × Cfg))
abbrev mO (ci : Nat) (fs : List Value) : MC := .inl (ci, fs)
abbrev mI (n : Nat) (f : Nat → Int32) : MC := .inr (.inl (n, f))
abbrev mJ (n : Nat) (f : Nat → Int64) : MC := .inr (.inr (.inl (n, f)))
abbrev mQ (t n : Nat) (g : Nat → Option Nat) : MC := .inr (.inr (.inr (t, n, g)))
def hup (h : MH) (a : Nat) (x : MC) : MH := (h.1, h.2.1, fun j => if j = a then some x else h.2.2 j)
def hpush (h : MH) (x : MC) : MH := (h.1 + 1, h.2.1, fun j => if j = h.1 + 1 then some x else h.2.2 j)
def hgrid (h : MH) (n m : Nat) : MH := (h.1 + 1 + n, h.2.1, fun j => if j = h.1 + 1 then some (mQ 0 n (fun i => if i < n then some (h.1 + 2 + i) else none)) else if h.1 + 1 < j ∧ j ≤ h.1 + 1 + n then some (mI m (fun _ => 0)) else h.2.2 j)
/-- the throw of an exception: its cell, which nobody reads -/
def hth (h : MH) : MH := (h.1 + 1, h.2.1, h.2.2)
def mk_tg (pc : Nat) (off : Int) : Option Nat := if 0 ≤ (pc : Int) + off then some ((pc : Int) + off).toNat else none
def nx (pc : Nat) (is : List Ent) (lv : List (Option Value)) (st : List Value) (h : MH) (c s : Nat) : Option Out := some (.inl (pc, is, lv, st, h, c, s))
def jp (pc : Nat) (off : Int) (lv : List (Option Value)) (st : List Value) (h : MH) (c s : Nat) : Option Out := match mk_tg pc off with
  | some t => nx t [] lv st h c s
  | none => none
def icm (cd : ClassFile.Cond) (x y : Int32) : Bool := match cd with
  | .eq => decide (x = y)
  | .ne => !decide (x = y)
  | .lt => decide (x < y)
  | .ge => decide (y ≤ x)
  | .gt => decide (y < x)
  | .le => decide (x ≤ y)
def tyv (z : Nat) (v : Value) : Bool := match v with
  | .int _ => z % 2 == 0
  | .ref _ => z % 2 == 1
  | _ => false
def s_iload (n : Nat) (pc : Nat) (is : List Ent) (lv : List (Option Value)) (st : List Value) (h : MH) (c s : Nat) : Option Out := match lv[n]? with
  | some (some (.int v)) => nx pc is lv (.int v :: st) h c s
  | _ => none
def s_aload (n : Nat) (pc : Nat) (is : List Ent) (lv : List (Option Value)) (st : List Value) (h : MH) (c s : Nat) : Option Out := match lv[n]? with
  | some (some (.ref v)) => nx pc is lv (.ref v :: st) h c s
  | _ => none
def s_istore (n : Nat) (pc : Nat) (is : List Ent) (lv : List (Option Value)) (st : List Value) (h : MH) (c s : Nat) : Option Out := match st with
  | .int v :: st => if n < lv.length then nx pc is (lv.set n (some (.int v))) st h c s else none
  | _ => none
def s_astore (n : Nat) (pc : Nat) (is : List Ent) (lv : List (Option Value)) (st : List Value) (h : MH) (c s : Nat) : Option Out := match st with
  | .ref v :: st => if n < lv.length then nx pc is (lv.set n (some (.ref v))) st h c s else none
  | _ => none
def s_iinc (n : Nat) (d : Int) (pc : Nat) (is : List Ent) (lv : List (Option Value)) (st : List Value) (h : MH) (c s : Nat) : Option Out := match lv[n]? with
  | some (some (.int v)) => nx pc is (lv.set n (some (.int (v + Int32.ofInt d)))) st h c s
  | _ => none
def s_bin (f : Int32 → Int32 → Int32) (pc : Nat) (is : List Ent) (lv : List (Option Value)) (st : List Value) (h : MH) (c s : Nat) : Option Out := match st with
  | .int y :: .int x :: st => nx pc is lv (.int (f x y) :: st) h c s
  | _ => none
def s_div (f : Int32 → Int32 → Int32) (pc : Nat) (is : List Ent) (lv : List (Option Value)) (st : List Value) (h : MH) (c s : Nat) : Option Out := match st with
  | .int y :: .int x :: st => if y = 0 then none else nx pc is lv (.int (f x y) :: st) h c s
  | _ => none
def s_un (f : Int32 → Int32) (pc : Nat) (is : List Ent) (lv : List (Option Value)) (st : List Value) (h : MH) (c s : Nat) : Option Out := match st with
  | .int x :: st => nx pc is lv (.int (f x) :: st) h c s
  | _ => none
def s_i2l (pc : Nat) (is : List Ent) (lv : List (Option Value)) (st : List Value) (h : MH) (c s : Nat) : Option Out := match st with
  | .int x :: st => nx pc is lv (.long x.toInt64 :: st) h c s
  | _ => none
def s_lcmp (pc : Nat) (is : List Ent) (lv : List (Option Value)) (st : List Value) (h : MH) (c s : Nat) : Option Out := match st with
  | .long y :: .long x :: st => nx pc is lv (.int (lg_cmp x y) :: st) h c s
  | _ => none
def s_dup (pc : Nat) (is : List Ent) (lv : List (Option Value)) (st : List Value) (h : MH) (c s : Nat) : Option Out := match st with
  | v :: st => if v.category = 1 then nx pc is lv (v :: v :: st) h c s else none
  | _ => none
def s_dup2 (pc : Nat) (is : List Ent) (lv : List (Option Value)) (st : List Value) (h : MH) (c s : Nat) : Option Out := match st with
  | v :: w :: st => if v.category = 1 ∧ w.category = 1 then nx pc is lv (v :: w :: v :: w :: st) h c s else none
  | _ => none
def s_ldc (cn ix p0 pc : Nat) (is : List Ent) (lv : List (Option Value)) (st : List Value) (h : MH) (c s : Nat) : Option Out := if pc = p0 + 2 then (match cstT.lookup (cn, ix) with
  | some v => nx pc is lv (.int v :: st) h c s
  | none => none) else none
def s_pop (pc : Nat) (is : List Ent) (lv : List (Option Value)) (st : List Value) (h : MH) (c s : Nat) : Option Out := match st with
  | v :: st => if v.category = 1 then nx pc is lv st h c s else none
  | _ => none
def s_icmp (cd : ClassFile.Cond) (off : Int) (p0 pc : Nat) (is : List Ent) (lv : List (Option Value)) (st : List Value) (h : MH) (c s : Nat) : Option Out := match st with
  | .int y :: .int x :: st => match mk_tg p0 off with
    | some t => if icm cd x y = true then nx t [] lv st h c s else nx pc is lv st h c s
    | none => none
  | _ => none
def s_if (cd : ClassFile.Cond) (off : Int) (p0 pc : Nat) (is : List Ent) (lv : List (Option Value)) (st : List Value) (h : MH) (c s : Nat) : Option Out := match st with
  | .int x :: st => match mk_tg p0 off with
    | some t => if icm cd x 0 = true then nx t [] lv st h c s else nx pc is lv st h c s
    | none => none
  | _ => none
def s_table (d lo hi : Int) (offs : Array Int) (p0 : Nat) (lv : List (Option Value)) (st : List Value) (h : MH) (c s : Nat) : Option Out := match st with
  | .int x :: st => if x.toInt < lo ∨ hi < x.toInt then jp p0 d lv st h c s else match offs[(x.toInt - lo).toNat]? with
    | some o => jp p0 o lv st h c s
    | none => none
  | _ => none
def s_getf (x y : Nat) (pc : Nat) (is : List Ent) (lv : List (Option Value)) (st : List Value) (h : MH) (c s : Nat) : Option Out := match st with
  | .ref a :: st => match h.2.2 a with
    | some (.inl (ci, fs)) => if ci = x then match fs[y]? with
      | some v => nx pc is lv (v :: st) h c s
      | none => none
      else none
    | _ => none
  | _ => none
def s_putf (x y z : Nat) (pc : Nat) (is : List Ent) (lv : List (Option Value)) (st : List Value) (h : MH) (c s : Nat) : Option Out := match st with
  | v :: .ref a :: st => match h.2.2 a with
    | some (.inl (ci, fs)) => if ci = x ∧ y < fs.length ∧ tyv z v = true then nx pc is lv st (hup h a (mO ci (fs.set y v))) c s else none
    | _ => none
  | _ => none
def s_iald (pc : Nat) (is : List Ent) (lv : List (Option Value)) (st : List Value) (h : MH) (c s : Nat) : Option Out := match st with
  | .int i :: .ref a :: st => match h.2.2 a with
    | some (.inr (.inl (n, f))) => if i < 0 ∨ n ≤ i.toNatClampNeg then none else nx pc is lv (.int (f i.toNatClampNeg) :: st) h c s
    | _ => none
  | _ => none
def s_iast (pc : Nat) (is : List Ent) (lv : List (Option Value)) (st : List Value) (h : MH) (c s : Nat) : Option Out := match st with
  | .int x :: .int i :: .ref a :: st => if a = 0 then none else match h.2.2 a with
    | some (.inr (.inl (n, f))) => if i < 0 ∨ n ≤ i.toNatClampNeg then none else nx pc is lv st (hup h a (mI n (upd f i.toNatClampNeg x))) c s
    | _ => none
  | _ => none
def s_aald (pc : Nat) (is : List Ent) (lv : List (Option Value)) (st : List Value) (h : MH) (c s : Nat) : Option Out := match st with
  | .int i :: .ref a :: st => match h.2.2 a with
    | some (.inr (.inr (.inr (_, n, g)))) => if i < 0 ∨ n ≤ i.toNatClampNeg then none else match g i.toNatClampNeg with
      | some q => nx pc is lv (.ref q :: st) h c s
      | none => none
    | _ => none
  | _ => none
def s_aast (pc : Nat) (is : List Ent) (lv : List (Option Value)) (st : List Value) (h : MH) (c s : Nat) : Option Out := match st with
  | .ref q :: .int i :: .ref a :: st => match h.2.2 a with
    | some (.inr (.inr (.inr (t, n, g)))) => if i < 0 ∨ n ≤ i.toNatClampNeg ∨ q = 0 then none else match h.2.2 q with
      | some (.inl (ci, _)) => if t = 1 ∧ ci = 3 then nx pc is lv st (hup h a (mQ t n (va_up g i.toNatClampNeg (some q)))) c s else none
      | some (.inr (.inl _)) => if t = 0 then nx pc is lv st (hup h a (mQ t n (va_up g i.toNatClampNeg (some q)))) c s else none
      | _ => none
    | _ => none
  | _ => none
def s_alen (pc : Nat) (is : List Ent) (lv : List (Option Value)) (st : List Value) (h : MH) (c s : Nat) : Option Out := match st with
  | .ref a :: st => match h.2.2 a with
    | some (.inr (.inl (n, _))) => nx pc is lv (.int (Int32.ofNat n) :: st) h c s
    | _ => none
  | _ => none
def s_newa (at' : ClassFile.ArrayType) (pc : Nat) (is : List Ent) (lv : List (Option Value)) (st : List Value) (h : MH) (c s : Nat) : Option Out := match st with
  | .int n :: st => if h.2.1 = true ∨ n < 0 ∨ 100 < n.toNatClampNeg then none else match at' with
    | .int => nx pc is lv (.ref (h.1 + 1) :: st) (hpush h (mI n.toNatClampNeg (fun _ => 0))) (c + 1) (s + n.toNatClampNeg)
    | _ => none
  | _ => none
def s_ana (pc : Nat) (is : List Ent) (lv : List (Option Value)) (st : List Value) (h : MH) (c s : Nat) : Option Out := match st with
  | .int n :: st => if h.2.1 = true ∨ n < 0 ∨ 100 < n.toNatClampNeg then none else nx pc is lv (.ref (h.1 + 1) :: st) (hpush h (mQ 1 n.toNatClampNeg (fun _ => none))) (c + 1) (s + n.toNatClampNeg)
  | _ => none
def s_mna (pc : Nat) (is : List Ent) (lv : List (Option Value)) (st : List Value) (h : MH) (c s : Nat) : Option Out := match st with
  | .int m :: .int n :: st => if h.2.1 = true ∨ n < 0 ∨ 100 < n.toNatClampNeg ∨ m < 0 ∨ 100 < m.toNatClampNeg then none else nx pc is lv (.ref (h.1 + 1) :: st) (hgrid h n.toNatClampNeg m.toNatClampNeg) (c + 1 + n.toNatClampNeg) (s + n.toNatClampNeg + n.toNatClampNeg * m.toNatClampNeg)
  | _ => none
/-- new X: an object, or the throw of an exception, as one -/
def s_new (cn ix x : Nat) (pc : Nat) (is : List Ent) (lv : List (Option Value)) (st : List Value) (h : MH) (c s : Nat) : Option Out :=
  if x < 8 then (if h.2.1 = true then none else nx pc is lv (.ref (h.1 + 1) :: st) (hpush h (mO x (dfl x))) (c + 1) (s + (dfl x).length))
  else match is with
    | (.dup, 1, _) :: (.ldc si, 2, _) :: (.invokespecial ic, 3, _) :: (.athrow, 1, _) :: _ => if (cn, x - 100, ix, ic, si) ∈ thrT ∧ st = [] then some (.inr (.inl (.inr (x - 100), hth h, c + 1, s + 6))) else none
    | (.dup, 1, _) :: (.ldc_w si, 3, _) :: (.invokespecial ic, 3, _) :: (.athrow, 1, _) :: _ => if (cn, x - 100, ix, ic, si) ∈ thrT ∧ st = [] then some (.inr (.inl (.inr (x - 100), hth h, c + 1, s + 6))) else none
    | _ => none

def okar (ar : List Value) : Prop := ∀ v ∈ ar, v.category = 1
def s_inv (x m pc : Nat) (is : List Ent) (lv : List (Option Value)) (st : List Value) (h : MH) (c s : Nat) : Option Out :=
  if m ≤ st.length ∧ ((st.drop m).map fun v => v.category).sum ≤ 8 ∧ ((st.take m).all fun v => v.category == 1) = true then some (.inr (.inr (x, (st.take m).reverse, (pc, is, lv, st.drop m, h, c, s)))) else none
/-- a call of an object's method: the receiver is an object of class z -/
def s_invO (x y z pc : Nat) (is : List Ent) (lv : List (Option Value)) (st : List Value) (h : MH) (c s : Nat) : Option Out := match st[y]? with
  | some (.ref a) => match h.2.2 a with
    | some (.inl (ci, _)) => if ci = z then s_inv x (y + 1) pc is lv st h c s else none
    | _ => none
  | _ => none
def s_invI (x y pc : Nat) (is : List Ent) (lv : List (Option Value)) (st : List Value) (h : MH) (c s : Nat) : Option Out := match st[y]? with
  | some (.ref _) => if x = 9999 then (match st with
    | .ref _ :: st => if (st.map fun v => v.category).sum ≤ 8 then nx pc is lv st h c s else none
    | _ => none) else s_inv x (y + 1) pc is lv st h c s
  | _ => none
def s_ret (r : Option Value ⊕ Nat) (h : MH) (c s : Nat) : Option Out := some (.inr (.inl (r, h, c, s)))
def s_iret (x : Nat) (st : List Value) (h : MH) (c s : Nat) : Option Out := match st with
  | [.int v] => if x = 0 ∨ v = 0 ∨ v = 1 then s_ret (.inl (some (.int v))) h c s else none
  | _ => none
def s_aret (st : List Value) (h : MH) (c s : Nat) : Option Out := match st with
  | [.ref a] => s_ret (.inl (some (.ref a))) h c s
  | _ => none
def s_vret (st : List Value) (h : MH) (c s : Nat) : Option Out := match st with
  | [] => s_ret (.inl none) h c s
  | _ => none
def stepI (cn : Nat) (i : ClassFile.Instr) (x y z : Nat) (p0 pc : Nat) (is : List Ent) (lv : List (Option Value)) (st : List Value) (h : MH) (c s : Nat) : Option Out := match i with
  | .iload n => s_iload n pc is lv st h c s
  | .iload_n n => s_iload n pc is lv st h c s
  | .aload n => s_aload n pc is lv st h c s
  | .aload_n n => s_aload n pc is lv st h c s
  | .istore n => s_istore n pc is lv st h c s
  | .istore_n n => s_istore n pc is lv st h c s
  | .astore n => s_astore n pc is lv st h c s
  | .astore_n n => s_astore n pc is lv st h c s
  | .iinc n d => s_iinc n d pc is lv st h c s
  | .iconst n => nx pc is lv (.int (Int32.ofInt n) :: st) h c s
  | .bipush n => nx pc is lv (.int (Int8.ofInt n).toInt32 :: st) h c s
  | .sipush n => nx pc is lv (.int (Int16.ofInt n).toInt32 :: st) h c s
  | .iadd => s_bin (· + ·) pc is lv st h c s
  | .isub => s_bin (· - ·) pc is lv st h c s
  | .imul => s_bin (· * ·) pc is lv st h c s
  | .iand => s_bin (· &&& ·) pc is lv st h c s
  | .ishr => s_bin (fun x y => x >>> (y &&& 31)) pc is lv st h c s
  | .idiv => s_div (· / ·) pc is lv st h c s
  | .irem => s_div (fun x y => x - x / y * y) pc is lv st h c s
  | .ineg => s_un (fun x => -x) pc is lv st h c s
  | .i2l => s_i2l pc is lv st h c s
  | .lcmp => s_lcmp pc is lv st h c s
  | .dup => s_dup pc is lv st h c s
  | .ldc ix => s_ldc cn ix p0 pc is lv st h c s
  | .dup2 => s_dup2 pc is lv st h c s
  | .pop => s_pop pc is lv st h c s
  | .if_icmp cd off => s_icmp cd off p0 pc is lv st h c s
  | .ifCond cd off => s_if cd off p0 pc is lv st h c s
  | .goto off => jp p0 off lv st h c s
  | .tableswitch d lo hi offs => s_table d lo hi offs p0 lv st h c s
  | .getfield _ => s_getf x y pc is lv st h c s
  | .putfield _ => s_putf x y z pc is lv st h c s
  | .iaload => s_iald pc is lv st h c s
  | .iastore => s_iast pc is lv st h c s
  | .aaload => s_aald pc is lv st h c s
  | .aastore => s_aast pc is lv st h c s
  | .arraylength => s_alen pc is lv st h c s
  | .newarray t => s_newa t pc is lv st h c s
  | .anewarray _ => s_ana pc is lv st h c s
  | .multianewarray _ _ => s_mna pc is lv st h c s
  | .new ix => s_new cn ix x pc is lv st h c s
  | .invokestatic _ => s_inv x y pc is lv st h c s
  | .invokevirtual _ => s_invO x y z pc is lv st h c s
  | .invokespecial _ => s_invI x y pc is lv st h c s
  | .ireturn => s_iret x st h c s
  | .areturn => s_aret st h c s
  | .return_ => s_vret st h c s
  | _ => none
def step (k : Nat) (g : Cfg) : Option Out := match g with
  | (pc, [], lv, st, h, c, s) => match (m_bl k).lookup pc with
    | some is => nx pc is lv st h c s
    | none => none
  | (pc, (i, len, x, y, z) :: is, lv, st, h, c, s) => stepI (m_cn k) i x y z pc (pc + len) is lv st h c s
/-- where a call at pc goes on that has thrown E -/
def hnd (pc E : Nat) : List (Nat × Nat × Nat × Nat) → Option Nat
  | [] => none
  | q :: hh => if q.1 ≤ pc ∧ pc < q.2.1 then (match ctT.lookup q.2.2.2 with
    | some E' => if E' = E then some q.2.2.1 else hnd pc E hh
    | none => none) else hnd pc E hh
/-- the run of one method's instructions, where C says what the callees do -/
def runR (C : Nat → List Value → MH → Res → Prop) (k : Nat) : Nat → Cfg → Res → Prop
  | 0, _, _ => False
  | f + 1, g, r => match step k g with
    | none => False
    | some (.inl g') => runR C k f g' r
    | some (.inr (.inl r')) => r = r'
    | some (.inr (.inr (x, ar, (pc, is, lv, st, h, c, s)))) => ∃ q, C x ar h q ∧ (match q with
      | (.inl v, h', c', s') => runR C k f (pc, is, lv, v.toList ++ st, h', c + c', s + s') r
      | (.inr E, h', c', s') => match m_hh k with
        | [] => r = (.inr E, h', c + c', s + s')
        | hh => match hnd (pc - 3) E hh with
          | none => False
          | some t => match (m_bl k).lookup t with
            | some ((.astore n, 2, _) :: is') => runR C k f (t + 2, is', lv.set n none, [], h', c + c', s + s') r
            | some ((.astore_n n, 1, _) :: is') => runR C k f (t + 1, is', lv.set n none, [], h', c + c', s + s') r
            | _ => False)
def Rn (C : Nat → List Value → MH → Res → Prop) (k : Nat) (g : Cfg) (r : Res) : Prop := ∃ f, runR C k f g r
def lv0 (n : Nat) (ar : List Value) : List (Option Value) := ar.map some ++ List.replicate (n - ar.length) none
/-- method k, called with these, at depth d: its end -/
def Ev : Nat → Nat → List Value → MH → Res → Prop
  | 0, _, _, _, _ => False
  | d + 1, k, ar, h, r => (ar.length ≤ m_L k ∧ okar ar ∧ ((m_kd k = 2 ∨ m_hh k ≠ []) → ∃ v, r.1 = .inl v) ∧ (∀ E, r.1 = .inr E → 6 ≤ d + 1)) ∧ Rn (Ev d) k (0, [], lv0 (m_L k) ar, [], h, 0, 0) r
