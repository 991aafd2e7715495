theorem c_X10_canPlace1 {d : Nat} {S : MC} {fz : Bool} {m : M1} {p : M2} (hd : 6 ≤ d) (s n cp : Nat) (hP : PI p) (hm : m 262 s = nF n) (hn0 : 1 ≤ n) (hn : n ≤ 8) (hs12 : s ≤ 12) (hcp : m 261 6 = nF cp) (hcpl : cp ≤ 16) (h : n ≤ cp ∧ rk n (kr n (fun z w => m 263 (64 * s + 8 * z + w)) (fun z => m 264 (8 * s + z))) = n) : Ct d k_X10_canPlace S fz [.ref (261), .int (iI (((s : Nat) : Int)))] m p (fun v m' p' => v = some (.int (iI 1)) ∧ p = p' ∧ Fr (fun a_ => 271 ≤ a_ ∧ a_ < 274) m m') := by
  obtain ⟨d, rfl⟩ : ∃ e, d = e + 1 := ⟨d - 1, by omega⟩
  refine ct_go (lv := [some (.ref (261)), some (.int (iI (((s : Nat) : Int))))]) (Nat.le_of_ble_eq_true rfl) (okar_cons rfl (okar_cons rfl okar_nil)) rfl (fun Qr hQ => ?_)
  have hrk := rk_le (n := n) (A := (kr n (fun z w => m 263 (64 * s + 8 * z + w)) (fun z => m 264 (8 * s + z))))
  refine rw_blk lk_X10_canPlace_0 ?_
  refine rw_of (fun rr hrr => q_aload_n rfl (q_getI (show SH 261 = (18, 0) from rfl) rfl (ki rfl hcp (by omega)) (q_aload_n rfl (q_getR (show SH 261 = (18, 0) from rfl) rfl (pt_261_1 hP) (q_iload_n rfl (q_iald (j := s) (show SH 262 = (1, 13) from rfl) rfl (by omega) (ki rfl hm (by omega)) hrr)))))) ?_
  refine rw_icmp_lt ⟨by omega, by omega⟩ ⟨by omega, by omega⟩ (t := 32) rfl (fun hc1 => ?_) (fun hc1 => ?_)
  · skip
    refine rw_blk lk_X10_canPlace_32 ?_
    refine rw_of (fun rr hrr => q_iconst hrr) ?_
    refine rw_blk lk_X10_canPlace_33 ?_
    refine rw_ret hQ (q_ireturn (by omega)) ?_
    first
      | exact ⟨rfl, rfl, Fr_rfl⟩
      | (exfalso; omega)
    
  · skip
    refine rw_of (fun rr hrr => q_aload_n rfl (q_iload_n rfl (q_iconst hrr))) ?_
    obtain ⟨_, mm2, pp3, hV4, rfl, rfl, hF4⟩ := c_X10_rankFor0 (S := S) (fz := fz) (m := m) (p := p) (d := d) (by omega) (s) (n) hP hm (by omega) (by omega) (by omega)
    refine rw_of (fun rr hrr => q_invV hV4 (show SH 261 = (18, 0) from rfl) rfl rfl (okar_cons rfl (okar_cons rfl okar_nil)) (Nat.le_of_ble_eq_true rfl) (q_aload_n rfl (q_getR (show SH 261 = (18, 0) from rfl) rfl (pt_261_1 hP) (q_iload_n rfl (q_iald (j := s) (show SH 262 = (1, 13) from rfl) rfl (by omega) (ki (hF4 262 (by show ¬ (271 ≤ 262 ∧ 262 < 274); omega)) hm (by omega)) hrr))))) ?_
    refine rw_icmp_ne ⟨by omega, by omega⟩ ⟨by omega, by omega⟩ (t := 32) rfl (fun hc5 => ?_) (fun hc5 => ?_)
    · skip
      refine rw_blk lk_X10_canPlace_32 ?_
      refine rw_of (fun rr hrr => q_iconst hrr) ?_
      refine rw_blk lk_X10_canPlace_33 ?_
      refine rw_ret hQ (q_ireturn (by omega)) ?_
      first
        | exact ⟨rfl, rfl, hF4⟩
        | (exfalso; omega)
      
    · skip
      refine rw_of (fun rr hrr => q_iconst (q_goto (t := 33) rfl hrr)) ?_
      refine rw_blk lk_X10_canPlace_33 ?_
      refine rw_ret hQ (q_ireturn (by omega)) ?_
      first
        | exact ⟨rfl, rfl, hF4⟩
        | (exfalso; omega)
      
theorem c_X10_canPlace0 {d : Nat} {S : MC} {fz : Bool} {m : M1} {p : M2} (hd : 6 ≤ d) (s n cp : Nat) (hP : PI p) (hm : m 262 s = nF n) (hn0 : 1 ≤ n) (hn : n ≤ 8) (hs12 : s ≤ 12) (hcp : m 261 6 = nF cp) (hcpl : cp ≤ 16) (h : cp < n ∨ rk n (kr n (fun z w => m 263 (64 * s + 8 * z + w)) (fun z => m 264 (8 * s + z))) ≠ n) : Ct d k_X10_canPlace S fz [.ref (261), .int (iI (((s : Nat) : Int)))] m p (fun v m' p' => v = some (.int (iI 0)) ∧ p = p' ∧ Fr (fun a_ => 271 ≤ a_ ∧ a_ < 274) m m') := by
  obtain ⟨d, rfl⟩ : ∃ e, d = e + 1 := ⟨d - 1, by omega⟩
  refine ct_go (lv := [some (.ref (261)), some (.int (iI (((s : Nat) : Int))))]) (Nat.le_of_ble_eq_true rfl) (okar_cons rfl (okar_cons rfl okar_nil)) rfl (fun Qr hQ => ?_)
  have hrk := rk_le (n := n) (A := (kr n (fun z w => m 263 (64 * s + 8 * z + w)) (fun z => m 264 (8 * s + z))))
  refine rw_blk lk_X10_canPlace_0 ?_
  refine rw_of (fun rr hrr => q_aload_n rfl (q_getI (show SH 261 = (18, 0) from rfl) rfl (ki rfl hcp (by omega)) (q_aload_n rfl (q_getR (show SH 261 = (18, 0) from rfl) rfl (pt_261_1 hP) (q_iload_n rfl (q_iald (j := s) (show SH 262 = (1, 13) from rfl) rfl (by omega) (ki rfl hm (by omega)) hrr)))))) ?_
  refine rw_icmp_lt ⟨by omega, by omega⟩ ⟨by omega, by omega⟩ (t := 32) rfl (fun hc1 => ?_) (fun hc1 => ?_)
  · skip
    refine rw_blk lk_X10_canPlace_32 ?_
    refine rw_of (fun rr hrr => q_iconst hrr) ?_
    refine rw_blk lk_X10_canPlace_33 ?_
    refine rw_ret hQ (q_ireturn (by omega)) ?_
    first
      | exact ⟨rfl, rfl, Fr_rfl⟩
      | (exfalso; omega)
    
  · skip
    refine rw_of (fun rr hrr => q_aload_n rfl (q_iload_n rfl (q_iconst hrr))) ?_
    obtain ⟨_, mm2, pp3, hV4, rfl, rfl, hF4⟩ := c_X10_rankFor0 (S := S) (fz := fz) (m := m) (p := p) (d := d) (by omega) (s) (n) hP hm (by omega) (by omega) (by omega)
    refine rw_of (fun rr hrr => q_invV hV4 (show SH 261 = (18, 0) from rfl) rfl rfl (okar_cons rfl (okar_cons rfl okar_nil)) (Nat.le_of_ble_eq_true rfl) (q_aload_n rfl (q_getR (show SH 261 = (18, 0) from rfl) rfl (pt_261_1 hP) (q_iload_n rfl (q_iald (j := s) (show SH 262 = (1, 13) from rfl) rfl (by omega) (ki (hF4 262 (by show ¬ (271 ≤ 262 ∧ 262 < 274); omega)) hm (by omega)) hrr))))) ?_
    refine rw_icmp_ne ⟨by omega, by omega⟩ ⟨by omega, by omega⟩ (t := 32) rfl (fun hc5 => ?_) (fun hc5 => ?_)
    · skip
      refine rw_blk lk_X10_canPlace_32 ?_
      refine rw_of (fun rr hrr => q_iconst hrr) ?_
      refine rw_blk lk_X10_canPlace_33 ?_
      refine rw_ret hQ (q_ireturn (by omega)) ?_
      first
        | exact ⟨rfl, rfl, hF4⟩
        | (exfalso; omega)
      
    · skip
      refine rw_of (fun rr hrr => q_iconst (q_goto (t := 33) rfl hrr)) ?_
      refine rw_blk lk_X10_canPlace_33 ?_
      refine rw_ret hQ (q_ireturn (by omega)) ?_
      first
        | exact ⟨rfl, rfl, hF4⟩
        | (exfalso; omega)
      
theorem c_X10_canSee1 {d : Nat} {S : MC} {fz : Bool} {m : M1} {p : M2} (hd : 6 ≤ d) (s n cp : Nat) (hP : PI p) (hm : m 262 s = nF n) (hn0 : 1 ≤ n) (hn : n ≤ 8) (hs12 : s ≤ 12) (hcp : m 261 6 = nF cp) (hcpl : cp ≤ 16) (h : 2 * n ≤ cp ∧ rk n (kr n (fun z w => m 263 (64 * s + 8 * w + z)) (fun z => m 265 (8 * s + z))) = n) : Ct d k_X10_canSee S fz [.ref (261), .int (iI (((s : Nat) : Int)))] m p (fun v m' p' => v = some (.int (iI 1)) ∧ p = p' ∧ Fr (fun a_ => 271 ≤ a_ ∧ a_ < 274) m m') := by
  obtain ⟨d, rfl⟩ : ∃ e, d = e + 1 := ⟨d - 1, by omega⟩
  refine ct_go (lv := [some (.ref (261)), some (.int (iI (((s : Nat) : Int))))]) (Nat.le_of_ble_eq_true rfl) (okar_cons rfl (okar_cons rfl okar_nil)) rfl (fun Qr hQ => ?_)
  have hrk := rk_le (n := n) (A := (kr n (fun z w => m 263 (64 * s + 8 * w + z)) (fun z => m 265 (8 * s + z))))
  refine rw_blk lk_X10_canSee_0 ?_
  refine rw_of (fun rr hrr => q_aload_n rfl (q_getI (show SH 261 = (18, 0) from rfl) rfl (ki rfl hcp (by omega)) (q_iconst (q_aload_n rfl (q_getR (show SH 261 = (18, 0) from rfl) rfl (pt_261_1 hP) (q_iload_n rfl (q_iald (j := s) (show SH 262 = (1, 13) from rfl) rfl (by omega) (ki rfl hm (by omega)) (q_imul hrr)))))))) ?_
  refine rw_icmp_lt ⟨by omega, by omega⟩ ⟨by omega, by omega⟩ (t := 34) rfl (fun hc1 => ?_) (fun hc1 => ?_)
  · skip
    refine rw_blk lk_X10_canSee_34 ?_
    refine rw_of (fun rr hrr => q_iconst hrr) ?_
    refine rw_blk lk_X10_canSee_35 ?_
    refine rw_ret hQ (q_ireturn (by omega)) ?_
    first
      | exact ⟨rfl, rfl, Fr_rfl⟩
      | (exfalso; omega)
    
  · skip
    refine rw_of (fun rr hrr => q_aload_n rfl (q_iload_n rfl (q_iconst hrr))) ?_
    obtain ⟨_, mm2, pp3, hV4, rfl, rfl, hF4⟩ := c_X10_rankFor1 (S := S) (fz := fz) (m := m) (p := p) (d := d) (by omega) (s) (n) hP hm (by omega) (by omega) (by omega)
    refine rw_of (fun rr hrr => q_invV hV4 (show SH 261 = (18, 0) from rfl) rfl rfl (okar_cons rfl (okar_cons rfl okar_nil)) (Nat.le_of_ble_eq_true rfl) (q_aload_n rfl (q_getR (show SH 261 = (18, 0) from rfl) rfl (pt_261_1 hP) (q_iload_n rfl (q_iald (j := s) (show SH 262 = (1, 13) from rfl) rfl (by omega) (ki (hF4 262 (by show ¬ (271 ≤ 262 ∧ 262 < 274); omega)) hm (by omega)) hrr))))) ?_
    refine rw_icmp_ne ⟨by omega, by omega⟩ ⟨by omega, by omega⟩ (t := 34) rfl (fun hc5 => ?_) (fun hc5 => ?_)
    · skip
      refine rw_blk lk_X10_canSee_34 ?_
      refine rw_of (fun rr hrr => q_iconst hrr) ?_
      refine rw_blk lk_X10_canSee_35 ?_
      refine rw_ret hQ (q_ireturn (by omega)) ?_
      first
        | exact ⟨rfl, rfl, hF4⟩
        | (exfalso; omega)
      
    · skip
      refine rw_of (fun rr hrr => q_iconst (q_goto (t := 35) rfl hrr)) ?_
      refine rw_blk lk_X10_canSee_35 ?_
      refine rw_ret hQ (q_ireturn (by omega)) ?_
      first
        | exact ⟨rfl, rfl, hF4⟩
        | (exfalso; omega)
      
theorem c_X10_canSee0 {d : Nat} {S : MC} {fz : Bool} {m : M1} {p : M2} (hd : 6 ≤ d) (s n cp : Nat) (hP : PI p) (hm : m 262 s = nF n) (hn0 : 1 ≤ n) (hn : n ≤ 8) (hs12 : s ≤ 12) (hcp : m 261 6 = nF cp) (hcpl : cp ≤ 16) (h : cp < 2 * n ∨ rk n (kr n (fun z w => m 263 (64 * s + 8 * w + z)) (fun z => m 265 (8 * s + z))) ≠ n) : Ct d k_X10_canSee S fz [.ref (261), .int (iI (((s : Nat) : Int)))] m p (fun v m' p' => v = some (.int (iI 0)) ∧ p = p' ∧ Fr (fun a_ => 271 ≤ a_ ∧ a_ < 274) m m') := by
  obtain ⟨d, rfl⟩ : ∃ e, d = e + 1 := ⟨d - 1, by omega⟩
  refine ct_go (lv := [some (.ref (261)), some (.int (iI (((s : Nat) : Int))))]) (Nat.le_of_ble_eq_true rfl) (okar_cons rfl (okar_cons rfl okar_nil)) rfl (fun Qr hQ => ?_)
  have hrk := rk_le (n := n) (A := (kr n (fun z w => m 263 (64 * s + 8 * w + z)) (fun z => m 265 (8 * s + z))))
  refine rw_blk lk_X10_canSee_0 ?_
  refine rw_of (fun rr hrr => q_aload_n rfl (q_getI (show SH 261 = (18, 0) from rfl) rfl (ki rfl hcp (by omega)) (q_iconst (q_aload_n rfl (q_getR (show SH 261 = (18, 0) from rfl) rfl (pt_261_1 hP) (q_iload_n rfl (q_iald (j := s) (show SH 262 = (1, 13) from rfl) rfl (by omega) (ki rfl hm (by omega)) (q_imul hrr)))))))) ?_
  refine rw_icmp_lt ⟨by omega, by omega⟩ ⟨by omega, by omega⟩ (t := 34) rfl (fun hc1 => ?_) (fun hc1 => ?_)
  · skip
    refine rw_blk lk_X10_canSee_34 ?_
    refine rw_of (fun rr hrr => q_iconst hrr) ?_
    refine rw_blk lk_X10_canSee_35 ?_
    refine rw_ret hQ (q_ireturn (by omega)) ?_
    first
      | exact ⟨rfl, rfl, Fr_rfl⟩
      | (exfalso; omega)
    
  · skip
    refine rw_of (fun rr hrr => q_aload_n rfl (q_iload_n rfl (q_iconst hrr))) ?_
    obtain ⟨_, mm2, pp3, hV4, rfl, rfl, hF4⟩ := c_X10_rankFor1 (S := S) (fz := fz) (m := m) (p := p) (d := d) (by omega) (s) (n) hP hm (by omega) (by omega) (by omega)
    refine rw_of (fun rr hrr => q_invV hV4 (show SH 261 = (18, 0) from rfl) rfl rfl (okar_cons rfl (okar_cons rfl okar_nil)) (Nat.le_of_ble_eq_true rfl) (q_aload_n rfl (q_getR (show SH 261 = (18, 0) from rfl) rfl (pt_261_1 hP) (q_iload_n rfl (q_iald (j := s) (show SH 262 = (1, 13) from rfl) rfl (by omega) (ki (hF4 262 (by show ¬ (271 ≤ 262 ∧ 262 < 274); omega)) hm (by omega)) hrr))))) ?_
    refine rw_icmp_ne ⟨by omega, by omega⟩ ⟨by omega, by omega⟩ (t := 34) rfl (fun hc5 => ?_) (fun hc5 => ?_)
    · skip
      refine rw_blk lk_X10_canSee_34 ?_
      refine rw_of (fun rr hrr => q_iconst hrr) ?_
      refine rw_blk lk_X10_canSee_35 ?_
      refine rw_ret hQ (q_ireturn (by omega)) ?_
      first
        | exact ⟨rfl, rfl, hF4⟩
        | (exfalso; omega)
      
    · skip
      refine rw_of (fun rr hrr => q_iconst (q_goto (t := 35) rfl hrr)) ?_
      refine rw_blk lk_X10_canSee_35 ?_
      refine rw_ret hQ (q_ireturn (by omega)) ?_
      first
        | exact ⟨rfl, rfl, hF4⟩
        | (exfalso; omega)
      
