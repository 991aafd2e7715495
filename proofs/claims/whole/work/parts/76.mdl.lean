theorem c_X10_isPlace0_11 {d : Nat} {S : MC} {fz : Bool} {m : M1} {p : M2} (hd : 3 ≤ d) (s k n : Nat) (i j : Int) (hP : PI p) (hk : m 261 0 = nF k) (hk12 : k ≤ 12) (hsk : s < k) (hm : m 262 s = nF n) (hn0 : 1 ≤ n) (hn : n ≤ 8) (hri : (-2147483648 ≤ i ∧ i < 2147483648)) (hrj : (-2147483648 ≤ j ∧ j < 2147483648)) (hi : 0 ≤ i ∧ i < n) (hj : 0 ≤ j ∧ j < n) : Ct d k_X10_isPlace S fz [.ref (261), .int (iI (((s : Nat) : Int))), .int (iI (0)), .int (iI (i)), .int (iI (j))] m p (fun v m' p' => v = some (.int (iI (1))) ∧ m = m' ∧ p = p') := by
  obtain ⟨d, rfl⟩ : ∃ e, d = e + 1 := ⟨d - 1, by omega⟩
  refine ct_go (lv := [some (.ref (261)), some (.int (iI (((s : Nat) : Int)))), some (.int (iI (0))), some (.int (iI (i))), some (.int (iI (j))), none, none]) (Nat.le_of_ble_eq_true rfl) (okar_cons rfl (okar_cons rfl (okar_cons rfl (okar_cons rfl (okar_cons rfl okar_nil))))) rfl (fun Qr hQ => ?_)
  refine rw_blk lk_X10_isPlace_0 ?_
  refine rw_of (fun rr hrr => q_aload_n rfl (q_iload_n rfl hrr)) ?_
  obtain ⟨_, mm1, pp2, hV3, rfl, rfl, rfl⟩ := c_X10_isSystem1 (S := S) (fz := fz) (m := m) (p := p) (d := d) (by omega) (((s : Nat) : Int)) (k) hP hk (by omega) (by omega) (by omega)
  refine rw_of (fun rr hrr => q_invV hV3 (show SH 261 = (18, 0) from rfl) rfl rfl (okar_cons rfl okar_nil) (Nat.le_of_ble_eq_true rfl) hrr) ?_
  refine rw_if_eq ⟨by omega, by omega⟩ (t := 17) rfl (fun hc4 => ?_) (fun hc4 => ?_)
  · skip
    refine rw_blk lk_X10_isPlace_17 ?_
    refine rw_of (fun rr hrr => q_iconst hrr) ?_
    refine rw_ret hQ (q_ireturn (by omega)) ?_
    first
      | exact ⟨rfl, rfl, rfl⟩
      | (exfalso; omega)
    
  · skip
    refine rw_of (fun rr hrr => q_iload_n rfl (q_iconst (q_iconst hrr))) ?_
    obtain ⟨_, mm5, pp6, hV7, rfl, rfl, rfl⟩ := c_X10_isIn1 (S := S) (fz := fz) (m := m) (p := p) (d := d) (by omega) (0) (0) (3) (by omega) (by omega) (by omega)
    refine rw_of (fun rr hrr => q_invS hV7 rfl rfl (okar_cons rfl (okar_cons rfl (okar_cons rfl okar_nil))) (Nat.le_of_ble_eq_true rfl) hrr) ?_
    refine rw_if_ne ⟨by omega, by omega⟩ (t := 19) rfl (fun hc8 => ?_) (fun hc8 => ?_)
    · skip
      refine rw_blk lk_X10_isPlace_19 ?_
      refine rw_of (fun rr hrr => q_iload_n rfl (q_iconst hrr)) ?_
      refine rw_icmp_eq ⟨by omega, by omega⟩ ⟨by omega, by omega⟩ (t := 45) rfl (fun hc9 => ?_) (fun hc9 => ?_)
      · skip
        refine rw_blk lk_X10_isPlace_45 ?_
        refine rw_of (fun rr hrr => q_iconst (q_goto (t := 50) rfl hrr)) ?_
        refine rw_blk lk_X10_isPlace_50 ?_
        refine rw_of (fun rr hrr => q_istore (Nat.le_of_ble_eq_true rfl) rfl (q_iload_n rfl (q_iconst hrr))) ?_
        refine rw_icmp_eq ⟨by omega, by omega⟩ ⟨by omega, by omega⟩ (t := 79) rfl (fun hc10 => ?_) (fun hc10 => ?_)
        · skip
          refine rw_blk lk_X10_isPlace_79 ?_
          refine rw_of (fun rr hrr => q_iconst (q_goto (t := 84) rfl hrr)) ?_
          refine rw_blk lk_X10_isPlace_84 ?_
          refine rw_of (fun rr hrr => q_istore (Nat.le_of_ble_eq_true rfl) rfl (q_iload rfl hrr)) ?_
          refine rw_if_eq ⟨by omega, by omega⟩ (t := 100) rfl (fun hc11 => ?_) (fun hc11 => ?_)
          · skip
            refine rw_blk lk_X10_isPlace_100 ?_
            refine rw_of (fun rr hrr => q_iconst hrr) ?_
            refine rw_blk lk_X10_isPlace_101 ?_
            refine rw_ret hQ (q_ireturn (by omega)) ?_
            first
              | exact ⟨rfl, rfl, rfl⟩
              | (exfalso; omega)
            
          · skip
            refine rw_of (fun rr hrr => q_iload rfl hrr) ?_
            refine rw_if_eq ⟨by omega, by omega⟩ (t := 100) rfl (fun hc12 => ?_) (fun hc12 => ?_)
            · skip
              refine rw_blk lk_X10_isPlace_100 ?_
              refine rw_of (fun rr hrr => q_iconst hrr) ?_
              refine rw_blk lk_X10_isPlace_101 ?_
              refine rw_ret hQ (q_ireturn (by omega)) ?_
              first
                | exact ⟨rfl, rfl, rfl⟩
                | (exfalso; omega)
              
            · skip
              refine rw_of (fun rr hrr => q_iconst (q_goto (t := 101) rfl hrr)) ?_
              refine rw_blk lk_X10_isPlace_101 ?_
              refine rw_ret hQ (q_ireturn (by omega)) ?_
              first
                | exact ⟨rfl, rfl, rfl⟩
                | (exfalso; omega)
              
        · skip
          refine rw_of (fun rr hrr => q_iload_n rfl (q_iconst hrr)) ?_
          refine rw_icmp_eq ⟨by omega, by omega⟩ ⟨by omega, by omega⟩ (t := 79) rfl (fun hc13 => ?_) (fun hc13 => ?_)
          · skip
            refine rw_blk lk_X10_isPlace_79 ?_
            refine rw_of (fun rr hrr => q_iconst (q_goto (t := 84) rfl hrr)) ?_
            refine rw_blk lk_X10_isPlace_84 ?_
            refine rw_of (fun rr hrr => q_istore (Nat.le_of_ble_eq_true rfl) rfl (q_iload rfl hrr)) ?_
            refine rw_if_eq ⟨by omega, by omega⟩ (t := 100) rfl (fun hc14 => ?_) (fun hc14 => ?_)
            · skip
              refine rw_blk lk_X10_isPlace_100 ?_
              refine rw_of (fun rr hrr => q_iconst hrr) ?_
              refine rw_blk lk_X10_isPlace_101 ?_
              refine rw_ret hQ (q_ireturn (by omega)) ?_
              first
                | exact ⟨rfl, rfl, rfl⟩
                | (exfalso; omega)
              
            · skip
              refine rw_of (fun rr hrr => q_iload rfl hrr) ?_
              refine rw_if_eq ⟨by omega, by omega⟩ (t := 100) rfl (fun hc15 => ?_) (fun hc15 => ?_)
              · skip
                refine rw_blk lk_X10_isPlace_100 ?_
                refine rw_of (fun rr hrr => q_iconst hrr) ?_
                refine rw_blk lk_X10_isPlace_101 ?_
                refine rw_ret hQ (q_ireturn (by omega)) ?_
                first
                  | exact ⟨rfl, rfl, rfl⟩
                  | (exfalso; omega)
                
              · skip
                refine rw_of (fun rr hrr => q_iconst (q_goto (t := 101) rfl hrr)) ?_
                refine rw_blk lk_X10_isPlace_101 ?_
                refine rw_ret hQ (q_ireturn (by omega)) ?_
                first
                  | exact ⟨rfl, rfl, rfl⟩
                  | (exfalso; omega)
                
          · skip
            refine rw_of (fun rr hrr => q_iload rfl (q_iconst (q_aload_n rfl (q_getR (show SH 261 = (18, 0) from rfl) rfl (pt_261_1 hP) (q_iload_n rfl (q_iald (j := s) (show SH 262 = (1, 13) from rfl) rfl (by omega) (ki rfl hm (by omega)) (q_iconst (q_isub hrr)))))))) ?_
            obtain ⟨_, mm16, pp17, hV18, rfl, rfl, rfl⟩ := c_X10_isIn1 (S := S) (fz := fz) (m := m) (p := p) (d := d) (by omega) (j) (0) ((((n : Nat) : Int) - 1)) (by omega) (by omega) (by omega)
            refine rw_of (fun rr hrr => q_invS hV18 rfl rfl (okar_cons rfl (okar_cons rfl (okar_cons rfl okar_nil))) (Nat.le_of_ble_eq_true rfl) hrr) ?_
            refine rw_if_eq ⟨by omega, by omega⟩ (t := 83) rfl (fun hc19 => ?_) (fun hc19 => ?_)
            · skip
              refine rw_blk lk_X10_isPlace_83 ?_
              refine rw_of (fun rr hrr => q_iconst hrr) ?_
              refine rw_blk lk_X10_isPlace_84 ?_
              refine rw_of (fun rr hrr => q_istore (Nat.le_of_ble_eq_true rfl) rfl (q_iload rfl hrr)) ?_
              refine rw_if_eq ⟨by omega, by omega⟩ (t := 100) rfl (fun hc20 => ?_) (fun hc20 => ?_)
              · skip
                refine rw_blk lk_X10_isPlace_100 ?_
                refine rw_of (fun rr hrr => q_iconst hrr) ?_
                refine rw_blk lk_X10_isPlace_101 ?_
                refine rw_ret hQ (q_ireturn (by omega)) ?_
                first
                  | exact ⟨rfl, rfl, rfl⟩
                  | (exfalso; omega)
                
              · skip
                refine rw_of (fun rr hrr => q_iload rfl hrr) ?_
                refine rw_if_eq ⟨by omega, by omega⟩ (t := 100) rfl (fun hc21 => ?_) (fun hc21 => ?_)
                · skip
                  refine rw_blk lk_X10_isPlace_100 ?_
                  refine rw_of (fun rr hrr => q_iconst hrr) ?_
                  refine rw_blk lk_X10_isPlace_101 ?_
                  refine rw_ret hQ (q_ireturn (by omega)) ?_
                  first
                    | exact ⟨rfl, rfl, rfl⟩
                    | (exfalso; omega)
                  
                · skip
                  refine rw_of (fun rr hrr => q_iconst (q_goto (t := 101) rfl hrr)) ?_
                  refine rw_blk lk_X10_isPlace_101 ?_
                  refine rw_ret hQ (q_ireturn (by omega)) ?_
                  first
                    | exact ⟨rfl, rfl, rfl⟩
                    | (exfalso; omega)
                  
            · skip
              refine rw_blk lk_X10_isPlace_79 ?_
              refine rw_of (fun rr hrr => q_iconst (q_goto (t := 84) rfl hrr)) ?_
              refine rw_blk lk_X10_isPlace_84 ?_
              refine rw_of (fun rr hrr => q_istore (Nat.le_of_ble_eq_true rfl) rfl (q_iload rfl hrr)) ?_
              refine rw_if_eq ⟨by omega, by omega⟩ (t := 100) rfl (fun hc22 => ?_) (fun hc22 => ?_)
              · skip
                refine rw_blk lk_X10_isPlace_100 ?_
                refine rw_of (fun rr hrr => q_iconst hrr) ?_
                refine rw_blk lk_X10_isPlace_101 ?_
                refine rw_ret hQ (q_ireturn (by omega)) ?_
                first
                  | exact ⟨rfl, rfl, rfl⟩
                  | (exfalso; omega)
                
              · skip
                refine rw_of (fun rr hrr => q_iload rfl hrr) ?_
                refine rw_if_eq ⟨by omega, by omega⟩ (t := 100) rfl (fun hc23 => ?_) (fun hc23 => ?_)
                · skip
                  refine rw_blk lk_X10_isPlace_100 ?_
                  refine rw_of (fun rr hrr => q_iconst hrr) ?_
                  refine rw_blk lk_X10_isPlace_101 ?_
                  refine rw_ret hQ (q_ireturn (by omega)) ?_
                  first
                    | exact ⟨rfl, rfl, rfl⟩
                    | (exfalso; omega)
                  
                · skip
                  refine rw_of (fun rr hrr => q_iconst (q_goto (t := 101) rfl hrr)) ?_
                  refine rw_blk lk_X10_isPlace_101 ?_
                  refine rw_ret hQ (q_ireturn (by omega)) ?_
                  first
                    | exact ⟨rfl, rfl, rfl⟩
                    | (exfalso; omega)
                  
      · skip
        refine rw_of (fun rr hrr => q_iload_n rfl (q_iconst hrr)) ?_
        refine rw_icmp_eq ⟨by omega, by omega⟩ ⟨by omega, by omega⟩ (t := 45) rfl (fun hc24 => ?_) (fun hc24 => ?_)
        · skip
          refine rw_blk lk_X10_isPlace_45 ?_
          refine rw_of (fun rr hrr => q_iconst (q_goto (t := 50) rfl hrr)) ?_
          refine rw_blk lk_X10_isPlace_50 ?_
          refine rw_of (fun rr hrr => q_istore (Nat.le_of_ble_eq_true rfl) rfl (q_iload_n rfl (q_iconst hrr))) ?_
          refine rw_icmp_eq ⟨by omega, by omega⟩ ⟨by omega, by omega⟩ (t := 79) rfl (fun hc25 => ?_) (fun hc25 => ?_)
          · skip
            refine rw_blk lk_X10_isPlace_79 ?_
            refine rw_of (fun rr hrr => q_iconst (q_goto (t := 84) rfl hrr)) ?_
            refine rw_blk lk_X10_isPlace_84 ?_
            refine rw_of (fun rr hrr => q_istore (Nat.le_of_ble_eq_true rfl) rfl (q_iload rfl hrr)) ?_
            refine rw_if_eq ⟨by omega, by omega⟩ (t := 100) rfl (fun hc26 => ?_) (fun hc26 => ?_)
            · skip
              refine rw_blk lk_X10_isPlace_100 ?_
              refine rw_of (fun rr hrr => q_iconst hrr) ?_
              refine rw_blk lk_X10_isPlace_101 ?_
              refine rw_ret hQ (q_ireturn (by omega)) ?_
              first
                | exact ⟨rfl, rfl, rfl⟩
                | (exfalso; omega)
              
            · skip
              refine rw_of (fun rr hrr => q_iload rfl hrr) ?_
              refine rw_if_eq ⟨by omega, by omega⟩ (t := 100) rfl (fun hc27 => ?_) (fun hc27 => ?_)
              · skip
                refine rw_blk lk_X10_isPlace_100 ?_
                refine rw_of (fun rr hrr => q_iconst hrr) ?_
                refine rw_blk lk_X10_isPlace_101 ?_
                refine rw_ret hQ (q_ireturn (by omega)) ?_
                first
                  | exact ⟨rfl, rfl, rfl⟩
                  | (exfalso; omega)
                
              · skip
                refine rw_of (fun rr hrr => q_iconst (q_goto (t := 101) rfl hrr)) ?_
                refine rw_blk lk_X10_isPlace_101 ?_
                refine rw_ret hQ (q_ireturn (by omega)) ?_
                first
                  | exact ⟨rfl, rfl, rfl⟩
                  | (exfalso; omega)
                
          · skip
            refine rw_of (fun rr hrr => q_iload_n rfl (q_iconst hrr)) ?_
            refine rw_icmp_eq ⟨by omega, by omega⟩ ⟨by omega, by omega⟩ (t := 79) rfl (fun hc28 => ?_) (fun hc28 => ?_)
            · skip
              refine rw_blk lk_X10_isPlace_79 ?_
              refine rw_of (fun rr hrr => q_iconst (q_goto (t := 84) rfl hrr)) ?_
              refine rw_blk lk_X10_isPlace_84 ?_
              refine rw_of (fun rr hrr => q_istore (Nat.le_of_ble_eq_true rfl) rfl (q_iload rfl hrr)) ?_
              refine rw_if_eq ⟨by omega, by omega⟩ (t := 100) rfl (fun hc29 => ?_) (fun hc29 => ?_)
              · skip
                refine rw_blk lk_X10_isPlace_100 ?_
                refine rw_of (fun rr hrr => q_iconst hrr) ?_
                refine rw_blk lk_X10_isPlace_101 ?_
                refine rw_ret hQ (q_ireturn (by omega)) ?_
                first
                  | exact ⟨rfl, rfl, rfl⟩
                  | (exfalso; omega)
                
              · skip
                refine rw_of (fun rr hrr => q_iload rfl hrr) ?_
                refine rw_if_eq ⟨by omega, by omega⟩ (t := 100) rfl (fun hc30 => ?_) (fun hc30 => ?_)
                · skip
                  refine rw_blk lk_X10_isPlace_100 ?_
                  refine rw_of (fun rr hrr => q_iconst hrr) ?_
                  refine rw_blk lk_X10_isPlace_101 ?_
                  refine rw_ret hQ (q_ireturn (by omega)) ?_
                  first
                    | exact ⟨rfl, rfl, rfl⟩
                    | (exfalso; omega)
                  
                · skip
                  refine rw_of (fun rr hrr => q_iconst (q_goto (t := 101) rfl hrr)) ?_
                  refine rw_blk lk_X10_isPlace_101 ?_
                  refine rw_ret hQ (q_ireturn (by omega)) ?_
                  first
                    | exact ⟨rfl, rfl, rfl⟩
                    | (exfalso; omega)
                  
            · skip
              refine rw_of (fun rr hrr => q_iload rfl (q_iconst (q_aload_n rfl (q_getR (show SH 261 = (18, 0) from rfl) rfl (pt_261_1 hP) (q_iload_n rfl (q_iald (j := s) (show SH 262 = (1, 13) from rfl) rfl (by omega) (ki rfl hm (by omega)) (q_iconst (q_isub hrr)))))))) ?_
              obtain ⟨_, mm31, pp32, hV33, rfl, rfl, rfl⟩ := c_X10_isIn1 (S := S) (fz := fz) (m := m) (p := p) (d := d) (by omega) (j) (0) ((((n : Nat) : Int) - 1)) (by omega) (by omega) (by omega)
              refine rw_of (fun rr hrr => q_invS hV33 rfl rfl (okar_cons rfl (okar_cons rfl (okar_cons rfl okar_nil))) (Nat.le_of_ble_eq_true rfl) hrr) ?_
              refine rw_if_eq ⟨by omega, by omega⟩ (t := 83) rfl (fun hc34 => ?_) (fun hc34 => ?_)
              · skip
                refine rw_blk lk_X10_isPlace_83 ?_
                refine rw_of (fun rr hrr => q_iconst hrr) ?_
                refine rw_blk lk_X10_isPlace_84 ?_
                refine rw_of (fun rr hrr => q_istore (Nat.le_of_ble_eq_true rfl) rfl (q_iload rfl hrr)) ?_
                refine rw_if_eq ⟨by omega, by omega⟩ (t := 100) rfl (fun hc35 => ?_) (fun hc35 => ?_)
                · skip
                  refine rw_blk lk_X10_isPlace_100 ?_
                  refine rw_of (fun rr hrr => q_iconst hrr) ?_
                  refine rw_blk lk_X10_isPlace_101 ?_
                  refine rw_ret hQ (q_ireturn (by omega)) ?_
                  first
                    | exact ⟨rfl, rfl, rfl⟩
                    | (exfalso; omega)
                  
                · skip
                  refine rw_of (fun rr hrr => q_iload rfl hrr) ?_
                  refine rw_if_eq ⟨by omega, by omega⟩ (t := 100) rfl (fun hc36 => ?_) (fun hc36 => ?_)
                  · skip
                    refine rw_blk lk_X10_isPlace_100 ?_
                    refine rw_of (fun rr hrr => q_iconst hrr) ?_
                    refine rw_blk lk_X10_isPlace_101 ?_
                    refine rw_ret hQ (q_ireturn (by omega)) ?_
                    first
                      | exact ⟨rfl, rfl, rfl⟩
                      | (exfalso; omega)
                    
                  · skip
                    refine rw_of (fun rr hrr => q_iconst (q_goto (t := 101) rfl hrr)) ?_
                    refine rw_blk lk_X10_isPlace_101 ?_
                    refine rw_ret hQ (q_ireturn (by omega)) ?_
                    first
                      | exact ⟨rfl, rfl, rfl⟩
                      | (exfalso; omega)
                    
              · skip
                refine rw_blk lk_X10_isPlace_79 ?_
                refine rw_of (fun rr hrr => q_iconst (q_goto (t := 84) rfl hrr)) ?_
                refine rw_blk lk_X10_isPlace_84 ?_
                refine rw_of (fun rr hrr => q_istore (Nat.le_of_ble_eq_true rfl) rfl (q_iload rfl hrr)) ?_
                refine rw_if_eq ⟨by omega, by omega⟩ (t := 100) rfl (fun hc37 => ?_) (fun hc37 => ?_)
                · skip
                  refine rw_blk lk_X10_isPlace_100 ?_
                  refine rw_of (fun rr hrr => q_iconst hrr) ?_
                  refine rw_blk lk_X10_isPlace_101 ?_
                  refine rw_ret hQ (q_ireturn (by omega)) ?_
                  first
                    | exact ⟨rfl, rfl, rfl⟩
                    | (exfalso; omega)
                  
                · skip
                  refine rw_of (fun rr hrr => q_iload rfl hrr) ?_
                  refine rw_if_eq ⟨by omega, by omega⟩ (t := 100) rfl (fun hc38 => ?_) (fun hc38 => ?_)
                  · skip
                    refine rw_blk lk_X10_isPlace_100 ?_
                    refine rw_of (fun rr hrr => q_iconst hrr) ?_
                    refine rw_blk lk_X10_isPlace_101 ?_
                    refine rw_ret hQ (q_ireturn (by omega)) ?_
                    first
                      | exact ⟨rfl, rfl, rfl⟩
                      | (exfalso; omega)
                    
                  · skip
                    refine rw_of (fun rr hrr => q_iconst (q_goto (t := 101) rfl hrr)) ?_
                    refine rw_blk lk_X10_isPlace_101 ?_
                    refine rw_ret hQ (q_ireturn (by omega)) ?_
                    first
                      | exact ⟨rfl, rfl, rfl⟩
                      | (exfalso; omega)
                    
        · skip
          refine rw_of (fun rr hrr => q_iload_n rfl (q_iconst (q_aload_n rfl (q_getR (show SH 261 = (18, 0) from rfl) rfl (pt_261_1 hP) (q_iload_n rfl (q_iald (j := s) (show SH 262 = (1, 13) from rfl) rfl (by omega) (ki rfl hm (by omega)) (q_iconst (q_isub hrr)))))))) ?_
          obtain ⟨_, mm39, pp40, hV41, rfl, rfl, rfl⟩ := c_X10_isIn1 (S := S) (fz := fz) (m := m) (p := p) (d := d) (by omega) (i) (0) ((((n : Nat) : Int) - 1)) (by omega) (by omega) (by omega)
          refine rw_of (fun rr hrr => q_invS hV41 rfl rfl (okar_cons rfl (okar_cons rfl (okar_cons rfl okar_nil))) (Nat.le_of_ble_eq_true rfl) hrr) ?_
          refine rw_if_eq ⟨by omega, by omega⟩ (t := 49) rfl (fun hc42 => ?_) (fun hc42 => ?_)
          · skip
            refine rw_blk lk_X10_isPlace_49 ?_
            refine rw_of (fun rr hrr => q_iconst hrr) ?_
            refine rw_blk lk_X10_isPlace_50 ?_
            refine rw_of (fun rr hrr => q_istore (Nat.le_of_ble_eq_true rfl) rfl (q_iload_n rfl (q_iconst hrr))) ?_
            refine rw_icmp_eq ⟨by omega, by omega⟩ ⟨by omega, by omega⟩ (t := 79) rfl (fun hc43 => ?_) (fun hc43 => ?_)
            · skip
              refine rw_blk lk_X10_isPlace_79 ?_
              refine rw_of (fun rr hrr => q_iconst (q_goto (t := 84) rfl hrr)) ?_
              refine rw_blk lk_X10_isPlace_84 ?_
              refine rw_of (fun rr hrr => q_istore (Nat.le_of_ble_eq_true rfl) rfl (q_iload rfl hrr)) ?_
              refine rw_if_eq ⟨by omega, by omega⟩ (t := 100) rfl (fun hc44 => ?_) (fun hc44 => ?_)
              · skip
                refine rw_blk lk_X10_isPlace_100 ?_
                refine rw_of (fun rr hrr => q_iconst hrr) ?_
                refine rw_blk lk_X10_isPlace_101 ?_
                refine rw_ret hQ (q_ireturn (by omega)) ?_
                first
                  | exact ⟨rfl, rfl, rfl⟩
                  | (exfalso; omega)
                
              · skip
                refine rw_of (fun rr hrr => q_iload rfl hrr) ?_
                refine rw_if_eq ⟨by omega, by omega⟩ (t := 100) rfl (fun hc45 => ?_) (fun hc45 => ?_)
                · skip
                  refine rw_blk lk_X10_isPlace_100 ?_
                  refine rw_of (fun rr hrr => q_iconst hrr) ?_
                  refine rw_blk lk_X10_isPlace_101 ?_
                  refine rw_ret hQ (q_ireturn (by omega)) ?_
                  first
                    | exact ⟨rfl, rfl, rfl⟩
                    | (exfalso; omega)
                  
                · skip
                  refine rw_of (fun rr hrr => q_iconst (q_goto (t := 101) rfl hrr)) ?_
                  refine rw_blk lk_X10_isPlace_101 ?_
                  refine rw_ret hQ (q_ireturn (by omega)) ?_
                  first
                    | exact ⟨rfl, rfl, rfl⟩
                    | (exfalso; omega)
                  
            · skip
              refine rw_of (fun rr hrr => q_iload_n rfl (q_iconst hrr)) ?_
              refine rw_icmp_eq ⟨by omega, by omega⟩ ⟨by omega, by omega⟩ (t := 79) rfl (fun hc46 => ?_) (fun hc46 => ?_)
              · skip
                refine rw_blk lk_X10_isPlace_79 ?_
                refine rw_of (fun rr hrr => q_iconst (q_goto (t := 84) rfl hrr)) ?_
                refine rw_blk lk_X10_isPlace_84 ?_
                refine rw_of (fun rr hrr => q_istore (Nat.le_of_ble_eq_true rfl) rfl (q_iload rfl hrr)) ?_
                refine rw_if_eq ⟨by omega, by omega⟩ (t := 100) rfl (fun hc47 => ?_) (fun hc47 => ?_)
                · skip
                  refine rw_blk lk_X10_isPlace_100 ?_
                  refine rw_of (fun rr hrr => q_iconst hrr) ?_
                  refine rw_blk lk_X10_isPlace_101 ?_
                  refine rw_ret hQ (q_ireturn (by omega)) ?_
                  first
                    | exact ⟨rfl, rfl, rfl⟩
                    | (exfalso; omega)
                  
                · skip
                  refine rw_of (fun rr hrr => q_iload rfl hrr) ?_
                  refine rw_if_eq ⟨by omega, by omega⟩ (t := 100) rfl (fun hc48 => ?_) (fun hc48 => ?_)
                  · skip
                    refine rw_blk lk_X10_isPlace_100 ?_
                    refine rw_of (fun rr hrr => q_iconst hrr) ?_
                    refine rw_blk lk_X10_isPlace_101 ?_
                    refine rw_ret hQ (q_ireturn (by omega)) ?_
                    first
                      | exact ⟨rfl, rfl, rfl⟩
                      | (exfalso; omega)
                    
                  · skip
                    refine rw_of (fun rr hrr => q_iconst (q_goto (t := 101) rfl hrr)) ?_
                    refine rw_blk lk_X10_isPlace_101 ?_
                    refine rw_ret hQ (q_ireturn (by omega)) ?_
                    first
                      | exact ⟨rfl, rfl, rfl⟩
                      | (exfalso; omega)
                    
              · skip
                refine rw_of (fun rr hrr => q_iload rfl (q_iconst (q_aload_n rfl (q_getR (show SH 261 = (18, 0) from rfl) rfl (pt_261_1 hP) (q_iload_n rfl (q_iald (j := s) (show SH 262 = (1, 13) from rfl) rfl (by omega) (ki rfl hm (by omega)) (q_iconst (q_isub hrr)))))))) ?_
                obtain ⟨_, mm49, pp50, hV51, rfl, rfl, rfl⟩ := c_X10_isIn1 (S := S) (fz := fz) (m := m) (p := p) (d := d) (by omega) (j) (0) ((((n : Nat) : Int) - 1)) (by omega) (by omega) (by omega)
                refine rw_of (fun rr hrr => q_invS hV51 rfl rfl (okar_cons rfl (okar_cons rfl (okar_cons rfl okar_nil))) (Nat.le_of_ble_eq_true rfl) hrr) ?_
                refine rw_if_eq ⟨by omega, by omega⟩ (t := 83) rfl (fun hc52 => ?_) (fun hc52 => ?_)
                · skip
                  refine rw_blk lk_X10_isPlace_83 ?_
                  refine rw_of (fun rr hrr => q_iconst hrr) ?_
                  refine rw_blk lk_X10_isPlace_84 ?_
                  refine rw_of (fun rr hrr => q_istore (Nat.le_of_ble_eq_true rfl) rfl (q_iload rfl hrr)) ?_
                  refine rw_if_eq ⟨by omega, by omega⟩ (t := 100) rfl (fun hc53 => ?_) (fun hc53 => ?_)
                  · skip
                    refine rw_blk lk_X10_isPlace_100 ?_
                    refine rw_of (fun rr hrr => q_iconst hrr) ?_
                    refine rw_blk lk_X10_isPlace_101 ?_
                    refine rw_ret hQ (q_ireturn (by omega)) ?_
                    first
                      | exact ⟨rfl, rfl, rfl⟩
                      | (exfalso; omega)
                    
                  · skip
                    refine rw_of (fun rr hrr => q_iload rfl hrr) ?_
                    refine rw_if_eq ⟨by omega, by omega⟩ (t := 100) rfl (fun hc54 => ?_) (fun hc54 => ?_)
                    · skip
                      refine rw_blk lk_X10_isPlace_100 ?_
                      refine rw_of (fun rr hrr => q_iconst hrr) ?_
                      refine rw_blk lk_X10_isPlace_101 ?_
                      refine rw_ret hQ (q_ireturn (by omega)) ?_
                      first
                        | exact ⟨rfl, rfl, rfl⟩
                        | (exfalso; omega)
                      
                    · skip
                      refine rw_of (fun rr hrr => q_iconst (q_goto (t := 101) rfl hrr)) ?_
                      refine rw_blk lk_X10_isPlace_101 ?_
                      refine rw_ret hQ (q_ireturn (by omega)) ?_
                      first
                        | exact ⟨rfl, rfl, rfl⟩
                        | (exfalso; omega)
                      
                · skip
                  refine rw_blk lk_X10_isPlace_79 ?_
                  refine rw_of (fun rr hrr => q_iconst (q_goto (t := 84) rfl hrr)) ?_
                  refine rw_blk lk_X10_isPlace_84 ?_
                  refine rw_of (fun rr hrr => q_istore (Nat.le_of_ble_eq_true rfl) rfl (q_iload rfl hrr)) ?_
                  refine rw_if_eq ⟨by omega, by omega⟩ (t := 100) rfl (fun hc55 => ?_) (fun hc55 => ?_)
                  · skip
                    refine rw_blk lk_X10_isPlace_100 ?_
                    refine rw_of (fun rr hrr => q_iconst hrr) ?_
                    refine rw_blk lk_X10_isPlace_101 ?_
                    refine rw_ret hQ (q_ireturn (by omega)) ?_
                    first
                      | exact ⟨rfl, rfl, rfl⟩
                      | (exfalso; omega)
                    
                  · skip
                    refine rw_of (fun rr hrr => q_iload rfl hrr) ?_
                    refine rw_if_eq ⟨by omega, by omega⟩ (t := 100) rfl (fun hc56 => ?_) (fun hc56 => ?_)
                    · skip
                      refine rw_blk lk_X10_isPlace_100 ?_
                      refine rw_of (fun rr hrr => q_iconst hrr) ?_
                      refine rw_blk lk_X10_isPlace_101 ?_
                      refine rw_ret hQ (q_ireturn (by omega)) ?_
                      first
                        | exact ⟨rfl, rfl, rfl⟩
                        | (exfalso; omega)
                      
                    · skip
                      refine rw_of (fun rr hrr => q_iconst (q_goto (t := 101) rfl hrr)) ?_
                      refine rw_blk lk_X10_isPlace_101 ?_
                      refine rw_ret hQ (q_ireturn (by omega)) ?_
                      first
                        | exact ⟨rfl, rfl, rfl⟩
                        | (exfalso; omega)
                      
          · skip
            refine rw_blk lk_X10_isPlace_45 ?_
            refine rw_of (fun rr hrr => q_iconst (q_goto (t := 50) rfl hrr)) ?_
            refine rw_blk lk_X10_isPlace_50 ?_
            refine rw_of (fun rr hrr => q_istore (Nat.le_of_ble_eq_true rfl) rfl (q_iload_n rfl (q_iconst hrr))) ?_
            refine rw_icmp_eq ⟨by omega, by omega⟩ ⟨by omega, by omega⟩ (t := 79) rfl (fun hc57 => ?_) (fun hc57 => ?_)
            · skip
              refine rw_blk lk_X10_isPlace_79 ?_
              refine rw_of (fun rr hrr => q_iconst (q_goto (t := 84) rfl hrr)) ?_
              refine rw_blk lk_X10_isPlace_84 ?_
              refine rw_of (fun rr hrr => q_istore (Nat.le_of_ble_eq_true rfl) rfl (q_iload rfl hrr)) ?_
              refine rw_if_eq ⟨by omega, by omega⟩ (t := 100) rfl (fun hc58 => ?_) (fun hc58 => ?_)
              · skip
                refine rw_blk lk_X10_isPlace_100 ?_
                refine rw_of (fun rr hrr => q_iconst hrr) ?_
                refine rw_blk lk_X10_isPlace_101 ?_
                refine rw_ret hQ (q_ireturn (by omega)) ?_
                first
                  | exact ⟨rfl, rfl, rfl⟩
                  | (exfalso; omega)
                
              · skip
                refine rw_of (fun rr hrr => q_iload rfl hrr) ?_
                refine rw_if_eq ⟨by omega, by omega⟩ (t := 100) rfl (fun hc59 => ?_) (fun hc59 => ?_)
                · skip
                  refine rw_blk lk_X10_isPlace_100 ?_
                  refine rw_of (fun rr hrr => q_iconst hrr) ?_
                  refine rw_blk lk_X10_isPlace_101 ?_
                  refine rw_ret hQ (q_ireturn (by omega)) ?_
                  first
                    | exact ⟨rfl, rfl, rfl⟩
                    | (exfalso; omega)
                  
                · skip
                  refine rw_of (fun rr hrr => q_iconst (q_goto (t := 101) rfl hrr)) ?_
                  refine rw_blk lk_X10_isPlace_101 ?_
                  refine rw_ret hQ (q_ireturn (by omega)) ?_
                  first
                    | exact ⟨rfl, rfl, rfl⟩
                    | (exfalso; omega)
                  
            · skip
              refine rw_of (fun rr hrr => q_iload_n rfl (q_iconst hrr)) ?_
              refine rw_icmp_eq ⟨by omega, by omega⟩ ⟨by omega, by omega⟩ (t := 79) rfl (fun hc60 => ?_) (fun hc60 => ?_)
              · skip
                refine rw_blk lk_X10_isPlace_79 ?_
                refine rw_of (fun rr hrr => q_iconst (q_goto (t := 84) rfl hrr)) ?_
                refine rw_blk lk_X10_isPlace_84 ?_
                refine rw_of (fun rr hrr => q_istore (Nat.le_of_ble_eq_true rfl) rfl (q_iload rfl hrr)) ?_
                refine rw_if_eq ⟨by omega, by omega⟩ (t := 100) rfl (fun hc61 => ?_) (fun hc61 => ?_)
                · skip
                  refine rw_blk lk_X10_isPlace_100 ?_
                  refine rw_of (fun rr hrr => q_iconst hrr) ?_
                  refine rw_blk lk_X10_isPlace_101 ?_
                  refine rw_ret hQ (q_ireturn (by omega)) ?_
                  first
                    | exact ⟨rfl, rfl, rfl⟩
                    | (exfalso; omega)
                  
                · skip
                  refine rw_of (fun rr hrr => q_iload rfl hrr) ?_
                  refine rw_if_eq ⟨by omega, by omega⟩ (t := 100) rfl (fun hc62 => ?_) (fun hc62 => ?_)
                  · skip
                    refine rw_blk lk_X10_isPlace_100 ?_
                    refine rw_of (fun rr hrr => q_iconst hrr) ?_
                    refine rw_blk lk_X10_isPlace_101 ?_
                    refine rw_ret hQ (q_ireturn (by omega)) ?_
                    first
                      | exact ⟨rfl, rfl, rfl⟩
                      | (exfalso; omega)
                    
                  · skip
                    refine rw_of (fun rr hrr => q_iconst (q_goto (t := 101) rfl hrr)) ?_
                    refine rw_blk lk_X10_isPlace_101 ?_
                    refine rw_ret hQ (q_ireturn (by omega)) ?_
                    first
                      | exact ⟨rfl, rfl, rfl⟩
                      | (exfalso; omega)
                    
              · skip
                refine rw_of (fun rr hrr => q_iload rfl (q_iconst (q_aload_n rfl (q_getR (show SH 261 = (18, 0) from rfl) rfl (pt_261_1 hP) (q_iload_n rfl (q_iald (j := s) (show SH 262 = (1, 13) from rfl) rfl (by omega) (ki rfl hm (by omega)) (q_iconst (q_isub hrr)))))))) ?_
                obtain ⟨_, mm63, pp64, hV65, rfl, rfl, rfl⟩ := c_X10_isIn1 (S := S) (fz := fz) (m := m) (p := p) (d := d) (by omega) (j) (0) ((((n : Nat) : Int) - 1)) (by omega) (by omega) (by omega)
                refine rw_of (fun rr hrr => q_invS hV65 rfl rfl (okar_cons rfl (okar_cons rfl (okar_cons rfl okar_nil))) (Nat.le_of_ble_eq_true rfl) hrr) ?_
                refine rw_if_eq ⟨by omega, by omega⟩ (t := 83) rfl (fun hc66 => ?_) (fun hc66 => ?_)
                · skip
                  refine rw_blk lk_X10_isPlace_83 ?_
                  refine rw_of (fun rr hrr => q_iconst hrr) ?_
                  refine rw_blk lk_X10_isPlace_84 ?_
                  refine rw_of (fun rr hrr => q_istore (Nat.le_of_ble_eq_true rfl) rfl (q_iload rfl hrr)) ?_
                  refine rw_if_eq ⟨by omega, by omega⟩ (t := 100) rfl (fun hc67 => ?_) (fun hc67 => ?_)
                  · skip
                    refine rw_blk lk_X10_isPlace_100 ?_
                    refine rw_of (fun rr hrr => q_iconst hrr) ?_
                    refine rw_blk lk_X10_isPlace_101 ?_
                    refine rw_ret hQ (q_ireturn (by omega)) ?_
                    first
                      | exact ⟨rfl, rfl, rfl⟩
                      | (exfalso; omega)
                    
                  · skip
                    refine rw_of (fun rr hrr => q_iload rfl hrr) ?_
                    refine rw_if_eq ⟨by omega, by omega⟩ (t := 100) rfl (fun hc68 => ?_) (fun hc68 => ?_)
                    · skip
                      refine rw_blk lk_X10_isPlace_100 ?_
                      refine rw_of (fun rr hrr => q_iconst hrr) ?_
                      refine rw_blk lk_X10_isPlace_101 ?_
                      refine rw_ret hQ (q_ireturn (by omega)) ?_
                      first
                        | exact ⟨rfl, rfl, rfl⟩
                        | (exfalso; omega)
                      
                    · skip
                      refine rw_of (fun rr hrr => q_iconst (q_goto (t := 101) rfl hrr)) ?_
                      refine rw_blk lk_X10_isPlace_101 ?_
                      refine rw_ret hQ (q_ireturn (by omega)) ?_
                      first
                        | exact ⟨rfl, rfl, rfl⟩
                        | (exfalso; omega)
                      
                · skip
                  refine rw_blk lk_X10_isPlace_79 ?_
                  refine rw_of (fun rr hrr => q_iconst (q_goto (t := 84) rfl hrr)) ?_
                  refine rw_blk lk_X10_isPlace_84 ?_
                  refine rw_of (fun rr hrr => q_istore (Nat.le_of_ble_eq_true rfl) rfl (q_iload rfl hrr)) ?_
                  refine rw_if_eq ⟨by omega, by omega⟩ (t := 100) rfl (fun hc69 => ?_) (fun hc69 => ?_)
                  · skip
                    refine rw_blk lk_X10_isPlace_100 ?_
                    refine rw_of (fun rr hrr => q_iconst hrr) ?_
                    refine rw_blk lk_X10_isPlace_101 ?_
                    refine rw_ret hQ (q_ireturn (by omega)) ?_
                    first
                      | exact ⟨rfl, rfl, rfl⟩
                      | (exfalso; omega)
                    
                  · skip
                    refine rw_of (fun rr hrr => q_iload rfl hrr) ?_
                    refine rw_if_eq ⟨by omega, by omega⟩ (t := 100) rfl (fun hc70 => ?_) (fun hc70 => ?_)
                    · skip
                      refine rw_blk lk_X10_isPlace_100 ?_
                      refine rw_of (fun rr hrr => q_iconst hrr) ?_
                      refine rw_blk lk_X10_isPlace_101 ?_
                      refine rw_ret hQ (q_ireturn (by omega)) ?_
                      first
                        | exact ⟨rfl, rfl, rfl⟩
                        | (exfalso; omega)
                      
                    · skip
                      refine rw_of (fun rr hrr => q_iconst (q_goto (t := 101) rfl hrr)) ?_
                      refine rw_blk lk_X10_isPlace_101 ?_
                      refine rw_ret hQ (q_ireturn (by omega)) ?_
                      first
                        | exact ⟨rfl, rfl, rfl⟩
                        | (exfalso; omega)
                      
    · skip
      refine rw_blk lk_X10_isPlace_17 ?_
      refine rw_of (fun rr hrr => q_iconst hrr) ?_
      refine rw_ret hQ (q_ireturn (by omega)) ?_
      first
        | exact ⟨rfl, rfl, rfl⟩
        | (exfalso; omega)
      
theorem c_X10_isPlace0_10 {d : Nat} {S : MC} {fz : Bool} {m : M1} {p : M2} (hd : 3 ≤ d) (s k n : Nat) (i j : Int) (hP : PI p) (hk : m 261 0 = nF k) (hk12 : k ≤ 12) (hsk : s < k) (hm : m 262 s = nF n) (hn0 : 1 ≤ n) (hn : n ≤ 8) (hri : (-2147483648 ≤ i ∧ i < 2147483648)) (hrj : (-2147483648 ≤ j ∧ j < 2147483648)) (hi : 0 ≤ i ∧ i < n) (hj : j < 0 ∨ n ≤ j) : Ct d k_X10_isPlace S fz [.ref (261), .int (iI (((s : Nat) : Int))), .int (iI (0)), .int (iI (i)), .int (iI (j))] m p (fun v m' p' => v = some (.int (iI (0))) ∧ m = m' ∧ p = p') := by
  obtain ⟨d, rfl⟩ : ∃ e, d = e + 1 := ⟨d - 1, by omega⟩
  refine ct_go (lv := [some (.ref (261)), some (.int (iI (((s : Nat) : Int)))), some (.int (iI (0))), some (.int (iI (i))), some (.int (iI (j))), none, none]) (Nat.le_of_ble_eq_true rfl) (okar_cons rfl (okar_cons rfl (okar_cons rfl (okar_cons rfl (okar_cons rfl okar_nil))))) rfl (fun Qr hQ => ?_)
  refine rw_blk lk_X10_isPlace_0 ?_
  refine rw_of (fun rr hrr => q_aload_n rfl (q_iload_n rfl hrr)) ?_
  obtain ⟨_, mm1, pp2, hV3, rfl, rfl, rfl⟩ := c_X10_isSystem1 (S := S) (fz := fz) (m := m) (p := p) (d := d) (by omega) (((s : Nat) : Int)) (k) hP hk (by omega) (by omega) (by omega)
  refine rw_of (fun rr hrr => q_invV hV3 (show SH 261 = (18, 0) from rfl) rfl rfl (okar_cons rfl okar_nil) (Nat.le_of_ble_eq_true rfl) hrr) ?_
  refine rw_if_eq ⟨by omega, by omega⟩ (t := 17) rfl (fun hc4 => ?_) (fun hc4 => ?_)
  · skip
    refine rw_blk lk_X10_isPlace_17 ?_
    refine rw_of (fun rr hrr => q_iconst hrr) ?_
    refine rw_ret hQ (q_ireturn (by omega)) ?_
    first
      | exact ⟨rfl, rfl, rfl⟩
      | (exfalso; omega)
    
  · skip
    refine rw_of (fun rr hrr => q_iload_n rfl (q_iconst (q_iconst hrr))) ?_
    obtain ⟨_, mm5, pp6, hV7, rfl, rfl, rfl⟩ := c_X10_isIn1 (S := S) (fz := fz) (m := m) (p := p) (d := d) (by omega) (0) (0) (3) (by omega) (by omega) (by omega)
    refine rw_of (fun rr hrr => q_invS hV7 rfl rfl (okar_cons rfl (okar_cons rfl (okar_cons rfl okar_nil))) (Nat.le_of_ble_eq_true rfl) hrr) ?_
    refine rw_if_ne ⟨by omega, by omega⟩ (t := 19) rfl (fun hc8 => ?_) (fun hc8 => ?_)
    · skip
      refine rw_blk lk_X10_isPlace_19 ?_
      refine rw_of (fun rr hrr => q_iload_n rfl (q_iconst hrr)) ?_
      refine rw_icmp_eq ⟨by omega, by omega⟩ ⟨by omega, by omega⟩ (t := 45) rfl (fun hc9 => ?_) (fun hc9 => ?_)
      · skip
        refine rw_blk lk_X10_isPlace_45 ?_
        refine rw_of (fun rr hrr => q_iconst (q_goto (t := 50) rfl hrr)) ?_
        refine rw_blk lk_X10_isPlace_50 ?_
        refine rw_of (fun rr hrr => q_istore (Nat.le_of_ble_eq_true rfl) rfl (q_iload_n rfl (q_iconst hrr))) ?_
        refine rw_icmp_eq ⟨by omega, by omega⟩ ⟨by omega, by omega⟩ (t := 79) rfl (fun hc10 => ?_) (fun hc10 => ?_)
        · skip
          refine rw_blk lk_X10_isPlace_79 ?_
          refine rw_of (fun rr hrr => q_iconst (q_goto (t := 84) rfl hrr)) ?_
          refine rw_blk lk_X10_isPlace_84 ?_
          refine rw_of (fun rr hrr => q_istore (Nat.le_of_ble_eq_true rfl) rfl (q_iload rfl hrr)) ?_
          refine rw_if_eq ⟨by omega, by omega⟩ (t := 100) rfl (fun hc11 => ?_) (fun hc11 => ?_)
          · skip
            refine rw_blk lk_X10_isPlace_100 ?_
            refine rw_of (fun rr hrr => q_iconst hrr) ?_
            refine rw_blk lk_X10_isPlace_101 ?_
            refine rw_ret hQ (q_ireturn (by omega)) ?_
            first
              | exact ⟨rfl, rfl, rfl⟩
              | (exfalso; omega)
            
          · skip
            refine rw_of (fun rr hrr => q_iload rfl hrr) ?_
            refine rw_if_eq ⟨by omega, by omega⟩ (t := 100) rfl (fun hc12 => ?_) (fun hc12 => ?_)
            · skip
              refine rw_blk lk_X10_isPlace_100 ?_
              refine rw_of (fun rr hrr => q_iconst hrr) ?_
              refine rw_blk lk_X10_isPlace_101 ?_
              refine rw_ret hQ (q_ireturn (by omega)) ?_
              first
                | exact ⟨rfl, rfl, rfl⟩
                | (exfalso; omega)
              
            · skip
              refine rw_of (fun rr hrr => q_iconst (q_goto (t := 101) rfl hrr)) ?_
              refine rw_blk lk_X10_isPlace_101 ?_
              refine rw_ret hQ (q_ireturn (by omega)) ?_
              first
                | exact ⟨rfl, rfl, rfl⟩
                | (exfalso; omega)
              
        · skip
          refine rw_of (fun rr hrr => q_iload_n rfl (q_iconst hrr)) ?_
          refine rw_icmp_eq ⟨by omega, by omega⟩ ⟨by omega, by omega⟩ (t := 79) rfl (fun hc13 => ?_) (fun hc13 => ?_)
          · skip
            refine rw_blk lk_X10_isPlace_79 ?_
            refine rw_of (fun rr hrr => q_iconst (q_goto (t := 84) rfl hrr)) ?_
            refine rw_blk lk_X10_isPlace_84 ?_
            refine rw_of (fun rr hrr => q_istore (Nat.le_of_ble_eq_true rfl) rfl (q_iload rfl hrr)) ?_
            refine rw_if_eq ⟨by omega, by omega⟩ (t := 100) rfl (fun hc14 => ?_) (fun hc14 => ?_)
            · skip
              refine rw_blk lk_X10_isPlace_100 ?_
              refine rw_of (fun rr hrr => q_iconst hrr) ?_
              refine rw_blk lk_X10_isPlace_101 ?_
              refine rw_ret hQ (q_ireturn (by omega)) ?_
              first
                | exact ⟨rfl, rfl, rfl⟩
                | (exfalso; omega)
              
            · skip
              refine rw_of (fun rr hrr => q_iload rfl hrr) ?_
              refine rw_if_eq ⟨by omega, by omega⟩ (t := 100) rfl (fun hc15 => ?_) (fun hc15 => ?_)
              · skip
                refine rw_blk lk_X10_isPlace_100 ?_
                refine rw_of (fun rr hrr => q_iconst hrr) ?_
                refine rw_blk lk_X10_isPlace_101 ?_
                refine rw_ret hQ (q_ireturn (by omega)) ?_
                first
                  | exact ⟨rfl, rfl, rfl⟩
                  | (exfalso; omega)
                
              · skip
                refine rw_of (fun rr hrr => q_iconst (q_goto (t := 101) rfl hrr)) ?_
                refine rw_blk lk_X10_isPlace_101 ?_
                refine rw_ret hQ (q_ireturn (by omega)) ?_
                first
                  | exact ⟨rfl, rfl, rfl⟩
                  | (exfalso; omega)
                
          · skip
            refine rw_of (fun rr hrr => q_iload rfl (q_iconst (q_aload_n rfl (q_getR (show SH 261 = (18, 0) from rfl) rfl (pt_261_1 hP) (q_iload_n rfl (q_iald (j := s) (show SH 262 = (1, 13) from rfl) rfl (by omega) (ki rfl hm (by omega)) (q_iconst (q_isub hrr)))))))) ?_
            obtain ⟨_, mm16, pp17, hV18, rfl, rfl, rfl⟩ := c_X10_isIn0 (S := S) (fz := fz) (m := m) (p := p) (d := d) (by omega) (j) (0) ((((n : Nat) : Int) - 1)) (by omega) (by omega) (by omega)
            refine rw_of (fun rr hrr => q_invS hV18 rfl rfl (okar_cons rfl (okar_cons rfl (okar_cons rfl okar_nil))) (Nat.le_of_ble_eq_true rfl) hrr) ?_
            refine rw_if_eq ⟨by omega, by omega⟩ (t := 83) rfl (fun hc19 => ?_) (fun hc19 => ?_)
            · skip
              refine rw_blk lk_X10_isPlace_83 ?_
              refine rw_of (fun rr hrr => q_iconst hrr) ?_
              refine rw_blk lk_X10_isPlace_84 ?_
              refine rw_of (fun rr hrr => q_istore (Nat.le_of_ble_eq_true rfl) rfl (q_iload rfl hrr)) ?_
              refine rw_if_eq ⟨by omega, by omega⟩ (t := 100) rfl (fun hc20 => ?_) (fun hc20 => ?_)
              · skip
                refine rw_blk lk_X10_isPlace_100 ?_
                refine rw_of (fun rr hrr => q_iconst hrr) ?_
                refine rw_blk lk_X10_isPlace_101 ?_
                refine rw_ret hQ (q_ireturn (by omega)) ?_
                first
                  | exact ⟨rfl, rfl, rfl⟩
                  | (exfalso; omega)
                
              · skip
                refine rw_of (fun rr hrr => q_iload rfl hrr) ?_
                refine rw_if_eq ⟨by omega, by omega⟩ (t := 100) rfl (fun hc21 => ?_) (fun hc21 => ?_)
                · skip
                  refine rw_blk lk_X10_isPlace_100 ?_
                  refine rw_of (fun rr hrr => q_iconst hrr) ?_
                  refine rw_blk lk_X10_isPlace_101 ?_
                  refine rw_ret hQ (q_ireturn (by omega)) ?_
                  first
                    | exact ⟨rfl, rfl, rfl⟩
                    | (exfalso; omega)
                  
                · skip
                  refine rw_of (fun rr hrr => q_iconst (q_goto (t := 101) rfl hrr)) ?_
                  refine rw_blk lk_X10_isPlace_101 ?_
                  refine rw_ret hQ (q_ireturn (by omega)) ?_
                  first
                    | exact ⟨rfl, rfl, rfl⟩
                    | (exfalso; omega)
                  
            · skip
              refine rw_blk lk_X10_isPlace_79 ?_
              refine rw_of (fun rr hrr => q_iconst (q_goto (t := 84) rfl hrr)) ?_
              refine rw_blk lk_X10_isPlace_84 ?_
              refine rw_of (fun rr hrr => q_istore (Nat.le_of_ble_eq_true rfl) rfl (q_iload rfl hrr)) ?_
              refine rw_if_eq ⟨by omega, by omega⟩ (t := 100) rfl (fun hc22 => ?_) (fun hc22 => ?_)
              · skip
                refine rw_blk lk_X10_isPlace_100 ?_
                refine rw_of (fun rr hrr => q_iconst hrr) ?_
                refine rw_blk lk_X10_isPlace_101 ?_
                refine rw_ret hQ (q_ireturn (by omega)) ?_
                first
                  | exact ⟨rfl, rfl, rfl⟩
                  | (exfalso; omega)
                
              · skip
                refine rw_of (fun rr hrr => q_iload rfl hrr) ?_
                refine rw_if_eq ⟨by omega, by omega⟩ (t := 100) rfl (fun hc23 => ?_) (fun hc23 => ?_)
                · skip
                  refine rw_blk lk_X10_isPlace_100 ?_
                  refine rw_of (fun rr hrr => q_iconst hrr) ?_
                  refine rw_blk lk_X10_isPlace_101 ?_
                  refine rw_ret hQ (q_ireturn (by omega)) ?_
                  first
                    | exact ⟨rfl, rfl, rfl⟩
                    | (exfalso; omega)
                  
                · skip
                  refine rw_of (fun rr hrr => q_iconst (q_goto (t := 101) rfl hrr)) ?_
                  refine rw_blk lk_X10_isPlace_101 ?_
                  refine rw_ret hQ (q_ireturn (by omega)) ?_
                  first
                    | exact ⟨rfl, rfl, rfl⟩
                    | (exfalso; omega)
                  
      · skip
        refine rw_of (fun rr hrr => q_iload_n rfl (q_iconst hrr)) ?_
        refine rw_icmp_eq ⟨by omega, by omega⟩ ⟨by omega, by omega⟩ (t := 45) rfl (fun hc24 => ?_) (fun hc24 => ?_)
        · skip
          refine rw_blk lk_X10_isPlace_45 ?_
          refine rw_of (fun rr hrr => q_iconst (q_goto (t := 50) rfl hrr)) ?_
          refine rw_blk lk_X10_isPlace_50 ?_
          refine rw_of (fun rr hrr => q_istore (Nat.le_of_ble_eq_true rfl) rfl (q_iload_n rfl (q_iconst hrr))) ?_
          refine rw_icmp_eq ⟨by omega, by omega⟩ ⟨by omega, by omega⟩ (t := 79) rfl (fun hc25 => ?_) (fun hc25 => ?_)
          · skip
            refine rw_blk lk_X10_isPlace_79 ?_
            refine rw_of (fun rr hrr => q_iconst (q_goto (t := 84) rfl hrr)) ?_
            refine rw_blk lk_X10_isPlace_84 ?_
            refine rw_of (fun rr hrr => q_istore (Nat.le_of_ble_eq_true rfl) rfl (q_iload rfl hrr)) ?_
            refine rw_if_eq ⟨by omega, by omega⟩ (t := 100) rfl (fun hc26 => ?_) (fun hc26 => ?_)
            · skip
              refine rw_blk lk_X10_isPlace_100 ?_
              refine rw_of (fun rr hrr => q_iconst hrr) ?_
              refine rw_blk lk_X10_isPlace_101 ?_
              refine rw_ret hQ (q_ireturn (by omega)) ?_
              first
                | exact ⟨rfl, rfl, rfl⟩
                | (exfalso; omega)
              
            · skip
              refine rw_of (fun rr hrr => q_iload rfl hrr) ?_
              refine rw_if_eq ⟨by omega, by omega⟩ (t := 100) rfl (fun hc27 => ?_) (fun hc27 => ?_)
              · skip
                refine rw_blk lk_X10_isPlace_100 ?_
                refine rw_of (fun rr hrr => q_iconst hrr) ?_
                refine rw_blk lk_X10_isPlace_101 ?_
                refine rw_ret hQ (q_ireturn (by omega)) ?_
                first
                  | exact ⟨rfl, rfl, rfl⟩
                  | (exfalso; omega)
                
              · skip
                refine rw_of (fun rr hrr => q_iconst (q_goto (t := 101) rfl hrr)) ?_
                refine rw_blk lk_X10_isPlace_101 ?_
                refine rw_ret hQ (q_ireturn (by omega)) ?_
                first
                  | exact ⟨rfl, rfl, rfl⟩
                  | (exfalso; omega)
                
          · skip
            refine rw_of (fun rr hrr => q_iload_n rfl (q_iconst hrr)) ?_
            refine rw_icmp_eq ⟨by omega, by omega⟩ ⟨by omega, by omega⟩ (t := 79) rfl (fun hc28 => ?_) (fun hc28 => ?_)
            · skip
              refine rw_blk lk_X10_isPlace_79 ?_
              refine rw_of (fun rr hrr => q_iconst (q_goto (t := 84) rfl hrr)) ?_
              refine rw_blk lk_X10_isPlace_84 ?_
              refine rw_of (fun rr hrr => q_istore (Nat.le_of_ble_eq_true rfl) rfl (q_iload rfl hrr)) ?_
              refine rw_if_eq ⟨by omega, by omega⟩ (t := 100) rfl (fun hc29 => ?_) (fun hc29 => ?_)
              · skip
                refine rw_blk lk_X10_isPlace_100 ?_
                refine rw_of (fun rr hrr => q_iconst hrr) ?_
                refine rw_blk lk_X10_isPlace_101 ?_
                refine rw_ret hQ (q_ireturn (by omega)) ?_
                first
                  | exact ⟨rfl, rfl, rfl⟩
                  | (exfalso; omega)
                
              · skip
                refine rw_of (fun rr hrr => q_iload rfl hrr) ?_
                refine rw_if_eq ⟨by omega, by omega⟩ (t := 100) rfl (fun hc30 => ?_) (fun hc30 => ?_)
                · skip
                  refine rw_blk lk_X10_isPlace_100 ?_
                  refine rw_of (fun rr hrr => q_iconst hrr) ?_
                  refine rw_blk lk_X10_isPlace_101 ?_
                  refine rw_ret hQ (q_ireturn (by omega)) ?_
                  first
                    | exact ⟨rfl, rfl, rfl⟩
                    | (exfalso; omega)
                  
                · skip
                  refine rw_of (fun rr hrr => q_iconst (q_goto (t := 101) rfl hrr)) ?_
                  refine rw_blk lk_X10_isPlace_101 ?_
                  refine rw_ret hQ (q_ireturn (by omega)) ?_
                  first
                    | exact ⟨rfl, rfl, rfl⟩
                    | (exfalso; omega)
                  
            · skip
              refine rw_of (fun rr hrr => q_iload rfl (q_iconst (q_aload_n rfl (q_getR (show SH 261 = (18, 0) from rfl) rfl (pt_261_1 hP) (q_iload_n rfl (q_iald (j := s) (show SH 262 = (1, 13) from rfl) rfl (by omega) (ki rfl hm (by omega)) (q_iconst (q_isub hrr)))))))) ?_
              obtain ⟨_, mm31, pp32, hV33, rfl, rfl, rfl⟩ := c_X10_isIn0 (S := S) (fz := fz) (m := m) (p := p) (d := d) (by omega) (j) (0) ((((n : Nat) : Int) - 1)) (by omega) (by omega) (by omega)
              refine rw_of (fun rr hrr => q_invS hV33 rfl rfl (okar_cons rfl (okar_cons rfl (okar_cons rfl okar_nil))) (Nat.le_of_ble_eq_true rfl) hrr) ?_
              refine rw_if_eq ⟨by omega, by omega⟩ (t := 83) rfl (fun hc34 => ?_) (fun hc34 => ?_)
              · skip
                refine rw_blk lk_X10_isPlace_83 ?_
                refine rw_of (fun rr hrr => q_iconst hrr) ?_
                refine rw_blk lk_X10_isPlace_84 ?_
                refine rw_of (fun rr hrr => q_istore (Nat.le_of_ble_eq_true rfl) rfl (q_iload rfl hrr)) ?_
                refine rw_if_eq ⟨by omega, by omega⟩ (t := 100) rfl (fun hc35 => ?_) (fun hc35 => ?_)
                · skip
                  refine rw_blk lk_X10_isPlace_100 ?_
                  refine rw_of (fun rr hrr => q_iconst hrr) ?_
                  refine rw_blk lk_X10_isPlace_101 ?_
                  refine rw_ret hQ (q_ireturn (by omega)) ?_
                  first
                    | exact ⟨rfl, rfl, rfl⟩
                    | (exfalso; omega)
                  
                · skip
                  refine rw_of (fun rr hrr => q_iload rfl hrr) ?_
                  refine rw_if_eq ⟨by omega, by omega⟩ (t := 100) rfl (fun hc36 => ?_) (fun hc36 => ?_)
                  · skip
                    refine rw_blk lk_X10_isPlace_100 ?_
                    refine rw_of (fun rr hrr => q_iconst hrr) ?_
                    refine rw_blk lk_X10_isPlace_101 ?_
                    refine rw_ret hQ (q_ireturn (by omega)) ?_
                    first
                      | exact ⟨rfl, rfl, rfl⟩
                      | (exfalso; omega)
                    
                  · skip
                    refine rw_of (fun rr hrr => q_iconst (q_goto (t := 101) rfl hrr)) ?_
                    refine rw_blk lk_X10_isPlace_101 ?_
                    refine rw_ret hQ (q_ireturn (by omega)) ?_
                    first
                      | exact ⟨rfl, rfl, rfl⟩
                      | (exfalso; omega)
                    
              · skip
                refine rw_blk lk_X10_isPlace_79 ?_
                refine rw_of (fun rr hrr => q_iconst (q_goto (t := 84) rfl hrr)) ?_
                refine rw_blk lk_X10_isPlace_84 ?_
                refine rw_of (fun rr hrr => q_istore (Nat.le_of_ble_eq_true rfl) rfl (q_iload rfl hrr)) ?_
                refine rw_if_eq ⟨by omega, by omega⟩ (t := 100) rfl (fun hc37 => ?_) (fun hc37 => ?_)
                · skip
                  refine rw_blk lk_X10_isPlace_100 ?_
                  refine rw_of (fun rr hrr => q_iconst hrr) ?_
                  refine rw_blk lk_X10_isPlace_101 ?_
                  refine rw_ret hQ (q_ireturn (by omega)) ?_
                  first
                    | exact ⟨rfl, rfl, rfl⟩
                    | (exfalso; omega)
                  
                · skip
                  refine rw_of (fun rr hrr => q_iload rfl hrr) ?_
                  refine rw_if_eq ⟨by omega, by omega⟩ (t := 100) rfl (fun hc38 => ?_) (fun hc38 => ?_)
                  · skip
                    refine rw_blk lk_X10_isPlace_100 ?_
                    refine rw_of (fun rr hrr => q_iconst hrr) ?_
                    refine rw_blk lk_X10_isPlace_101 ?_
                    refine rw_ret hQ (q_ireturn (by omega)) ?_
                    first
                      | exact ⟨rfl, rfl, rfl⟩
                      | (exfalso; omega)
                    
                  · skip
                    refine rw_of (fun rr hrr => q_iconst (q_goto (t := 101) rfl hrr)) ?_
                    refine rw_blk lk_X10_isPlace_101 ?_
                    refine rw_ret hQ (q_ireturn (by omega)) ?_
                    first
                      | exact ⟨rfl, rfl, rfl⟩
                      | (exfalso; omega)
                    
        · skip
          refine rw_of (fun rr hrr => q_iload_n rfl (q_iconst (q_aload_n rfl (q_getR (show SH 261 = (18, 0) from rfl) rfl (pt_261_1 hP) (q_iload_n rfl (q_iald (j := s) (show SH 262 = (1, 13) from rfl) rfl (by omega) (ki rfl hm (by omega)) (q_iconst (q_isub hrr)))))))) ?_
          obtain ⟨_, mm39, pp40, hV41, rfl, rfl, rfl⟩ := c_X10_isIn1 (S := S) (fz := fz) (m := m) (p := p) (d := d) (by omega) (i) (0) ((((n : Nat) : Int) - 1)) (by omega) (by omega) (by omega)
          refine rw_of (fun rr hrr => q_invS hV41 rfl rfl (okar_cons rfl (okar_cons rfl (okar_cons rfl okar_nil))) (Nat.le_of_ble_eq_true rfl) hrr) ?_
          refine rw_if_eq ⟨by omega, by omega⟩ (t := 49) rfl (fun hc42 => ?_) (fun hc42 => ?_)
          · skip
            refine rw_blk lk_X10_isPlace_49 ?_
            refine rw_of (fun rr hrr => q_iconst hrr) ?_
            refine rw_blk lk_X10_isPlace_50 ?_
            refine rw_of (fun rr hrr => q_istore (Nat.le_of_ble_eq_true rfl) rfl (q_iload_n rfl (q_iconst hrr))) ?_
            refine rw_icmp_eq ⟨by omega, by omega⟩ ⟨by omega, by omega⟩ (t := 79) rfl (fun hc43 => ?_) (fun hc43 => ?_)
            · skip
              refine rw_blk lk_X10_isPlace_79 ?_
              refine rw_of (fun rr hrr => q_iconst (q_goto (t := 84) rfl hrr)) ?_
              refine rw_blk lk_X10_isPlace_84 ?_
              refine rw_of (fun rr hrr => q_istore (Nat.le_of_ble_eq_true rfl) rfl (q_iload rfl hrr)) ?_
              refine rw_if_eq ⟨by omega, by omega⟩ (t := 100) rfl (fun hc44 => ?_) (fun hc44 => ?_)
              · skip
                refine rw_blk lk_X10_isPlace_100 ?_
                refine rw_of (fun rr hrr => q_iconst hrr) ?_
                refine rw_blk lk_X10_isPlace_101 ?_
                refine rw_ret hQ (q_ireturn (by omega)) ?_
                first
                  | exact ⟨rfl, rfl, rfl⟩
                  | (exfalso; omega)
                
              · skip
                refine rw_of (fun rr hrr => q_iload rfl hrr) ?_
                refine rw_if_eq ⟨by omega, by omega⟩ (t := 100) rfl (fun hc45 => ?_) (fun hc45 => ?_)
                · skip
                  refine rw_blk lk_X10_isPlace_100 ?_
                  refine rw_of (fun rr hrr => q_iconst hrr) ?_
                  refine rw_blk lk_X10_isPlace_101 ?_
                  refine rw_ret hQ (q_ireturn (by omega)) ?_
                  first
                    | exact ⟨rfl, rfl, rfl⟩
                    | (exfalso; omega)
                  
                · skip
                  refine rw_of (fun rr hrr => q_iconst (q_goto (t := 101) rfl hrr)) ?_
                  refine rw_blk lk_X10_isPlace_101 ?_
                  refine rw_ret hQ (q_ireturn (by omega)) ?_
                  first
                    | exact ⟨rfl, rfl, rfl⟩
                    | (exfalso; omega)
                  
            · skip
              refine rw_of (fun rr hrr => q_iload_n rfl (q_iconst hrr)) ?_
              refine rw_icmp_eq ⟨by omega, by omega⟩ ⟨by omega, by omega⟩ (t := 79) rfl (fun hc46 => ?_) (fun hc46 => ?_)
              · skip
                refine rw_blk lk_X10_isPlace_79 ?_
                refine rw_of (fun rr hrr => q_iconst (q_goto (t := 84) rfl hrr)) ?_
                refine rw_blk lk_X10_isPlace_84 ?_
                refine rw_of (fun rr hrr => q_istore (Nat.le_of_ble_eq_true rfl) rfl (q_iload rfl hrr)) ?_
                refine rw_if_eq ⟨by omega, by omega⟩ (t := 100) rfl (fun hc47 => ?_) (fun hc47 => ?_)
                · skip
                  refine rw_blk lk_X10_isPlace_100 ?_
                  refine rw_of (fun rr hrr => q_iconst hrr) ?_
                  refine rw_blk lk_X10_isPlace_101 ?_
                  refine rw_ret hQ (q_ireturn (by omega)) ?_
                  first
                    | exact ⟨rfl, rfl, rfl⟩
                    | (exfalso; omega)
                  
                · skip
                  refine rw_of (fun rr hrr => q_iload rfl hrr) ?_
                  refine rw_if_eq ⟨by omega, by omega⟩ (t := 100) rfl (fun hc48 => ?_) (fun hc48 => ?_)
                  · skip
                    refine rw_blk lk_X10_isPlace_100 ?_
                    refine rw_of (fun rr hrr => q_iconst hrr) ?_
                    refine rw_blk lk_X10_isPlace_101 ?_
                    refine rw_ret hQ (q_ireturn (by omega)) ?_
                    first
                      | exact ⟨rfl, rfl, rfl⟩
                      | (exfalso; omega)
                    
                  · skip
                    refine rw_of (fun rr hrr => q_iconst (q_goto (t := 101) rfl hrr)) ?_
                    refine rw_blk lk_X10_isPlace_101 ?_
                    refine rw_ret hQ (q_ireturn (by omega)) ?_
                    first
                      | exact ⟨rfl, rfl, rfl⟩
                      | (exfalso; omega)
                    
              · skip
                refine rw_of (fun rr hrr => q_iload rfl (q_iconst (q_aload_n rfl (q_getR (show SH 261 = (18, 0) from rfl) rfl (pt_261_1 hP) (q_iload_n rfl (q_iald (j := s) (show SH 262 = (1, 13) from rfl) rfl (by omega) (ki rfl hm (by omega)) (q_iconst (q_isub hrr)))))))) ?_
                obtain ⟨_, mm49, pp50, hV51, rfl, rfl, rfl⟩ := c_X10_isIn0 (S := S) (fz := fz) (m := m) (p := p) (d := d) (by omega) (j) (0) ((((n : Nat) : Int) - 1)) (by omega) (by omega) (by omega)
                refine rw_of (fun rr hrr => q_invS hV51 rfl rfl (okar_cons rfl (okar_cons rfl (okar_cons rfl okar_nil))) (Nat.le_of_ble_eq_true rfl) hrr) ?_
                refine rw_if_eq ⟨by omega, by omega⟩ (t := 83) rfl (fun hc52 => ?_) (fun hc52 => ?_)
                · skip
                  refine rw_blk lk_X10_isPlace_83 ?_
                  refine rw_of (fun rr hrr => q_iconst hrr) ?_
                  refine rw_blk lk_X10_isPlace_84 ?_
                  refine rw_of (fun rr hrr => q_istore (Nat.le_of_ble_eq_true rfl) rfl (q_iload rfl hrr)) ?_
                  refine rw_if_eq ⟨by omega, by omega⟩ (t := 100) rfl (fun hc53 => ?_) (fun hc53 => ?_)
                  · skip
                    refine rw_blk lk_X10_isPlace_100 ?_
                    refine rw_of (fun rr hrr => q_iconst hrr) ?_
                    refine rw_blk lk_X10_isPlace_101 ?_
                    refine rw_ret hQ (q_ireturn (by omega)) ?_
                    first
                      | exact ⟨rfl, rfl, rfl⟩
                      | (exfalso; omega)
                    
                  · skip
                    refine rw_of (fun rr hrr => q_iload rfl hrr) ?_
                    refine rw_if_eq ⟨by omega, by omega⟩ (t := 100) rfl (fun hc54 => ?_) (fun hc54 => ?_)
                    · skip
                      refine rw_blk lk_X10_isPlace_100 ?_
                      refine rw_of (fun rr hrr => q_iconst hrr) ?_
                      refine rw_blk lk_X10_isPlace_101 ?_
                      refine rw_ret hQ (q_ireturn (by omega)) ?_
                      first
                        | exact ⟨rfl, rfl, rfl⟩
                        | (exfalso; omega)
                      
                    · skip
                      refine rw_of (fun rr hrr => q_iconst (q_goto (t := 101) rfl hrr)) ?_
                      refine rw_blk lk_X10_isPlace_101 ?_
                      refine rw_ret hQ (q_ireturn (by omega)) ?_
                      first
                        | exact ⟨rfl, rfl, rfl⟩
                        | (exfalso; omega)
                      
                · skip
                  refine rw_blk lk_X10_isPlace_79 ?_
                  refine rw_of (fun rr hrr => q_iconst (q_goto (t := 84) rfl hrr)) ?_
                  refine rw_blk lk_X10_isPlace_84 ?_
                  refine rw_of (fun rr hrr => q_istore (Nat.le_of_ble_eq_true rfl) rfl (q_iload rfl hrr)) ?_
                  refine rw_if_eq ⟨by omega, by omega⟩ (t := 100) rfl (fun hc55 => ?_) (fun hc55 => ?_)
                  · skip
                    refine rw_blk lk_X10_isPlace_100 ?_
                    refine rw_of (fun rr hrr => q_iconst hrr) ?_
                    refine rw_blk lk_X10_isPlace_101 ?_
                    refine rw_ret hQ (q_ireturn (by omega)) ?_
                    first
                      | exact ⟨rfl, rfl, rfl⟩
                      | (exfalso; omega)
                    
                  · skip
                    refine rw_of (fun rr hrr => q_iload rfl hrr) ?_
                    refine rw_if_eq ⟨by omega, by omega⟩ (t := 100) rfl (fun hc56 => ?_) (fun hc56 => ?_)
                    · skip
                      refine rw_blk lk_X10_isPlace_100 ?_
                      refine rw_of (fun rr hrr => q_iconst hrr) ?_
                      refine rw_blk lk_X10_isPlace_101 ?_
                      refine rw_ret hQ (q_ireturn (by omega)) ?_
                      first
                        | exact ⟨rfl, rfl, rfl⟩
                        | (exfalso; omega)
                      
                    · skip
                      refine rw_of (fun rr hrr => q_iconst (q_goto (t := 101) rfl hrr)) ?_
                      refine rw_blk lk_X10_isPlace_101 ?_
                      refine rw_ret hQ (q_ireturn (by omega)) ?_
                      first
                        | exact ⟨rfl, rfl, rfl⟩
                        | (exfalso; omega)
                      
          · skip
            refine rw_blk lk_X10_isPlace_45 ?_
            refine rw_of (fun rr hrr => q_iconst (q_goto (t := 50) rfl hrr)) ?_
            refine rw_blk lk_X10_isPlace_50 ?_
            refine rw_of (fun rr hrr => q_istore (Nat.le_of_ble_eq_true rfl) rfl (q_iload_n rfl (q_iconst hrr))) ?_
            refine rw_icmp_eq ⟨by omega, by omega⟩ ⟨by omega, by omega⟩ (t := 79) rfl (fun hc57 => ?_) (fun hc57 => ?_)
            · skip
              refine rw_blk lk_X10_isPlace_79 ?_
              refine rw_of (fun rr hrr => q_iconst (q_goto (t := 84) rfl hrr)) ?_
              refine rw_blk lk_X10_isPlace_84 ?_
              refine rw_of (fun rr hrr => q_istore (Nat.le_of_ble_eq_true rfl) rfl (q_iload rfl hrr)) ?_
              refine rw_if_eq ⟨by omega, by omega⟩ (t := 100) rfl (fun hc58 => ?_) (fun hc58 => ?_)
              · skip
                refine rw_blk lk_X10_isPlace_100 ?_
                refine rw_of (fun rr hrr => q_iconst hrr) ?_
                refine rw_blk lk_X10_isPlace_101 ?_
                refine rw_ret hQ (q_ireturn (by omega)) ?_
                first
                  | exact ⟨rfl, rfl, rfl⟩
                  | (exfalso; omega)
                
              · skip
                refine rw_of (fun rr hrr => q_iload rfl hrr) ?_
                refine rw_if_eq ⟨by omega, by omega⟩ (t := 100) rfl (fun hc59 => ?_) (fun hc59 => ?_)
                · skip
                  refine rw_blk lk_X10_isPlace_100 ?_
                  refine rw_of (fun rr hrr => q_iconst hrr) ?_
                  refine rw_blk lk_X10_isPlace_101 ?_
                  refine rw_ret hQ (q_ireturn (by omega)) ?_
                  first
                    | exact ⟨rfl, rfl, rfl⟩
                    | (exfalso; omega)
                  
                · skip
                  refine rw_of (fun rr hrr => q_iconst (q_goto (t := 101) rfl hrr)) ?_
                  refine rw_blk lk_X10_isPlace_101 ?_
                  refine rw_ret hQ (q_ireturn (by omega)) ?_
                  first
                    | exact ⟨rfl, rfl, rfl⟩
                    | (exfalso; omega)
                  
            · skip
              refine rw_of (fun rr hrr => q_iload_n rfl (q_iconst hrr)) ?_
              refine rw_icmp_eq ⟨by omega, by omega⟩ ⟨by omega, by omega⟩ (t := 79) rfl (fun hc60 => ?_) (fun hc60 => ?_)
              · skip
                refine rw_blk lk_X10_isPlace_79 ?_
                refine rw_of (fun rr hrr => q_iconst (q_goto (t := 84) rfl hrr)) ?_
                refine rw_blk lk_X10_isPlace_84 ?_
                refine rw_of (fun rr hrr => q_istore (Nat.le_of_ble_eq_true rfl) rfl (q_iload rfl hrr)) ?_
                refine rw_if_eq ⟨by omega, by omega⟩ (t := 100) rfl (fun hc61 => ?_) (fun hc61 => ?_)
                · skip
                  refine rw_blk lk_X10_isPlace_100 ?_
                  refine rw_of (fun rr hrr => q_iconst hrr) ?_
                  refine rw_blk lk_X10_isPlace_101 ?_
                  refine rw_ret hQ (q_ireturn (by omega)) ?_
                  first
                    | exact ⟨rfl, rfl, rfl⟩
                    | (exfalso; omega)
                  
                · skip
                  refine rw_of (fun rr hrr => q_iload rfl hrr) ?_
                  refine rw_if_eq ⟨by omega, by omega⟩ (t := 100) rfl (fun hc62 => ?_) (fun hc62 => ?_)
                  · skip
                    refine rw_blk lk_X10_isPlace_100 ?_
                    refine rw_of (fun rr hrr => q_iconst hrr) ?_
                    refine rw_blk lk_X10_isPlace_101 ?_
                    refine rw_ret hQ (q_ireturn (by omega)) ?_
                    first
                      | exact ⟨rfl, rfl, rfl⟩
                      | (exfalso; omega)
                    
                  · skip
                    refine rw_of (fun rr hrr => q_iconst (q_goto (t := 101) rfl hrr)) ?_
                    refine rw_blk lk_X10_isPlace_101 ?_
                    refine rw_ret hQ (q_ireturn (by omega)) ?_
                    first
                      | exact ⟨rfl, rfl, rfl⟩
                      | (exfalso; omega)
                    
              · skip
                refine rw_of (fun rr hrr => q_iload rfl (q_iconst (q_aload_n rfl (q_getR (show SH 261 = (18, 0) from rfl) rfl (pt_261_1 hP) (q_iload_n rfl (q_iald (j := s) (show SH 262 = (1, 13) from rfl) rfl (by omega) (ki rfl hm (by omega)) (q_iconst (q_isub hrr)))))))) ?_
                obtain ⟨_, mm63, pp64, hV65, rfl, rfl, rfl⟩ := c_X10_isIn0 (S := S) (fz := fz) (m := m) (p := p) (d := d) (by omega) (j) (0) ((((n : Nat) : Int) - 1)) (by omega) (by omega) (by omega)
                refine rw_of (fun rr hrr => q_invS hV65 rfl rfl (okar_cons rfl (okar_cons rfl (okar_cons rfl okar_nil))) (Nat.le_of_ble_eq_true rfl) hrr) ?_
                refine rw_if_eq ⟨by omega, by omega⟩ (t := 83) rfl (fun hc66 => ?_) (fun hc66 => ?_)
                · skip
                  refine rw_blk lk_X10_isPlace_83 ?_
                  refine rw_of (fun rr hrr => q_iconst hrr) ?_
                  refine rw_blk lk_X10_isPlace_84 ?_
                  refine rw_of (fun rr hrr => q_istore (Nat.le_of_ble_eq_true rfl) rfl (q_iload rfl hrr)) ?_
                  refine rw_if_eq ⟨by omega, by omega⟩ (t := 100) rfl (fun hc67 => ?_) (fun hc67 => ?_)
                  · skip
                    refine rw_blk lk_X10_isPlace_100 ?_
                    refine rw_of (fun rr hrr => q_iconst hrr) ?_
                    refine rw_blk lk_X10_isPlace_101 ?_
                    refine rw_ret hQ (q_ireturn (by omega)) ?_
                    first
                      | exact ⟨rfl, rfl, rfl⟩
                      | (exfalso; omega)
                    
                  · skip
                    refine rw_of (fun rr hrr => q_iload rfl hrr) ?_
                    refine rw_if_eq ⟨by omega, by omega⟩ (t := 100) rfl (fun hc68 => ?_) (fun hc68 => ?_)
                    · skip
                      refine rw_blk lk_X10_isPlace_100 ?_
                      refine rw_of (fun rr hrr => q_iconst hrr) ?_
                      refine rw_blk lk_X10_isPlace_101 ?_
                      refine rw_ret hQ (q_ireturn (by omega)) ?_
                      first
                        | exact ⟨rfl, rfl, rfl⟩
                        | (exfalso; omega)
                      
                    · skip
                      refine rw_of (fun rr hrr => q_iconst (q_goto (t := 101) rfl hrr)) ?_
                      refine rw_blk lk_X10_isPlace_101 ?_
                      refine rw_ret hQ (q_ireturn (by omega)) ?_
                      first
                        | exact ⟨rfl, rfl, rfl⟩
                        | (exfalso; omega)
                      
                · skip
                  refine rw_blk lk_X10_isPlace_79 ?_
                  refine rw_of (fun rr hrr => q_iconst (q_goto (t := 84) rfl hrr)) ?_
                  refine rw_blk lk_X10_isPlace_84 ?_
                  refine rw_of (fun rr hrr => q_istore (Nat.le_of_ble_eq_true rfl) rfl (q_iload rfl hrr)) ?_
                  refine rw_if_eq ⟨by omega, by omega⟩ (t := 100) rfl (fun hc69 => ?_) (fun hc69 => ?_)
                  · skip
                    refine rw_blk lk_X10_isPlace_100 ?_
                    refine rw_of (fun rr hrr => q_iconst hrr) ?_
                    refine rw_blk lk_X10_isPlace_101 ?_
                    refine rw_ret hQ (q_ireturn (by omega)) ?_
                    first
                      | exact ⟨rfl, rfl, rfl⟩
                      | (exfalso; omega)
                    
                  · skip
                    refine rw_of (fun rr hrr => q_iload rfl hrr) ?_
                    refine rw_if_eq ⟨by omega, by omega⟩ (t := 100) rfl (fun hc70 => ?_) (fun hc70 => ?_)
                    · skip
                      refine rw_blk lk_X10_isPlace_100 ?_
                      refine rw_of (fun rr hrr => q_iconst hrr) ?_
                      refine rw_blk lk_X10_isPlace_101 ?_
                      refine rw_ret hQ (q_ireturn (by omega)) ?_
                      first
                        | exact ⟨rfl, rfl, rfl⟩
                        | (exfalso; omega)
                      
                    · skip
                      refine rw_of (fun rr hrr => q_iconst (q_goto (t := 101) rfl hrr)) ?_
                      refine rw_blk lk_X10_isPlace_101 ?_
                      refine rw_ret hQ (q_ireturn (by omega)) ?_
                      first
                        | exact ⟨rfl, rfl, rfl⟩
                        | (exfalso; omega)
                      
    · skip
      refine rw_blk lk_X10_isPlace_17 ?_
      refine rw_of (fun rr hrr => q_iconst hrr) ?_
      refine rw_ret hQ (q_ireturn (by omega)) ?_
      first
        | exact ⟨rfl, rfl, rfl⟩
        | (exfalso; omega)
      
theorem c_X10_isPlace0_01 {d : Nat} {S : MC} {fz : Bool} {m : M1} {p : M2} (hd : 3 ≤ d) (s k n : Nat) (i j : Int) (hP : PI p) (hk : m 261 0 = nF k) (hk12 : k ≤ 12) (hsk : s < k) (hm : m 262 s = nF n) (hn0 : 1 ≤ n) (hn : n ≤ 8) (hri : (-2147483648 ≤ i ∧ i < 2147483648)) (hrj : (-2147483648 ≤ j ∧ j < 2147483648)) (hi : i < 0 ∨ n ≤ i) (hj : 0 ≤ j ∧ j < n) : Ct d k_X10_isPlace S fz [.ref (261), .int (iI (((s : Nat) : Int))), .int (iI (0)), .int (iI (i)), .int (iI (j))] m p (fun v m' p' => v = some (.int (iI (0))) ∧ m = m' ∧ p = p') := by
  obtain ⟨d, rfl⟩ : ∃ e, d = e + 1 := ⟨d - 1, by omega⟩
  refine ct_go (lv := [some (.ref (261)), some (.int (iI (((s : Nat) : Int)))), some (.int (iI (0))), some (.int (iI (i))), some (.int (iI (j))), none, none]) (Nat.le_of_ble_eq_true rfl) (okar_cons rfl (okar_cons rfl (okar_cons rfl (okar_cons rfl (okar_cons rfl okar_nil))))) rfl (fun Qr hQ => ?_)
  refine rw_blk lk_X10_isPlace_0 ?_
  refine rw_of (fun rr hrr => q_aload_n rfl (q_iload_n rfl hrr)) ?_
  obtain ⟨_, mm1, pp2, hV3, rfl, rfl, rfl⟩ := c_X10_isSystem1 (S := S) (fz := fz) (m := m) (p := p) (d := d) (by omega) (((s : Nat) : Int)) (k) hP hk (by omega) (by omega) (by omega)
  refine rw_of (fun rr hrr => q_invV hV3 (show SH 261 = (18, 0) from rfl) rfl rfl (okar_cons rfl okar_nil) (Nat.le_of_ble_eq_true rfl) hrr) ?_
  refine rw_if_eq ⟨by omega, by omega⟩ (t := 17) rfl (fun hc4 => ?_) (fun hc4 => ?_)
  · skip
    refine rw_blk lk_X10_isPlace_17 ?_
    refine rw_of (fun rr hrr => q_iconst hrr) ?_
    refine rw_ret hQ (q_ireturn (by omega)) ?_
    first
      | exact ⟨rfl, rfl, rfl⟩
      | (exfalso; omega)
    
  · skip
    refine rw_of (fun rr hrr => q_iload_n rfl (q_iconst (q_iconst hrr))) ?_
    obtain ⟨_, mm5, pp6, hV7, rfl, rfl, rfl⟩ := c_X10_isIn1 (S := S) (fz := fz) (m := m) (p := p) (d := d) (by omega) (0) (0) (3) (by omega) (by omega) (by omega)
    refine rw_of (fun rr hrr => q_invS hV7 rfl rfl (okar_cons rfl (okar_cons rfl (okar_cons rfl okar_nil))) (Nat.le_of_ble_eq_true rfl) hrr) ?_
    refine rw_if_ne ⟨by omega, by omega⟩ (t := 19) rfl (fun hc8 => ?_) (fun hc8 => ?_)
    · skip
      refine rw_blk lk_X10_isPlace_19 ?_
      refine rw_of (fun rr hrr => q_iload_n rfl (q_iconst hrr)) ?_
      refine rw_icmp_eq ⟨by omega, by omega⟩ ⟨by omega, by omega⟩ (t := 45) rfl (fun hc9 => ?_) (fun hc9 => ?_)
      · skip
        refine rw_blk lk_X10_isPlace_45 ?_
        refine rw_of (fun rr hrr => q_iconst (q_goto (t := 50) rfl hrr)) ?_
        refine rw_blk lk_X10_isPlace_50 ?_
        refine rw_of (fun rr hrr => q_istore (Nat.le_of_ble_eq_true rfl) rfl (q_iload_n rfl (q_iconst hrr))) ?_
        refine rw_icmp_eq ⟨by omega, by omega⟩ ⟨by omega, by omega⟩ (t := 79) rfl (fun hc10 => ?_) (fun hc10 => ?_)
        · skip
          refine rw_blk lk_X10_isPlace_79 ?_
          refine rw_of (fun rr hrr => q_iconst (q_goto (t := 84) rfl hrr)) ?_
          refine rw_blk lk_X10_isPlace_84 ?_
          refine rw_of (fun rr hrr => q_istore (Nat.le_of_ble_eq_true rfl) rfl (q_iload rfl hrr)) ?_
          refine rw_if_eq ⟨by omega, by omega⟩ (t := 100) rfl (fun hc11 => ?_) (fun hc11 => ?_)
          · skip
            refine rw_blk lk_X10_isPlace_100 ?_
            refine rw_of (fun rr hrr => q_iconst hrr) ?_
            refine rw_blk lk_X10_isPlace_101 ?_
            refine rw_ret hQ (q_ireturn (by omega)) ?_
            first
              | exact ⟨rfl, rfl, rfl⟩
              | (exfalso; omega)
            
          · skip
            refine rw_of (fun rr hrr => q_iload rfl hrr) ?_
            refine rw_if_eq ⟨by omega, by omega⟩ (t := 100) rfl (fun hc12 => ?_) (fun hc12 => ?_)
            · skip
              refine rw_blk lk_X10_isPlace_100 ?_
              refine rw_of (fun rr hrr => q_iconst hrr) ?_
              refine rw_blk lk_X10_isPlace_101 ?_
              refine rw_ret hQ (q_ireturn (by omega)) ?_
              first
                | exact ⟨rfl, rfl, rfl⟩
                | (exfalso; omega)
              
            · skip
              refine rw_of (fun rr hrr => q_iconst (q_goto (t := 101) rfl hrr)) ?_
              refine rw_blk lk_X10_isPlace_101 ?_
              refine rw_ret hQ (q_ireturn (by omega)) ?_
              first
                | exact ⟨rfl, rfl, rfl⟩
                | (exfalso; omega)
              
        · skip
          refine rw_of (fun rr hrr => q_iload_n rfl (q_iconst hrr)) ?_
          refine rw_icmp_eq ⟨by omega, by omega⟩ ⟨by omega, by omega⟩ (t := 79) rfl (fun hc13 => ?_) (fun hc13 => ?_)
          · skip
            refine rw_blk lk_X10_isPlace_79 ?_
            refine rw_of (fun rr hrr => q_iconst (q_goto (t := 84) rfl hrr)) ?_
            refine rw_blk lk_X10_isPlace_84 ?_
            refine rw_of (fun rr hrr => q_istore (Nat.le_of_ble_eq_true rfl) rfl (q_iload rfl hrr)) ?_
            refine rw_if_eq ⟨by omega, by omega⟩ (t := 100) rfl (fun hc14 => ?_) (fun hc14 => ?_)
            · skip
              refine rw_blk lk_X10_isPlace_100 ?_
              refine rw_of (fun rr hrr => q_iconst hrr) ?_
              refine rw_blk lk_X10_isPlace_101 ?_
              refine rw_ret hQ (q_ireturn (by omega)) ?_
              first
                | exact ⟨rfl, rfl, rfl⟩
                | (exfalso; omega)
              
            · skip
              refine rw_of (fun rr hrr => q_iload rfl hrr) ?_
              refine rw_if_eq ⟨by omega, by omega⟩ (t := 100) rfl (fun hc15 => ?_) (fun hc15 => ?_)
              · skip
                refine rw_blk lk_X10_isPlace_100 ?_
                refine rw_of (fun rr hrr => q_iconst hrr) ?_
                refine rw_blk lk_X10_isPlace_101 ?_
                refine rw_ret hQ (q_ireturn (by omega)) ?_
                first
                  | exact ⟨rfl, rfl, rfl⟩
                  | (exfalso; omega)
                
              · skip
                refine rw_of (fun rr hrr => q_iconst (q_goto (t := 101) rfl hrr)) ?_
                refine rw_blk lk_X10_isPlace_101 ?_
                refine rw_ret hQ (q_ireturn (by omega)) ?_
                first
                  | exact ⟨rfl, rfl, rfl⟩
                  | (exfalso; omega)
                
          · skip
            refine rw_of (fun rr hrr => q_iload rfl (q_iconst (q_aload_n rfl (q_getR (show SH 261 = (18, 0) from rfl) rfl (pt_261_1 hP) (q_iload_n rfl (q_iald (j := s) (show SH 262 = (1, 13) from rfl) rfl (by omega) (ki rfl hm (by omega)) (q_iconst (q_isub hrr)))))))) ?_
            obtain ⟨_, mm16, pp17, hV18, rfl, rfl, rfl⟩ := c_X10_isIn1 (S := S) (fz := fz) (m := m) (p := p) (d := d) (by omega) (j) (0) ((((n : Nat) : Int) - 1)) (by omega) (by omega) (by omega)
            refine rw_of (fun rr hrr => q_invS hV18 rfl rfl (okar_cons rfl (okar_cons rfl (okar_cons rfl okar_nil))) (Nat.le_of_ble_eq_true rfl) hrr) ?_
            refine rw_if_eq ⟨by omega, by omega⟩ (t := 83) rfl (fun hc19 => ?_) (fun hc19 => ?_)
            · skip
              refine rw_blk lk_X10_isPlace_83 ?_
              refine rw_of (fun rr hrr => q_iconst hrr) ?_
              refine rw_blk lk_X10_isPlace_84 ?_
              refine rw_of (fun rr hrr => q_istore (Nat.le_of_ble_eq_true rfl) rfl (q_iload rfl hrr)) ?_
              refine rw_if_eq ⟨by omega, by omega⟩ (t := 100) rfl (fun hc20 => ?_) (fun hc20 => ?_)
              · skip
                refine rw_blk lk_X10_isPlace_100 ?_
                refine rw_of (fun rr hrr => q_iconst hrr) ?_
                refine rw_blk lk_X10_isPlace_101 ?_
                refine rw_ret hQ (q_ireturn (by omega)) ?_
                first
                  | exact ⟨rfl, rfl, rfl⟩
                  | (exfalso; omega)
                
              · skip
                refine rw_of (fun rr hrr => q_iload rfl hrr) ?_
                refine rw_if_eq ⟨by omega, by omega⟩ (t := 100) rfl (fun hc21 => ?_) (fun hc21 => ?_)
                · skip
                  refine rw_blk lk_X10_isPlace_100 ?_
                  refine rw_of (fun rr hrr => q_iconst hrr) ?_
                  refine rw_blk lk_X10_isPlace_101 ?_
                  refine rw_ret hQ (q_ireturn (by omega)) ?_
                  first
                    | exact ⟨rfl, rfl, rfl⟩
                    | (exfalso; omega)
                  
                · skip
                  refine rw_of (fun rr hrr => q_iconst (q_goto (t := 101) rfl hrr)) ?_
                  refine rw_blk lk_X10_isPlace_101 ?_
                  refine rw_ret hQ (q_ireturn (by omega)) ?_
                  first
                    | exact ⟨rfl, rfl, rfl⟩
                    | (exfalso; omega)
                  
            · skip
              refine rw_blk lk_X10_isPlace_79 ?_
              refine rw_of (fun rr hrr => q_iconst (q_goto (t := 84) rfl hrr)) ?_
              refine rw_blk lk_X10_isPlace_84 ?_
              refine rw_of (fun rr hrr => q_istore (Nat.le_of_ble_eq_true rfl) rfl (q_iload rfl hrr)) ?_
              refine rw_if_eq ⟨by omega, by omega⟩ (t := 100) rfl (fun hc22 => ?_) (fun hc22 => ?_)
              · skip
                refine rw_blk lk_X10_isPlace_100 ?_
                refine rw_of (fun rr hrr => q_iconst hrr) ?_
                refine rw_blk lk_X10_isPlace_101 ?_
                refine rw_ret hQ (q_ireturn (by omega)) ?_
                first
                  | exact ⟨rfl, rfl, rfl⟩
                  | (exfalso; omega)
                
              · skip
                refine rw_of (fun rr hrr => q_iload rfl hrr) ?_
                refine rw_if_eq ⟨by omega, by omega⟩ (t := 100) rfl (fun hc23 => ?_) (fun hc23 => ?_)
                · skip
                  refine rw_blk lk_X10_isPlace_100 ?_
                  refine rw_of (fun rr hrr => q_iconst hrr) ?_
                  refine rw_blk lk_X10_isPlace_101 ?_
                  refine rw_ret hQ (q_ireturn (by omega)) ?_
                  first
                    | exact ⟨rfl, rfl, rfl⟩
                    | (exfalso; omega)
                  
                · skip
                  refine rw_of (fun rr hrr => q_iconst (q_goto (t := 101) rfl hrr)) ?_
                  refine rw_blk lk_X10_isPlace_101 ?_
                  refine rw_ret hQ (q_ireturn (by omega)) ?_
                  first
                    | exact ⟨rfl, rfl, rfl⟩
                    | (exfalso; omega)
                  
      · skip
        refine rw_of (fun rr hrr => q_iload_n rfl (q_iconst hrr)) ?_
        refine rw_icmp_eq ⟨by omega, by omega⟩ ⟨by omega, by omega⟩ (t := 45) rfl (fun hc24 => ?_) (fun hc24 => ?_)
        · skip
          refine rw_blk lk_X10_isPlace_45 ?_
          refine rw_of (fun rr hrr => q_iconst (q_goto (t := 50) rfl hrr)) ?_
          refine rw_blk lk_X10_isPlace_50 ?_
          refine rw_of (fun rr hrr => q_istore (Nat.le_of_ble_eq_true rfl) rfl (q_iload_n rfl (q_iconst hrr))) ?_
          refine rw_icmp_eq ⟨by omega, by omega⟩ ⟨by omega, by omega⟩ (t := 79) rfl (fun hc25 => ?_) (fun hc25 => ?_)
          · skip
            refine rw_blk lk_X10_isPlace_79 ?_
            refine rw_of (fun rr hrr => q_iconst (q_goto (t := 84) rfl hrr)) ?_
            refine rw_blk lk_X10_isPlace_84 ?_
            refine rw_of (fun rr hrr => q_istore (Nat.le_of_ble_eq_true rfl) rfl (q_iload rfl hrr)) ?_
            refine rw_if_eq ⟨by omega, by omega⟩ (t := 100) rfl (fun hc26 => ?_) (fun hc26 => ?_)
            · skip
              refine rw_blk lk_X10_isPlace_100 ?_
              refine rw_of (fun rr hrr => q_iconst hrr) ?_
              refine rw_blk lk_X10_isPlace_101 ?_
              refine rw_ret hQ (q_ireturn (by omega)) ?_
              first
                | exact ⟨rfl, rfl, rfl⟩
                | (exfalso; omega)
              
            · skip
              refine rw_of (fun rr hrr => q_iload rfl hrr) ?_
              refine rw_if_eq ⟨by omega, by omega⟩ (t := 100) rfl (fun hc27 => ?_) (fun hc27 => ?_)
              · skip
                refine rw_blk lk_X10_isPlace_100 ?_
                refine rw_of (fun rr hrr => q_iconst hrr) ?_
                refine rw_blk lk_X10_isPlace_101 ?_
                refine rw_ret hQ (q_ireturn (by omega)) ?_
                first
                  | exact ⟨rfl, rfl, rfl⟩
                  | (exfalso; omega)
                
              · skip
                refine rw_of (fun rr hrr => q_iconst (q_goto (t := 101) rfl hrr)) ?_
                refine rw_blk lk_X10_isPlace_101 ?_
                refine rw_ret hQ (q_ireturn (by omega)) ?_
                first
                  | exact ⟨rfl, rfl, rfl⟩
                  | (exfalso; omega)
                
          · skip
            refine rw_of (fun rr hrr => q_iload_n rfl (q_iconst hrr)) ?_
            refine rw_icmp_eq ⟨by omega, by omega⟩ ⟨by omega, by omega⟩ (t := 79) rfl (fun hc28 => ?_) (fun hc28 => ?_)
            · skip
              refine rw_blk lk_X10_isPlace_79 ?_
              refine rw_of (fun rr hrr => q_iconst (q_goto (t := 84) rfl hrr)) ?_
              refine rw_blk lk_X10_isPlace_84 ?_
              refine rw_of (fun rr hrr => q_istore (Nat.le_of_ble_eq_true rfl) rfl (q_iload rfl hrr)) ?_
              refine rw_if_eq ⟨by omega, by omega⟩ (t := 100) rfl (fun hc29 => ?_) (fun hc29 => ?_)
              · skip
                refine rw_blk lk_X10_isPlace_100 ?_
                refine rw_of (fun rr hrr => q_iconst hrr) ?_
                refine rw_blk lk_X10_isPlace_101 ?_
                refine rw_ret hQ (q_ireturn (by omega)) ?_
                first
                  | exact ⟨rfl, rfl, rfl⟩
                  | (exfalso; omega)
                
              · skip
                refine rw_of (fun rr hrr => q_iload rfl hrr) ?_
                refine rw_if_eq ⟨by omega, by omega⟩ (t := 100) rfl (fun hc30 => ?_) (fun hc30 => ?_)
                · skip
                  refine rw_blk lk_X10_isPlace_100 ?_
                  refine rw_of (fun rr hrr => q_iconst hrr) ?_
                  refine rw_blk lk_X10_isPlace_101 ?_
                  refine rw_ret hQ (q_ireturn (by omega)) ?_
                  first
                    | exact ⟨rfl, rfl, rfl⟩
                    | (exfalso; omega)
                  
                · skip
                  refine rw_of (fun rr hrr => q_iconst (q_goto (t := 101) rfl hrr)) ?_
                  refine rw_blk lk_X10_isPlace_101 ?_
                  refine rw_ret hQ (q_ireturn (by omega)) ?_
                  first
                    | exact ⟨rfl, rfl, rfl⟩
                    | (exfalso; omega)
                  
            · skip
              refine rw_of (fun rr hrr => q_iload rfl (q_iconst (q_aload_n rfl (q_getR (show SH 261 = (18, 0) from rfl) rfl (pt_261_1 hP) (q_iload_n rfl (q_iald (j := s) (show SH 262 = (1, 13) from rfl) rfl (by omega) (ki rfl hm (by omega)) (q_iconst (q_isub hrr)))))))) ?_
              obtain ⟨_, mm31, pp32, hV33, rfl, rfl, rfl⟩ := c_X10_isIn1 (S := S) (fz := fz) (m := m) (p := p) (d := d) (by omega) (j) (0) ((((n : Nat) : Int) - 1)) (by omega) (by omega) (by omega)
              refine rw_of (fun rr hrr => q_invS hV33 rfl rfl (okar_cons rfl (okar_cons rfl (okar_cons rfl okar_nil))) (Nat.le_of_ble_eq_true rfl) hrr) ?_
              refine rw_if_eq ⟨by omega, by omega⟩ (t := 83) rfl (fun hc34 => ?_) (fun hc34 => ?_)
              · skip
                refine rw_blk lk_X10_isPlace_83 ?_
                refine rw_of (fun rr hrr => q_iconst hrr) ?_
                refine rw_blk lk_X10_isPlace_84 ?_
                refine rw_of (fun rr hrr => q_istore (Nat.le_of_ble_eq_true rfl) rfl (q_iload rfl hrr)) ?_
                refine rw_if_eq ⟨by omega, by omega⟩ (t := 100) rfl (fun hc35 => ?_) (fun hc35 => ?_)
                · skip
                  refine rw_blk lk_X10_isPlace_100 ?_
                  refine rw_of (fun rr hrr => q_iconst hrr) ?_
                  refine rw_blk lk_X10_isPlace_101 ?_
                  refine rw_ret hQ (q_ireturn (by omega)) ?_
                  first
                    | exact ⟨rfl, rfl, rfl⟩
                    | (exfalso; omega)
                  
                · skip
                  refine rw_of (fun rr hrr => q_iload rfl hrr) ?_
                  refine rw_if_eq ⟨by omega, by omega⟩ (t := 100) rfl (fun hc36 => ?_) (fun hc36 => ?_)
                  · skip
                    refine rw_blk lk_X10_isPlace_100 ?_
                    refine rw_of (fun rr hrr => q_iconst hrr) ?_
                    refine rw_blk lk_X10_isPlace_101 ?_
                    refine rw_ret hQ (q_ireturn (by omega)) ?_
                    first
                      | exact ⟨rfl, rfl, rfl⟩
                      | (exfalso; omega)
                    
                  · skip
                    refine rw_of (fun rr hrr => q_iconst (q_goto (t := 101) rfl hrr)) ?_
                    refine rw_blk lk_X10_isPlace_101 ?_
                    refine rw_ret hQ (q_ireturn (by omega)) ?_
                    first
                      | exact ⟨rfl, rfl, rfl⟩
                      | (exfalso; omega)
                    
              · skip
                refine rw_blk lk_X10_isPlace_79 ?_
                refine rw_of (fun rr hrr => q_iconst (q_goto (t := 84) rfl hrr)) ?_
                refine rw_blk lk_X10_isPlace_84 ?_
                refine rw_of (fun rr hrr => q_istore (Nat.le_of_ble_eq_true rfl) rfl (q_iload rfl hrr)) ?_
                refine rw_if_eq ⟨by omega, by omega⟩ (t := 100) rfl (fun hc37 => ?_) (fun hc37 => ?_)
                · skip
                  refine rw_blk lk_X10_isPlace_100 ?_
                  refine rw_of (fun rr hrr => q_iconst hrr) ?_
                  refine rw_blk lk_X10_isPlace_101 ?_
                  refine rw_ret hQ (q_ireturn (by omega)) ?_
                  first
                    | exact ⟨rfl, rfl, rfl⟩
                    | (exfalso; omega)
                  
                · skip
                  refine rw_of (fun rr hrr => q_iload rfl hrr) ?_
                  refine rw_if_eq ⟨by omega, by omega⟩ (t := 100) rfl (fun hc38 => ?_) (fun hc38 => ?_)
                  · skip
                    refine rw_blk lk_X10_isPlace_100 ?_
                    refine rw_of (fun rr hrr => q_iconst hrr) ?_
                    refine rw_blk lk_X10_isPlace_101 ?_
                    refine rw_ret hQ (q_ireturn (by omega)) ?_
                    first
                      | exact ⟨rfl, rfl, rfl⟩
                      | (exfalso; omega)
                    
                  · skip
                    refine rw_of (fun rr hrr => q_iconst (q_goto (t := 101) rfl hrr)) ?_
                    refine rw_blk lk_X10_isPlace_101 ?_
                    refine rw_ret hQ (q_ireturn (by omega)) ?_
                    first
                      | exact ⟨rfl, rfl, rfl⟩
                      | (exfalso; omega)
                    
        · skip
          refine rw_of (fun rr hrr => q_iload_n rfl (q_iconst (q_aload_n rfl (q_getR (show SH 261 = (18, 0) from rfl) rfl (pt_261_1 hP) (q_iload_n rfl (q_iald (j := s) (show SH 262 = (1, 13) from rfl) rfl (by omega) (ki rfl hm (by omega)) (q_iconst (q_isub hrr)))))))) ?_
          obtain ⟨_, mm39, pp40, hV41, rfl, rfl, rfl⟩ := c_X10_isIn0 (S := S) (fz := fz) (m := m) (p := p) (d := d) (by omega) (i) (0) ((((n : Nat) : Int) - 1)) (by omega) (by omega) (by omega)
          refine rw_of (fun rr hrr => q_invS hV41 rfl rfl (okar_cons rfl (okar_cons rfl (okar_cons rfl okar_nil))) (Nat.le_of_ble_eq_true rfl) hrr) ?_
          refine rw_if_eq ⟨by omega, by omega⟩ (t := 49) rfl (fun hc42 => ?_) (fun hc42 => ?_)
          · skip
            refine rw_blk lk_X10_isPlace_49 ?_
            refine rw_of (fun rr hrr => q_iconst hrr) ?_
            refine rw_blk lk_X10_isPlace_50 ?_
            refine rw_of (fun rr hrr => q_istore (Nat.le_of_ble_eq_true rfl) rfl (q_iload_n rfl (q_iconst hrr))) ?_
            refine rw_icmp_eq ⟨by omega, by omega⟩ ⟨by omega, by omega⟩ (t := 79) rfl (fun hc43 => ?_) (fun hc43 => ?_)
            · skip
              refine rw_blk lk_X10_isPlace_79 ?_
              refine rw_of (fun rr hrr => q_iconst (q_goto (t := 84) rfl hrr)) ?_
              refine rw_blk lk_X10_isPlace_84 ?_
              refine rw_of (fun rr hrr => q_istore (Nat.le_of_ble_eq_true rfl) rfl (q_iload rfl hrr)) ?_
              refine rw_if_eq ⟨by omega, by omega⟩ (t := 100) rfl (fun hc44 => ?_) (fun hc44 => ?_)
              · skip
                refine rw_blk lk_X10_isPlace_100 ?_
                refine rw_of (fun rr hrr => q_iconst hrr) ?_
                refine rw_blk lk_X10_isPlace_101 ?_
                refine rw_ret hQ (q_ireturn (by omega)) ?_
                first
                  | exact ⟨rfl, rfl, rfl⟩
                  | (exfalso; omega)
                
              · skip
                refine rw_of (fun rr hrr => q_iload rfl hrr) ?_
                refine rw_if_eq ⟨by omega, by omega⟩ (t := 100) rfl (fun hc45 => ?_) (fun hc45 => ?_)
                · skip
                  refine rw_blk lk_X10_isPlace_100 ?_
                  refine rw_of (fun rr hrr => q_iconst hrr) ?_
                  refine rw_blk lk_X10_isPlace_101 ?_
                  refine rw_ret hQ (q_ireturn (by omega)) ?_
                  first
                    | exact ⟨rfl, rfl, rfl⟩
                    | (exfalso; omega)
                  
                · skip
                  refine rw_of (fun rr hrr => q_iconst (q_goto (t := 101) rfl hrr)) ?_
                  refine rw_blk lk_X10_isPlace_101 ?_
                  refine rw_ret hQ (q_ireturn (by omega)) ?_
                  first
                    | exact ⟨rfl, rfl, rfl⟩
                    | (exfalso; omega)
                  
            · skip
              refine rw_of (fun rr hrr => q_iload_n rfl (q_iconst hrr)) ?_
              refine rw_icmp_eq ⟨by omega, by omega⟩ ⟨by omega, by omega⟩ (t := 79) rfl (fun hc46 => ?_) (fun hc46 => ?_)
              · skip
                refine rw_blk lk_X10_isPlace_79 ?_
                refine rw_of (fun rr hrr => q_iconst (q_goto (t := 84) rfl hrr)) ?_
                refine rw_blk lk_X10_isPlace_84 ?_
                refine rw_of (fun rr hrr => q_istore (Nat.le_of_ble_eq_true rfl) rfl (q_iload rfl hrr)) ?_
                refine rw_if_eq ⟨by omega, by omega⟩ (t := 100) rfl (fun hc47 => ?_) (fun hc47 => ?_)
                · skip
                  refine rw_blk lk_X10_isPlace_100 ?_
                  refine rw_of (fun rr hrr => q_iconst hrr) ?_
                  refine rw_blk lk_X10_isPlace_101 ?_
                  refine rw_ret hQ (q_ireturn (by omega)) ?_
                  first
                    | exact ⟨rfl, rfl, rfl⟩
                    | (exfalso; omega)
                  
                · skip
                  refine rw_of (fun rr hrr => q_iload rfl hrr) ?_
                  refine rw_if_eq ⟨by omega, by omega⟩ (t := 100) rfl (fun hc48 => ?_) (fun hc48 => ?_)
                  · skip
                    refine rw_blk lk_X10_isPlace_100 ?_
                    refine rw_of (fun rr hrr => q_iconst hrr) ?_
                    refine rw_blk lk_X10_isPlace_101 ?_
                    refine rw_ret hQ (q_ireturn (by omega)) ?_
                    first
                      | exact ⟨rfl, rfl, rfl⟩
                      | (exfalso; omega)
                    
                  · skip
                    refine rw_of (fun rr hrr => q_iconst (q_goto (t := 101) rfl hrr)) ?_
                    refine rw_blk lk_X10_isPlace_101 ?_
                    refine rw_ret hQ (q_ireturn (by omega)) ?_
                    first
                      | exact ⟨rfl, rfl, rfl⟩
                      | (exfalso; omega)
                    
              · skip
                refine rw_of (fun rr hrr => q_iload rfl (q_iconst (q_aload_n rfl (q_getR (show SH 261 = (18, 0) from rfl) rfl (pt_261_1 hP) (q_iload_n rfl (q_iald (j := s) (show SH 262 = (1, 13) from rfl) rfl (by omega) (ki rfl hm (by omega)) (q_iconst (q_isub hrr)))))))) ?_
                obtain ⟨_, mm49, pp50, hV51, rfl, rfl, rfl⟩ := c_X10_isIn1 (S := S) (fz := fz) (m := m) (p := p) (d := d) (by omega) (j) (0) ((((n : Nat) : Int) - 1)) (by omega) (by omega) (by omega)
                refine rw_of (fun rr hrr => q_invS hV51 rfl rfl (okar_cons rfl (okar_cons rfl (okar_cons rfl okar_nil))) (Nat.le_of_ble_eq_true rfl) hrr) ?_
                refine rw_if_eq ⟨by omega, by omega⟩ (t := 83) rfl (fun hc52 => ?_) (fun hc52 => ?_)
                · skip
                  refine rw_blk lk_X10_isPlace_83 ?_
                  refine rw_of (fun rr hrr => q_iconst hrr) ?_
                  refine rw_blk lk_X10_isPlace_84 ?_
                  refine rw_of (fun rr hrr => q_istore (Nat.le_of_ble_eq_true rfl) rfl (q_iload rfl hrr)) ?_
                  refine rw_if_eq ⟨by omega, by omega⟩ (t := 100) rfl (fun hc53 => ?_) (fun hc53 => ?_)
                  · skip
                    refine rw_blk lk_X10_isPlace_100 ?_
                    refine rw_of (fun rr hrr => q_iconst hrr) ?_
                    refine rw_blk lk_X10_isPlace_101 ?_
                    refine rw_ret hQ (q_ireturn (by omega)) ?_
                    first
                      | exact ⟨rfl, rfl, rfl⟩
                      | (exfalso; omega)
                    
                  · skip
                    refine rw_of (fun rr hrr => q_iload rfl hrr) ?_
                    refine rw_if_eq ⟨by omega, by omega⟩ (t := 100) rfl (fun hc54 => ?_) (fun hc54 => ?_)
                    · skip
                      refine rw_blk lk_X10_isPlace_100 ?_
                      refine rw_of (fun rr hrr => q_iconst hrr) ?_
                      refine rw_blk lk_X10_isPlace_101 ?_
                      refine rw_ret hQ (q_ireturn (by omega)) ?_
                      first
                        | exact ⟨rfl, rfl, rfl⟩
                        | (exfalso; omega)
                      
                    · skip
                      refine rw_of (fun rr hrr => q_iconst (q_goto (t := 101) rfl hrr)) ?_
                      refine rw_blk lk_X10_isPlace_101 ?_
                      refine rw_ret hQ (q_ireturn (by omega)) ?_
                      first
                        | exact ⟨rfl, rfl, rfl⟩
                        | (exfalso; omega)
                      
                · skip
                  refine rw_blk lk_X10_isPlace_79 ?_
                  refine rw_of (fun rr hrr => q_iconst (q_goto (t := 84) rfl hrr)) ?_
                  refine rw_blk lk_X10_isPlace_84 ?_
                  refine rw_of (fun rr hrr => q_istore (Nat.le_of_ble_eq_true rfl) rfl (q_iload rfl hrr)) ?_
                  refine rw_if_eq ⟨by omega, by omega⟩ (t := 100) rfl (fun hc55 => ?_) (fun hc55 => ?_)
                  · skip
                    refine rw_blk lk_X10_isPlace_100 ?_
                    refine rw_of (fun rr hrr => q_iconst hrr) ?_
                    refine rw_blk lk_X10_isPlace_101 ?_
                    refine rw_ret hQ (q_ireturn (by omega)) ?_
                    first
                      | exact ⟨rfl, rfl, rfl⟩
                      | (exfalso; omega)
                    
                  · skip
                    refine rw_of (fun rr hrr => q_iload rfl hrr) ?_
                    refine rw_if_eq ⟨by omega, by omega⟩ (t := 100) rfl (fun hc56 => ?_) (fun hc56 => ?_)
                    · skip
                      refine rw_blk lk_X10_isPlace_100 ?_
                      refine rw_of (fun rr hrr => q_iconst hrr) ?_
                      refine rw_blk lk_X10_isPlace_101 ?_
                      refine rw_ret hQ (q_ireturn (by omega)) ?_
                      first
                        | exact ⟨rfl, rfl, rfl⟩
                        | (exfalso; omega)
                      
                    · skip
                      refine rw_of (fun rr hrr => q_iconst (q_goto (t := 101) rfl hrr)) ?_
                      refine rw_blk lk_X10_isPlace_101 ?_
                      refine rw_ret hQ (q_ireturn (by omega)) ?_
                      first
                        | exact ⟨rfl, rfl, rfl⟩
                        | (exfalso; omega)
                      
          · skip
            refine rw_blk lk_X10_isPlace_45 ?_
            refine rw_of (fun rr hrr => q_iconst (q_goto (t := 50) rfl hrr)) ?_
            refine rw_blk lk_X10_isPlace_50 ?_
            refine rw_of (fun rr hrr => q_istore (Nat.le_of_ble_eq_true rfl) rfl (q_iload_n rfl (q_iconst hrr))) ?_
            refine rw_icmp_eq ⟨by omega, by omega⟩ ⟨by omega, by omega⟩ (t := 79) rfl (fun hc57 => ?_) (fun hc57 => ?_)
            · skip
              refine rw_blk lk_X10_isPlace_79 ?_
              refine rw_of (fun rr hrr => q_iconst (q_goto (t := 84) rfl hrr)) ?_
              refine rw_blk lk_X10_isPlace_84 ?_
              refine rw_of (fun rr hrr => q_istore (Nat.le_of_ble_eq_true rfl) rfl (q_iload rfl hrr)) ?_
              refine rw_if_eq ⟨by omega, by omega⟩ (t := 100) rfl (fun hc58 => ?_) (fun hc58 => ?_)
              · skip
                refine rw_blk lk_X10_isPlace_100 ?_
                refine rw_of (fun rr hrr => q_iconst hrr) ?_
                refine rw_blk lk_X10_isPlace_101 ?_
                refine rw_ret hQ (q_ireturn (by omega)) ?_
                first
                  | exact ⟨rfl, rfl, rfl⟩
                  | (exfalso; omega)
                
              · skip
                refine rw_of (fun rr hrr => q_iload rfl hrr) ?_
                refine rw_if_eq ⟨by omega, by omega⟩ (t := 100) rfl (fun hc59 => ?_) (fun hc59 => ?_)
                · skip
                  refine rw_blk lk_X10_isPlace_100 ?_
                  refine rw_of (fun rr hrr => q_iconst hrr) ?_
                  refine rw_blk lk_X10_isPlace_101 ?_
                  refine rw_ret hQ (q_ireturn (by omega)) ?_
                  first
                    | exact ⟨rfl, rfl, rfl⟩
                    | (exfalso; omega)
                  
                · skip
                  refine rw_of (fun rr hrr => q_iconst (q_goto (t := 101) rfl hrr)) ?_
                  refine rw_blk lk_X10_isPlace_101 ?_
                  refine rw_ret hQ (q_ireturn (by omega)) ?_
                  first
                    | exact ⟨rfl, rfl, rfl⟩
                    | (exfalso; omega)
                  
            · skip
              refine rw_of (fun rr hrr => q_iload_n rfl (q_iconst hrr)) ?_
              refine rw_icmp_eq ⟨by omega, by omega⟩ ⟨by omega, by omega⟩ (t := 79) rfl (fun hc60 => ?_) (fun hc60 => ?_)
              · skip
                refine rw_blk lk_X10_isPlace_79 ?_
                refine rw_of (fun rr hrr => q_iconst (q_goto (t := 84) rfl hrr)) ?_
                refine rw_blk lk_X10_isPlace_84 ?_
                refine rw_of (fun rr hrr => q_istore (Nat.le_of_ble_eq_true rfl) rfl (q_iload rfl hrr)) ?_
                refine rw_if_eq ⟨by omega, by omega⟩ (t := 100) rfl (fun hc61 => ?_) (fun hc61 => ?_)
                · skip
                  refine rw_blk lk_X10_isPlace_100 ?_
                  refine rw_of (fun rr hrr => q_iconst hrr) ?_
                  refine rw_blk lk_X10_isPlace_101 ?_
                  refine rw_ret hQ (q_ireturn (by omega)) ?_
                  first
                    | exact ⟨rfl, rfl, rfl⟩
                    | (exfalso; omega)
                  
                · skip
                  refine rw_of (fun rr hrr => q_iload rfl hrr) ?_
                  refine rw_if_eq ⟨by omega, by omega⟩ (t := 100) rfl (fun hc62 => ?_) (fun hc62 => ?_)
                  · skip
                    refine rw_blk lk_X10_isPlace_100 ?_
                    refine rw_of (fun rr hrr => q_iconst hrr) ?_
                    refine rw_blk lk_X10_isPlace_101 ?_
                    refine rw_ret hQ (q_ireturn (by omega)) ?_
                    first
                      | exact ⟨rfl, rfl, rfl⟩
                      | (exfalso; omega)
                    
                  · skip
                    refine rw_of (fun rr hrr => q_iconst (q_goto (t := 101) rfl hrr)) ?_
                    refine rw_blk lk_X10_isPlace_101 ?_
                    refine rw_ret hQ (q_ireturn (by omega)) ?_
                    first
                      | exact ⟨rfl, rfl, rfl⟩
                      | (exfalso; omega)
                    
              · skip
                refine rw_of (fun rr hrr => q_iload rfl (q_iconst (q_aload_n rfl (q_getR (show SH 261 = (18, 0) from rfl) rfl (pt_261_1 hP) (q_iload_n rfl (q_iald (j := s) (show SH 262 = (1, 13) from rfl) rfl (by omega) (ki rfl hm (by omega)) (q_iconst (q_isub hrr)))))))) ?_
                obtain ⟨_, mm63, pp64, hV65, rfl, rfl, rfl⟩ := c_X10_isIn1 (S := S) (fz := fz) (m := m) (p := p) (d := d) (by omega) (j) (0) ((((n : Nat) : Int) - 1)) (by omega) (by omega) (by omega)
                refine rw_of (fun rr hrr => q_invS hV65 rfl rfl (okar_cons rfl (okar_cons rfl (okar_cons rfl okar_nil))) (Nat.le_of_ble_eq_true rfl) hrr) ?_
                refine rw_if_eq ⟨by omega, by omega⟩ (t := 83) rfl (fun hc66 => ?_) (fun hc66 => ?_)
                · skip
                  refine rw_blk lk_X10_isPlace_83 ?_
                  refine rw_of (fun rr hrr => q_iconst hrr) ?_
                  refine rw_blk lk_X10_isPlace_84 ?_
                  refine rw_of (fun rr hrr => q_istore (Nat.le_of_ble_eq_true rfl) rfl (q_iload rfl hrr)) ?_
                  refine rw_if_eq ⟨by omega, by omega⟩ (t := 100) rfl (fun hc67 => ?_) (fun hc67 => ?_)
                  · skip
                    refine rw_blk lk_X10_isPlace_100 ?_
                    refine rw_of (fun rr hrr => q_iconst hrr) ?_
                    refine rw_blk lk_X10_isPlace_101 ?_
                    refine rw_ret hQ (q_ireturn (by omega)) ?_
                    first
                      | exact ⟨rfl, rfl, rfl⟩
                      | (exfalso; omega)
                    
                  · skip
                    refine rw_of (fun rr hrr => q_iload rfl hrr) ?_
                    refine rw_if_eq ⟨by omega, by omega⟩ (t := 100) rfl (fun hc68 => ?_) (fun hc68 => ?_)
                    · skip
                      refine rw_blk lk_X10_isPlace_100 ?_
                      refine rw_of (fun rr hrr => q_iconst hrr) ?_
                      refine rw_blk lk_X10_isPlace_101 ?_
                      refine rw_ret hQ (q_ireturn (by omega)) ?_
                      first
                        | exact ⟨rfl, rfl, rfl⟩
                        | (exfalso; omega)
                      
                    · skip
                      refine rw_of (fun rr hrr => q_iconst (q_goto (t := 101) rfl hrr)) ?_
                      refine rw_blk lk_X10_isPlace_101 ?_
                      refine rw_ret hQ (q_ireturn (by omega)) ?_
                      first
                        | exact ⟨rfl, rfl, rfl⟩
                        | (exfalso; omega)
                      
                · skip
                  refine rw_blk lk_X10_isPlace_79 ?_
                  refine rw_of (fun rr hrr => q_iconst (q_goto (t := 84) rfl hrr)) ?_
                  refine rw_blk lk_X10_isPlace_84 ?_
                  refine rw_of (fun rr hrr => q_istore (Nat.le_of_ble_eq_true rfl) rfl (q_iload rfl hrr)) ?_
                  refine rw_if_eq ⟨by omega, by omega⟩ (t := 100) rfl (fun hc69 => ?_) (fun hc69 => ?_)
                  · skip
                    refine rw_blk lk_X10_isPlace_100 ?_
                    refine rw_of (fun rr hrr => q_iconst hrr) ?_
                    refine rw_blk lk_X10_isPlace_101 ?_
                    refine rw_ret hQ (q_ireturn (by omega)) ?_
                    first
                      | exact ⟨rfl, rfl, rfl⟩
                      | (exfalso; omega)
                    
                  · skip
                    refine rw_of (fun rr hrr => q_iload rfl hrr) ?_
                    refine rw_if_eq ⟨by omega, by omega⟩ (t := 100) rfl (fun hc70 => ?_) (fun hc70 => ?_)
                    · skip
                      refine rw_blk lk_X10_isPlace_100 ?_
                      refine rw_of (fun rr hrr => q_iconst hrr) ?_
                      refine rw_blk lk_X10_isPlace_101 ?_
                      refine rw_ret hQ (q_ireturn (by omega)) ?_
                      first
                        | exact ⟨rfl, rfl, rfl⟩
                        | (exfalso; omega)
                      
                    · skip
                      refine rw_of (fun rr hrr => q_iconst (q_goto (t := 101) rfl hrr)) ?_
                      refine rw_blk lk_X10_isPlace_101 ?_
                      refine rw_ret hQ (q_ireturn (by omega)) ?_
                      first
                        | exact ⟨rfl, rfl, rfl⟩
                        | (exfalso; omega)
                      
    · skip
      refine rw_blk lk_X10_isPlace_17 ?_
      refine rw_of (fun rr hrr => q_iconst hrr) ?_
      refine rw_ret hQ (q_ireturn (by omega)) ?_
      first
        | exact ⟨rfl, rfl, rfl⟩
        | (exfalso; omega)
      
theorem c_X10_isPlace0_00 {d : Nat} {S : MC} {fz : Bool} {m : M1} {p : M2} (hd : 3 ≤ d) (s k n : Nat) (i j : Int) (hP : PI p) (hk : m 261 0 = nF k) (hk12 : k ≤ 12) (hsk : s < k) (hm : m 262 s = nF n) (hn0 : 1 ≤ n) (hn : n ≤ 8) (hri : (-2147483648 ≤ i ∧ i < 2147483648)) (hrj : (-2147483648 ≤ j ∧ j < 2147483648)) (hi : i < 0 ∨ n ≤ i) (hj : j < 0 ∨ n ≤ j) : Ct d k_X10_isPlace S fz [.ref (261), .int (iI (((s : Nat) : Int))), .int (iI (0)), .int (iI (i)), .int (iI (j))] m p (fun v m' p' => v = some (.int (iI (0))) ∧ m = m' ∧ p = p') := by
  obtain ⟨d, rfl⟩ : ∃ e, d = e + 1 := ⟨d - 1, by omega⟩
  refine ct_go (lv := [some (.ref (261)), some (.int (iI (((s : Nat) : Int)))), some (.int (iI (0))), some (.int (iI (i))), some (.int (iI (j))), none, none]) (Nat.le_of_ble_eq_true rfl) (okar_cons rfl (okar_cons rfl (okar_cons rfl (okar_cons rfl (okar_cons rfl okar_nil))))) rfl (fun Qr hQ => ?_)
  refine rw_blk lk_X10_isPlace_0 ?_
  refine rw_of (fun rr hrr => q_aload_n rfl (q_iload_n rfl hrr)) ?_
  obtain ⟨_, mm1, pp2, hV3, rfl, rfl, rfl⟩ := c_X10_isSystem1 (S := S) (fz := fz) (m := m) (p := p) (d := d) (by omega) (((s : Nat) : Int)) (k) hP hk (by omega) (by omega) (by omega)
  refine rw_of (fun rr hrr => q_invV hV3 (show SH 261 = (18, 0) from rfl) rfl rfl (okar_cons rfl okar_nil) (Nat.le_of_ble_eq_true rfl) hrr) ?_
  refine rw_if_eq ⟨by omega, by omega⟩ (t := 17) rfl (fun hc4 => ?_) (fun hc4 => ?_)
  · skip
    refine rw_blk lk_X10_isPlace_17 ?_
    refine rw_of (fun rr hrr => q_iconst hrr) ?_
    refine rw_ret hQ (q_ireturn (by omega)) ?_
    first
      | exact ⟨rfl, rfl, rfl⟩
      | (exfalso; omega)
    
  · skip
    refine rw_of (fun rr hrr => q_iload_n rfl (q_iconst (q_iconst hrr))) ?_
    obtain ⟨_, mm5, pp6, hV7, rfl, rfl, rfl⟩ := c_X10_isIn1 (S := S) (fz := fz) (m := m) (p := p) (d := d) (by omega) (0) (0) (3) (by omega) (by omega) (by omega)
    refine rw_of (fun rr hrr => q_invS hV7 rfl rfl (okar_cons rfl (okar_cons rfl (okar_cons rfl okar_nil))) (Nat.le_of_ble_eq_true rfl) hrr) ?_
    refine rw_if_ne ⟨by omega, by omega⟩ (t := 19) rfl (fun hc8 => ?_) (fun hc8 => ?_)
    · skip
      refine rw_blk lk_X10_isPlace_19 ?_
      refine rw_of (fun rr hrr => q_iload_n rfl (q_iconst hrr)) ?_
      refine rw_icmp_eq ⟨by omega, by omega⟩ ⟨by omega, by omega⟩ (t := 45) rfl (fun hc9 => ?_) (fun hc9 => ?_)
      · skip
        refine rw_blk lk_X10_isPlace_45 ?_
        refine rw_of (fun rr hrr => q_iconst (q_goto (t := 50) rfl hrr)) ?_
        refine rw_blk lk_X10_isPlace_50 ?_
        refine rw_of (fun rr hrr => q_istore (Nat.le_of_ble_eq_true rfl) rfl (q_iload_n rfl (q_iconst hrr))) ?_
        refine rw_icmp_eq ⟨by omega, by omega⟩ ⟨by omega, by omega⟩ (t := 79) rfl (fun hc10 => ?_) (fun hc10 => ?_)
        · skip
          refine rw_blk lk_X10_isPlace_79 ?_
          refine rw_of (fun rr hrr => q_iconst (q_goto (t := 84) rfl hrr)) ?_
          refine rw_blk lk_X10_isPlace_84 ?_
          refine rw_of (fun rr hrr => q_istore (Nat.le_of_ble_eq_true rfl) rfl (q_iload rfl hrr)) ?_
          refine rw_if_eq ⟨by omega, by omega⟩ (t := 100) rfl (fun hc11 => ?_) (fun hc11 => ?_)
          · skip
            refine rw_blk lk_X10_isPlace_100 ?_
            refine rw_of (fun rr hrr => q_iconst hrr) ?_
            refine rw_blk lk_X10_isPlace_101 ?_
            refine rw_ret hQ (q_ireturn (by omega)) ?_
            first
              | exact ⟨rfl, rfl, rfl⟩
              | (exfalso; omega)
            
          · skip
            refine rw_of (fun rr hrr => q_iload rfl hrr) ?_
            refine rw_if_eq ⟨by omega, by omega⟩ (t := 100) rfl (fun hc12 => ?_) (fun hc12 => ?_)
            · skip
              refine rw_blk lk_X10_isPlace_100 ?_
              refine rw_of (fun rr hrr => q_iconst hrr) ?_
              refine rw_blk lk_X10_isPlace_101 ?_
              refine rw_ret hQ (q_ireturn (by omega)) ?_
              first
                | exact ⟨rfl, rfl, rfl⟩
                | (exfalso; omega)
              
            · skip
              refine rw_of (fun rr hrr => q_iconst (q_goto (t := 101) rfl hrr)) ?_
              refine rw_blk lk_X10_isPlace_101 ?_
              refine rw_ret hQ (q_ireturn (by omega)) ?_
              first
                | exact ⟨rfl, rfl, rfl⟩
                | (exfalso; omega)
              
        · skip
          refine rw_of (fun rr hrr => q_iload_n rfl (q_iconst hrr)) ?_
          refine rw_icmp_eq ⟨by omega, by omega⟩ ⟨by omega, by omega⟩ (t := 79) rfl (fun hc13 => ?_) (fun hc13 => ?_)
          · skip
            refine rw_blk lk_X10_isPlace_79 ?_
            refine rw_of (fun rr hrr => q_iconst (q_goto (t := 84) rfl hrr)) ?_
            refine rw_blk lk_X10_isPlace_84 ?_
            refine rw_of (fun rr hrr => q_istore (Nat.le_of_ble_eq_true rfl) rfl (q_iload rfl hrr)) ?_
            refine rw_if_eq ⟨by omega, by omega⟩ (t := 100) rfl (fun hc14 => ?_) (fun hc14 => ?_)
            · skip
              refine rw_blk lk_X10_isPlace_100 ?_
              refine rw_of (fun rr hrr => q_iconst hrr) ?_
              refine rw_blk lk_X10_isPlace_101 ?_
              refine rw_ret hQ (q_ireturn (by omega)) ?_
              first
                | exact ⟨rfl, rfl, rfl⟩
                | (exfalso; omega)
              
            · skip
              refine rw_of (fun rr hrr => q_iload rfl hrr) ?_
              refine rw_if_eq ⟨by omega, by omega⟩ (t := 100) rfl (fun hc15 => ?_) (fun hc15 => ?_)
              · skip
                refine rw_blk lk_X10_isPlace_100 ?_
                refine rw_of (fun rr hrr => q_iconst hrr) ?_
                refine rw_blk lk_X10_isPlace_101 ?_
                refine rw_ret hQ (q_ireturn (by omega)) ?_
                first
                  | exact ⟨rfl, rfl, rfl⟩
                  | (exfalso; omega)
                
              · skip
                refine rw_of (fun rr hrr => q_iconst (q_goto (t := 101) rfl hrr)) ?_
                refine rw_blk lk_X10_isPlace_101 ?_
                refine rw_ret hQ (q_ireturn (by omega)) ?_
                first
                  | exact ⟨rfl, rfl, rfl⟩
                  | (exfalso; omega)
                
          · skip
            refine rw_of (fun rr hrr => q_iload rfl (q_iconst (q_aload_n rfl (q_getR (show SH 261 = (18, 0) from rfl) rfl (pt_261_1 hP) (q_iload_n rfl (q_iald (j := s) (show SH 262 = (1, 13) from rfl) rfl (by omega) (ki rfl hm (by omega)) (q_iconst (q_isub hrr)))))))) ?_
            obtain ⟨_, mm16, pp17, hV18, rfl, rfl, rfl⟩ := c_X10_isIn0 (S := S) (fz := fz) (m := m) (p := p) (d := d) (by omega) (j) (0) ((((n : Nat) : Int) - 1)) (by omega) (by omega) (by omega)
            refine rw_of (fun rr hrr => q_invS hV18 rfl rfl (okar_cons rfl (okar_cons rfl (okar_cons rfl okar_nil))) (Nat.le_of_ble_eq_true rfl) hrr) ?_
            refine rw_if_eq ⟨by omega, by omega⟩ (t := 83) rfl (fun hc19 => ?_) (fun hc19 => ?_)
            · skip
              refine rw_blk lk_X10_isPlace_83 ?_
              refine rw_of (fun rr hrr => q_iconst hrr) ?_
              refine rw_blk lk_X10_isPlace_84 ?_
              refine rw_of (fun rr hrr => q_istore (Nat.le_of_ble_eq_true rfl) rfl (q_iload rfl hrr)) ?_
              refine rw_if_eq ⟨by omega, by omega⟩ (t := 100) rfl (fun hc20 => ?_) (fun hc20 => ?_)
              · skip
                refine rw_blk lk_X10_isPlace_100 ?_
                refine rw_of (fun rr hrr => q_iconst hrr) ?_
                refine rw_blk lk_X10_isPlace_101 ?_
                refine rw_ret hQ (q_ireturn (by omega)) ?_
                first
                  | exact ⟨rfl, rfl, rfl⟩
                  | (exfalso; omega)
                
              · skip
                refine rw_of (fun rr hrr => q_iload rfl hrr) ?_
                refine rw_if_eq ⟨by omega, by omega⟩ (t := 100) rfl (fun hc21 => ?_) (fun hc21 => ?_)
                · skip
                  refine rw_blk lk_X10_isPlace_100 ?_
                  refine rw_of (fun rr hrr => q_iconst hrr) ?_
                  refine rw_blk lk_X10_isPlace_101 ?_
                  refine rw_ret hQ (q_ireturn (by omega)) ?_
                  first
                    | exact ⟨rfl, rfl, rfl⟩
                    | (exfalso; omega)
                  
                · skip
                  refine rw_of (fun rr hrr => q_iconst (q_goto (t := 101) rfl hrr)) ?_
                  refine rw_blk lk_X10_isPlace_101 ?_
                  refine rw_ret hQ (q_ireturn (by omega)) ?_
                  first
                    | exact ⟨rfl, rfl, rfl⟩
                    | (exfalso; omega)
                  
            · skip
              refine rw_blk lk_X10_isPlace_79 ?_
              refine rw_of (fun rr hrr => q_iconst (q_goto (t := 84) rfl hrr)) ?_
              refine rw_blk lk_X10_isPlace_84 ?_
              refine rw_of (fun rr hrr => q_istore (Nat.le_of_ble_eq_true rfl) rfl (q_iload rfl hrr)) ?_
              refine rw_if_eq ⟨by omega, by omega⟩ (t := 100) rfl (fun hc22 => ?_) (fun hc22 => ?_)
              · skip
                refine rw_blk lk_X10_isPlace_100 ?_
                refine rw_of (fun rr hrr => q_iconst hrr) ?_
                refine rw_blk lk_X10_isPlace_101 ?_
                refine rw_ret hQ (q_ireturn (by omega)) ?_
                first
                  | exact ⟨rfl, rfl, rfl⟩
                  | (exfalso; omega)
                
              · skip
                refine rw_of (fun rr hrr => q_iload rfl hrr) ?_
                refine rw_if_eq ⟨by omega, by omega⟩ (t := 100) rfl (fun hc23 => ?_) (fun hc23 => ?_)
                · skip
                  refine rw_blk lk_X10_isPlace_100 ?_
                  refine rw_of (fun rr hrr => q_iconst hrr) ?_
                  refine rw_blk lk_X10_isPlace_101 ?_
                  refine rw_ret hQ (q_ireturn (by omega)) ?_
                  first
                    | exact ⟨rfl, rfl, rfl⟩
                    | (exfalso; omega)
                  
                · skip
                  refine rw_of (fun rr hrr => q_iconst (q_goto (t := 101) rfl hrr)) ?_
                  refine rw_blk lk_X10_isPlace_101 ?_
                  refine rw_ret hQ (q_ireturn (by omega)) ?_
                  first
                    | exact ⟨rfl, rfl, rfl⟩
                    | (exfalso; omega)
                  
      · skip
        refine rw_of (fun rr hrr => q_iload_n rfl (q_iconst hrr)) ?_
        refine rw_icmp_eq ⟨by omega, by omega⟩ ⟨by omega, by omega⟩ (t := 45) rfl (fun hc24 => ?_) (fun hc24 => ?_)
        · skip
          refine rw_blk lk_X10_isPlace_45 ?_
          refine rw_of (fun rr hrr => q_iconst (q_goto (t := 50) rfl hrr)) ?_
          refine rw_blk lk_X10_isPlace_50 ?_
          refine rw_of (fun rr hrr => q_istore (Nat.le_of_ble_eq_true rfl) rfl (q_iload_n rfl (q_iconst hrr))) ?_
          refine rw_icmp_eq ⟨by omega, by omega⟩ ⟨by omega, by omega⟩ (t := 79) rfl (fun hc25 => ?_) (fun hc25 => ?_)
          · skip
            refine rw_blk lk_X10_isPlace_79 ?_
            refine rw_of (fun rr hrr => q_iconst (q_goto (t := 84) rfl hrr)) ?_
            refine rw_blk lk_X10_isPlace_84 ?_
            refine rw_of (fun rr hrr => q_istore (Nat.le_of_ble_eq_true rfl) rfl (q_iload rfl hrr)) ?_
            refine rw_if_eq ⟨by omega, by omega⟩ (t := 100) rfl (fun hc26 => ?_) (fun hc26 => ?_)
            · skip
              refine rw_blk lk_X10_isPlace_100 ?_
              refine rw_of (fun rr hrr => q_iconst hrr) ?_
              refine rw_blk lk_X10_isPlace_101 ?_
              refine rw_ret hQ (q_ireturn (by omega)) ?_
              first
                | exact ⟨rfl, rfl, rfl⟩
                | (exfalso; omega)
              
            · skip
              refine rw_of (fun rr hrr => q_iload rfl hrr) ?_
              refine rw_if_eq ⟨by omega, by omega⟩ (t := 100) rfl (fun hc27 => ?_) (fun hc27 => ?_)
              · skip
                refine rw_blk lk_X10_isPlace_100 ?_
                refine rw_of (fun rr hrr => q_iconst hrr) ?_
                refine rw_blk lk_X10_isPlace_101 ?_
                refine rw_ret hQ (q_ireturn (by omega)) ?_
                first
                  | exact ⟨rfl, rfl, rfl⟩
                  | (exfalso; omega)
                
              · skip
                refine rw_of (fun rr hrr => q_iconst (q_goto (t := 101) rfl hrr)) ?_
                refine rw_blk lk_X10_isPlace_101 ?_
                refine rw_ret hQ (q_ireturn (by omega)) ?_
                first
                  | exact ⟨rfl, rfl, rfl⟩
                  | (exfalso; omega)
                
          · skip
            refine rw_of (fun rr hrr => q_iload_n rfl (q_iconst hrr)) ?_
            refine rw_icmp_eq ⟨by omega, by omega⟩ ⟨by omega, by omega⟩ (t := 79) rfl (fun hc28 => ?_) (fun hc28 => ?_)
            · skip
              refine rw_blk lk_X10_isPlace_79 ?_
              refine rw_of (fun rr hrr => q_iconst (q_goto (t := 84) rfl hrr)) ?_
              refine rw_blk lk_X10_isPlace_84 ?_
              refine rw_of (fun rr hrr => q_istore (Nat.le_of_ble_eq_true rfl) rfl (q_iload rfl hrr)) ?_
              refine rw_if_eq ⟨by omega, by omega⟩ (t := 100) rfl (fun hc29 => ?_) (fun hc29 => ?_)
              · skip
                refine rw_blk lk_X10_isPlace_100 ?_
                refine rw_of (fun rr hrr => q_iconst hrr) ?_
                refine rw_blk lk_X10_isPlace_101 ?_
                refine rw_ret hQ (q_ireturn (by omega)) ?_
                first
                  | exact ⟨rfl, rfl, rfl⟩
                  | (exfalso; omega)
                
              · skip
                refine rw_of (fun rr hrr => q_iload rfl hrr) ?_
                refine rw_if_eq ⟨by omega, by omega⟩ (t := 100) rfl (fun hc30 => ?_) (fun hc30 => ?_)
                · skip
                  refine rw_blk lk_X10_isPlace_100 ?_
                  refine rw_of (fun rr hrr => q_iconst hrr) ?_
                  refine rw_blk lk_X10_isPlace_101 ?_
                  refine rw_ret hQ (q_ireturn (by omega)) ?_
                  first
                    | exact ⟨rfl, rfl, rfl⟩
                    | (exfalso; omega)
                  
                · skip
                  refine rw_of (fun rr hrr => q_iconst (q_goto (t := 101) rfl hrr)) ?_
                  refine rw_blk lk_X10_isPlace_101 ?_
                  refine rw_ret hQ (q_ireturn (by omega)) ?_
                  first
                    | exact ⟨rfl, rfl, rfl⟩
                    | (exfalso; omega)
                  
            · skip
              refine rw_of (fun rr hrr => q_iload rfl (q_iconst (q_aload_n rfl (q_getR (show SH 261 = (18, 0) from rfl) rfl (pt_261_1 hP) (q_iload_n rfl (q_iald (j := s) (show SH 262 = (1, 13) from rfl) rfl (by omega) (ki rfl hm (by omega)) (q_iconst (q_isub hrr)))))))) ?_
              obtain ⟨_, mm31, pp32, hV33, rfl, rfl, rfl⟩ := c_X10_isIn0 (S := S) (fz := fz) (m := m) (p := p) (d := d) (by omega) (j) (0) ((((n : Nat) : Int) - 1)) (by omega) (by omega) (by omega)
              refine rw_of (fun rr hrr => q_invS hV33 rfl rfl (okar_cons rfl (okar_cons rfl (okar_cons rfl okar_nil))) (Nat.le_of_ble_eq_true rfl) hrr) ?_
              refine rw_if_eq ⟨by omega, by omega⟩ (t := 83) rfl (fun hc34 => ?_) (fun hc34 => ?_)
              · skip
                refine rw_blk lk_X10_isPlace_83 ?_
                refine rw_of (fun rr hrr => q_iconst hrr) ?_
                refine rw_blk lk_X10_isPlace_84 ?_
                refine rw_of (fun rr hrr => q_istore (Nat.le_of_ble_eq_true rfl) rfl (q_iload rfl hrr)) ?_
                refine rw_if_eq ⟨by omega, by omega⟩ (t := 100) rfl (fun hc35 => ?_) (fun hc35 => ?_)
                · skip
                  refine rw_blk lk_X10_isPlace_100 ?_
                  refine rw_of (fun rr hrr => q_iconst hrr) ?_
                  refine rw_blk lk_X10_isPlace_101 ?_
                  refine rw_ret hQ (q_ireturn (by omega)) ?_
                  first
                    | exact ⟨rfl, rfl, rfl⟩
                    | (exfalso; omega)
                  
                · skip
                  refine rw_of (fun rr hrr => q_iload rfl hrr) ?_
                  refine rw_if_eq ⟨by omega, by omega⟩ (t := 100) rfl (fun hc36 => ?_) (fun hc36 => ?_)
                  · skip
                    refine rw_blk lk_X10_isPlace_100 ?_
                    refine rw_of (fun rr hrr => q_iconst hrr) ?_
                    refine rw_blk lk_X10_isPlace_101 ?_
                    refine rw_ret hQ (q_ireturn (by omega)) ?_
                    first
                      | exact ⟨rfl, rfl, rfl⟩
                      | (exfalso; omega)
                    
                  · skip
                    refine rw_of (fun rr hrr => q_iconst (q_goto (t := 101) rfl hrr)) ?_
                    refine rw_blk lk_X10_isPlace_101 ?_
                    refine rw_ret hQ (q_ireturn (by omega)) ?_
                    first
                      | exact ⟨rfl, rfl, rfl⟩
                      | (exfalso; omega)
                    
              · skip
                refine rw_blk lk_X10_isPlace_79 ?_
                refine rw_of (fun rr hrr => q_iconst (q_goto (t := 84) rfl hrr)) ?_
                refine rw_blk lk_X10_isPlace_84 ?_
                refine rw_of (fun rr hrr => q_istore (Nat.le_of_ble_eq_true rfl) rfl (q_iload rfl hrr)) ?_
                refine rw_if_eq ⟨by omega, by omega⟩ (t := 100) rfl (fun hc37 => ?_) (fun hc37 => ?_)
                · skip
                  refine rw_blk lk_X10_isPlace_100 ?_
                  refine rw_of (fun rr hrr => q_iconst hrr) ?_
                  refine rw_blk lk_X10_isPlace_101 ?_
                  refine rw_ret hQ (q_ireturn (by omega)) ?_
                  first
                    | exact ⟨rfl, rfl, rfl⟩
                    | (exfalso; omega)
                  
                · skip
                  refine rw_of (fun rr hrr => q_iload rfl hrr) ?_
                  refine rw_if_eq ⟨by omega, by omega⟩ (t := 100) rfl (fun hc38 => ?_) (fun hc38 => ?_)
                  · skip
                    refine rw_blk lk_X10_isPlace_100 ?_
                    refine rw_of (fun rr hrr => q_iconst hrr) ?_
                    refine rw_blk lk_X10_isPlace_101 ?_
                    refine rw_ret hQ (q_ireturn (by omega)) ?_
                    first
                      | exact ⟨rfl, rfl, rfl⟩
                      | (exfalso; omega)
                    
                  · skip
                    refine rw_of (fun rr hrr => q_iconst (q_goto (t := 101) rfl hrr)) ?_
                    refine rw_blk lk_X10_isPlace_101 ?_
                    refine rw_ret hQ (q_ireturn (by omega)) ?_
                    first
                      | exact ⟨rfl, rfl, rfl⟩
                      | (exfalso; omega)
                    
        · skip
          refine rw_of (fun rr hrr => q_iload_n rfl (q_iconst (q_aload_n rfl (q_getR (show SH 261 = (18, 0) from rfl) rfl (pt_261_1 hP) (q_iload_n rfl (q_iald (j := s) (show SH 262 = (1, 13) from rfl) rfl (by omega) (ki rfl hm (by omega)) (q_iconst (q_isub hrr)))))))) ?_
          obtain ⟨_, mm39, pp40, hV41, rfl, rfl, rfl⟩ := c_X10_isIn0 (S := S) (fz := fz) (m := m) (p := p) (d := d) (by omega) (i) (0) ((((n : Nat) : Int) - 1)) (by omega) (by omega) (by omega)
          refine rw_of (fun rr hrr => q_invS hV41 rfl rfl (okar_cons rfl (okar_cons rfl (okar_cons rfl okar_nil))) (Nat.le_of_ble_eq_true rfl) hrr) ?_
          refine rw_if_eq ⟨by omega, by omega⟩ (t := 49) rfl (fun hc42 => ?_) (fun hc42 => ?_)
          · skip
            refine rw_blk lk_X10_isPlace_49 ?_
            refine rw_of (fun rr hrr => q_iconst hrr) ?_
            refine rw_blk lk_X10_isPlace_50 ?_
            refine rw_of (fun rr hrr => q_istore (Nat.le_of_ble_eq_true rfl) rfl (q_iload_n rfl (q_iconst hrr))) ?_
            refine rw_icmp_eq ⟨by omega, by omega⟩ ⟨by omega, by omega⟩ (t := 79) rfl (fun hc43 => ?_) (fun hc43 => ?_)
            · skip
              refine rw_blk lk_X10_isPlace_79 ?_
              refine rw_of (fun rr hrr => q_iconst (q_goto (t := 84) rfl hrr)) ?_
              refine rw_blk lk_X10_isPlace_84 ?_
              refine rw_of (fun rr hrr => q_istore (Nat.le_of_ble_eq_true rfl) rfl (q_iload rfl hrr)) ?_
              refine rw_if_eq ⟨by omega, by omega⟩ (t := 100) rfl (fun hc44 => ?_) (fun hc44 => ?_)
              · skip
                refine rw_blk lk_X10_isPlace_100 ?_
                refine rw_of (fun rr hrr => q_iconst hrr) ?_
                refine rw_blk lk_X10_isPlace_101 ?_
                refine rw_ret hQ (q_ireturn (by omega)) ?_
                first
                  | exact ⟨rfl, rfl, rfl⟩
                  | (exfalso; omega)
                
              · skip
                refine rw_of (fun rr hrr => q_iload rfl hrr) ?_
                refine rw_if_eq ⟨by omega, by omega⟩ (t := 100) rfl (fun hc45 => ?_) (fun hc45 => ?_)
                · skip
                  refine rw_blk lk_X10_isPlace_100 ?_
                  refine rw_of (fun rr hrr => q_iconst hrr) ?_
                  refine rw_blk lk_X10_isPlace_101 ?_
                  refine rw_ret hQ (q_ireturn (by omega)) ?_
                  first
                    | exact ⟨rfl, rfl, rfl⟩
                    | (exfalso; omega)
                  
                · skip
                  refine rw_of (fun rr hrr => q_iconst (q_goto (t := 101) rfl hrr)) ?_
                  refine rw_blk lk_X10_isPlace_101 ?_
                  refine rw_ret hQ (q_ireturn (by omega)) ?_
                  first
                    | exact ⟨rfl, rfl, rfl⟩
                    | (exfalso; omega)
                  
            · skip
              refine rw_of (fun rr hrr => q_iload_n rfl (q_iconst hrr)) ?_
              refine rw_icmp_eq ⟨by omega, by omega⟩ ⟨by omega, by omega⟩ (t := 79) rfl (fun hc46 => ?_) (fun hc46 => ?_)
              · skip
                refine rw_blk lk_X10_isPlace_79 ?_
                refine rw_of (fun rr hrr => q_iconst (q_goto (t := 84) rfl hrr)) ?_
                refine rw_blk lk_X10_isPlace_84 ?_
                refine rw_of (fun rr hrr => q_istore (Nat.le_of_ble_eq_true rfl) rfl (q_iload rfl hrr)) ?_
                refine rw_if_eq ⟨by omega, by omega⟩ (t := 100) rfl (fun hc47 => ?_) (fun hc47 => ?_)
                · skip
                  refine rw_blk lk_X10_isPlace_100 ?_
                  refine rw_of (fun rr hrr => q_iconst hrr) ?_
                  refine rw_blk lk_X10_isPlace_101 ?_
                  refine rw_ret hQ (q_ireturn (by omega)) ?_
                  first
                    | exact ⟨rfl, rfl, rfl⟩
                    | (exfalso; omega)
                  
                · skip
                  refine rw_of (fun rr hrr => q_iload rfl hrr) ?_
                  refine rw_if_eq ⟨by omega, by omega⟩ (t := 100) rfl (fun hc48 => ?_) (fun hc48 => ?_)
                  · skip
                    refine rw_blk lk_X10_isPlace_100 ?_
                    refine rw_of (fun rr hrr => q_iconst hrr) ?_
                    refine rw_blk lk_X10_isPlace_101 ?_
                    refine rw_ret hQ (q_ireturn (by omega)) ?_
                    first
                      | exact ⟨rfl, rfl, rfl⟩
                      | (exfalso; omega)
                    
                  · skip
                    refine rw_of (fun rr hrr => q_iconst (q_goto (t := 101) rfl hrr)) ?_
                    refine rw_blk lk_X10_isPlace_101 ?_
                    refine rw_ret hQ (q_ireturn (by omega)) ?_
                    first
                      | exact ⟨rfl, rfl, rfl⟩
                      | (exfalso; omega)
                    
              · skip
                refine rw_of (fun rr hrr => q_iload rfl (q_iconst (q_aload_n rfl (q_getR (show SH 261 = (18, 0) from rfl) rfl (pt_261_1 hP) (q_iload_n rfl (q_iald (j := s) (show SH 262 = (1, 13) from rfl) rfl (by omega) (ki rfl hm (by omega)) (q_iconst (q_isub hrr)))))))) ?_
                obtain ⟨_, mm49, pp50, hV51, rfl, rfl, rfl⟩ := c_X10_isIn0 (S := S) (fz := fz) (m := m) (p := p) (d := d) (by omega) (j) (0) ((((n : Nat) : Int) - 1)) (by omega) (by omega) (by omega)
                refine rw_of (fun rr hrr => q_invS hV51 rfl rfl (okar_cons rfl (okar_cons rfl (okar_cons rfl okar_nil))) (Nat.le_of_ble_eq_true rfl) hrr) ?_
                refine rw_if_eq ⟨by omega, by omega⟩ (t := 83) rfl (fun hc52 => ?_) (fun hc52 => ?_)
                · skip
                  refine rw_blk lk_X10_isPlace_83 ?_
                  refine rw_of (fun rr hrr => q_iconst hrr) ?_
                  refine rw_blk lk_X10_isPlace_84 ?_
                  refine rw_of (fun rr hrr => q_istore (Nat.le_of_ble_eq_true rfl) rfl (q_iload rfl hrr)) ?_
                  refine rw_if_eq ⟨by omega, by omega⟩ (t := 100) rfl (fun hc53 => ?_) (fun hc53 => ?_)
                  · skip
                    refine rw_blk lk_X10_isPlace_100 ?_
                    refine rw_of (fun rr hrr => q_iconst hrr) ?_
                    refine rw_blk lk_X10_isPlace_101 ?_
                    refine rw_ret hQ (q_ireturn (by omega)) ?_
                    first
                      | exact ⟨rfl, rfl, rfl⟩
                      | (exfalso; omega)
                    
                  · skip
                    refine rw_of (fun rr hrr => q_iload rfl hrr) ?_
                    refine rw_if_eq ⟨by omega, by omega⟩ (t := 100) rfl (fun hc54 => ?_) (fun hc54 => ?_)
                    · skip
                      refine rw_blk lk_X10_isPlace_100 ?_
                      refine rw_of (fun rr hrr => q_iconst hrr) ?_
                      refine rw_blk lk_X10_isPlace_101 ?_
                      refine rw_ret hQ (q_ireturn (by omega)) ?_
                      first
                        | exact ⟨rfl, rfl, rfl⟩
                        | (exfalso; omega)
                      
                    · skip
                      refine rw_of (fun rr hrr => q_iconst (q_goto (t := 101) rfl hrr)) ?_
                      refine rw_blk lk_X10_isPlace_101 ?_
                      refine rw_ret hQ (q_ireturn (by omega)) ?_
                      first
                        | exact ⟨rfl, rfl, rfl⟩
                        | (exfalso; omega)
                      
                · skip
                  refine rw_blk lk_X10_isPlace_79 ?_
                  refine rw_of (fun rr hrr => q_iconst (q_goto (t := 84) rfl hrr)) ?_
                  refine rw_blk lk_X10_isPlace_84 ?_
                  refine rw_of (fun rr hrr => q_istore (Nat.le_of_ble_eq_true rfl) rfl (q_iload rfl hrr)) ?_
                  refine rw_if_eq ⟨by omega, by omega⟩ (t := 100) rfl (fun hc55 => ?_) (fun hc55 => ?_)
                  · skip
                    refine rw_blk lk_X10_isPlace_100 ?_
                    refine rw_of (fun rr hrr => q_iconst hrr) ?_
                    refine rw_blk lk_X10_isPlace_101 ?_
                    refine rw_ret hQ (q_ireturn (by omega)) ?_
                    first
                      | exact ⟨rfl, rfl, rfl⟩
                      | (exfalso; omega)
                    
                  · skip
                    refine rw_of (fun rr hrr => q_iload rfl hrr) ?_
                    refine rw_if_eq ⟨by omega, by omega⟩ (t := 100) rfl (fun hc56 => ?_) (fun hc56 => ?_)
                    · skip
                      refine rw_blk lk_X10_isPlace_100 ?_
                      refine rw_of (fun rr hrr => q_iconst hrr) ?_
                      refine rw_blk lk_X10_isPlace_101 ?_
                      refine rw_ret hQ (q_ireturn (by omega)) ?_
                      first
                        | exact ⟨rfl, rfl, rfl⟩
                        | (exfalso; omega)
                      
                    · skip
                      refine rw_of (fun rr hrr => q_iconst (q_goto (t := 101) rfl hrr)) ?_
                      refine rw_blk lk_X10_isPlace_101 ?_
                      refine rw_ret hQ (q_ireturn (by omega)) ?_
                      first
                        | exact ⟨rfl, rfl, rfl⟩
                        | (exfalso; omega)
                      
          · skip
            refine rw_blk lk_X10_isPlace_45 ?_
            refine rw_of (fun rr hrr => q_iconst (q_goto (t := 50) rfl hrr)) ?_
            refine rw_blk lk_X10_isPlace_50 ?_
            refine rw_of (fun rr hrr => q_istore (Nat.le_of_ble_eq_true rfl) rfl (q_iload_n rfl (q_iconst hrr))) ?_
            refine rw_icmp_eq ⟨by omega, by omega⟩ ⟨by omega, by omega⟩ (t := 79) rfl (fun hc57 => ?_) (fun hc57 => ?_)
            · skip
              refine rw_blk lk_X10_isPlace_79 ?_
              refine rw_of (fun rr hrr => q_iconst (q_goto (t := 84) rfl hrr)) ?_
              refine rw_blk lk_X10_isPlace_84 ?_
              refine rw_of (fun rr hrr => q_istore (Nat.le_of_ble_eq_true rfl) rfl (q_iload rfl hrr)) ?_
              refine rw_if_eq ⟨by omega, by omega⟩ (t := 100) rfl (fun hc58 => ?_) (fun hc58 => ?_)
              · skip
                refine rw_blk lk_X10_isPlace_100 ?_
                refine rw_of (fun rr hrr => q_iconst hrr) ?_
                refine rw_blk lk_X10_isPlace_101 ?_
                refine rw_ret hQ (q_ireturn (by omega)) ?_
                first
                  | exact ⟨rfl, rfl, rfl⟩
                  | (exfalso; omega)
                
              · skip
                refine rw_of (fun rr hrr => q_iload rfl hrr) ?_
                refine rw_if_eq ⟨by omega, by omega⟩ (t := 100) rfl (fun hc59 => ?_) (fun hc59 => ?_)
                · skip
                  refine rw_blk lk_X10_isPlace_100 ?_
                  refine rw_of (fun rr hrr => q_iconst hrr) ?_
                  refine rw_blk lk_X10_isPlace_101 ?_
                  refine rw_ret hQ (q_ireturn (by omega)) ?_
                  first
                    | exact ⟨rfl, rfl, rfl⟩
                    | (exfalso; omega)
                  
                · skip
                  refine rw_of (fun rr hrr => q_iconst (q_goto (t := 101) rfl hrr)) ?_
                  refine rw_blk lk_X10_isPlace_101 ?_
                  refine rw_ret hQ (q_ireturn (by omega)) ?_
                  first
                    | exact ⟨rfl, rfl, rfl⟩
                    | (exfalso; omega)
                  
            · skip
              refine rw_of (fun rr hrr => q_iload_n rfl (q_iconst hrr)) ?_
              refine rw_icmp_eq ⟨by omega, by omega⟩ ⟨by omega, by omega⟩ (t := 79) rfl (fun hc60 => ?_) (fun hc60 => ?_)
              · skip
                refine rw_blk lk_X10_isPlace_79 ?_
                refine rw_of (fun rr hrr => q_iconst (q_goto (t := 84) rfl hrr)) ?_
                refine rw_blk lk_X10_isPlace_84 ?_
                refine rw_of (fun rr hrr => q_istore (Nat.le_of_ble_eq_true rfl) rfl (q_iload rfl hrr)) ?_
                refine rw_if_eq ⟨by omega, by omega⟩ (t := 100) rfl (fun hc61 => ?_) (fun hc61 => ?_)
                · skip
                  refine rw_blk lk_X10_isPlace_100 ?_
                  refine rw_of (fun rr hrr => q_iconst hrr) ?_
                  refine rw_blk lk_X10_isPlace_101 ?_
                  refine rw_ret hQ (q_ireturn (by omega)) ?_
                  first
                    | exact ⟨rfl, rfl, rfl⟩
                    | (exfalso; omega)
                  
                · skip
                  refine rw_of (fun rr hrr => q_iload rfl hrr) ?_
                  refine rw_if_eq ⟨by omega, by omega⟩ (t := 100) rfl (fun hc62 => ?_) (fun hc62 => ?_)
                  · skip
                    refine rw_blk lk_X10_isPlace_100 ?_
                    refine rw_of (fun rr hrr => q_iconst hrr) ?_
                    refine rw_blk lk_X10_isPlace_101 ?_
                    refine rw_ret hQ (q_ireturn (by omega)) ?_
                    first
                      | exact ⟨rfl, rfl, rfl⟩
                      | (exfalso; omega)
                    
                  · skip
                    refine rw_of (fun rr hrr => q_iconst (q_goto (t := 101) rfl hrr)) ?_
                    refine rw_blk lk_X10_isPlace_101 ?_
                    refine rw_ret hQ (q_ireturn (by omega)) ?_
                    first
                      | exact ⟨rfl, rfl, rfl⟩
                      | (exfalso; omega)
                    
              · skip
                refine rw_of (fun rr hrr => q_iload rfl (q_iconst (q_aload_n rfl (q_getR (show SH 261 = (18, 0) from rfl) rfl (pt_261_1 hP) (q_iload_n rfl (q_iald (j := s) (show SH 262 = (1, 13) from rfl) rfl (by omega) (ki rfl hm (by omega)) (q_iconst (q_isub hrr)))))))) ?_
                obtain ⟨_, mm63, pp64, hV65, rfl, rfl, rfl⟩ := c_X10_isIn0 (S := S) (fz := fz) (m := m) (p := p) (d := d) (by omega) (j) (0) ((((n : Nat) : Int) - 1)) (by omega) (by omega) (by omega)
                refine rw_of (fun rr hrr => q_invS hV65 rfl rfl (okar_cons rfl (okar_cons rfl (okar_cons rfl okar_nil))) (Nat.le_of_ble_eq_true rfl) hrr) ?_
                refine rw_if_eq ⟨by omega, by omega⟩ (t := 83) rfl (fun hc66 => ?_) (fun hc66 => ?_)
                · skip
                  refine rw_blk lk_X10_isPlace_83 ?_
                  refine rw_of (fun rr hrr => q_iconst hrr) ?_
                  refine rw_blk lk_X10_isPlace_84 ?_
                  refine rw_of (fun rr hrr => q_istore (Nat.le_of_ble_eq_true rfl) rfl (q_iload rfl hrr)) ?_
                  refine rw_if_eq ⟨by omega, by omega⟩ (t := 100) rfl (fun hc67 => ?_) (fun hc67 => ?_)
                  · skip
                    refine rw_blk lk_X10_isPlace_100 ?_
                    refine rw_of (fun rr hrr => q_iconst hrr) ?_
                    refine rw_blk lk_X10_isPlace_101 ?_
                    refine rw_ret hQ (q_ireturn (by omega)) ?_
                    first
                      | exact ⟨rfl, rfl, rfl⟩
                      | (exfalso; omega)
                    
                  · skip
                    refine rw_of (fun rr hrr => q_iload rfl hrr) ?_
                    refine rw_if_eq ⟨by omega, by omega⟩ (t := 100) rfl (fun hc68 => ?_) (fun hc68 => ?_)
                    · skip
                      refine rw_blk lk_X10_isPlace_100 ?_
                      refine rw_of (fun rr hrr => q_iconst hrr) ?_
                      refine rw_blk lk_X10_isPlace_101 ?_
                      refine rw_ret hQ (q_ireturn (by omega)) ?_
                      first
                        | exact ⟨rfl, rfl, rfl⟩
                        | (exfalso; omega)
                      
                    · skip
                      refine rw_of (fun rr hrr => q_iconst (q_goto (t := 101) rfl hrr)) ?_
                      refine rw_blk lk_X10_isPlace_101 ?_
                      refine rw_ret hQ (q_ireturn (by omega)) ?_
                      first
                        | exact ⟨rfl, rfl, rfl⟩
                        | (exfalso; omega)
                      
                · skip
                  refine rw_blk lk_X10_isPlace_79 ?_
                  refine rw_of (fun rr hrr => q_iconst (q_goto (t := 84) rfl hrr)) ?_
                  refine rw_blk lk_X10_isPlace_84 ?_
                  refine rw_of (fun rr hrr => q_istore (Nat.le_of_ble_eq_true rfl) rfl (q_iload rfl hrr)) ?_
                  refine rw_if_eq ⟨by omega, by omega⟩ (t := 100) rfl (fun hc69 => ?_) (fun hc69 => ?_)
                  · skip
                    refine rw_blk lk_X10_isPlace_100 ?_
                    refine rw_of (fun rr hrr => q_iconst hrr) ?_
                    refine rw_blk lk_X10_isPlace_101 ?_
                    refine rw_ret hQ (q_ireturn (by omega)) ?_
                    first
                      | exact ⟨rfl, rfl, rfl⟩
                      | (exfalso; omega)
                    
                  · skip
                    refine rw_of (fun rr hrr => q_iload rfl hrr) ?_
                    refine rw_if_eq ⟨by omega, by omega⟩ (t := 100) rfl (fun hc70 => ?_) (fun hc70 => ?_)
                    · skip
                      refine rw_blk lk_X10_isPlace_100 ?_
                      refine rw_of (fun rr hrr => q_iconst hrr) ?_
                      refine rw_blk lk_X10_isPlace_101 ?_
                      refine rw_ret hQ (q_ireturn (by omega)) ?_
                      first
                        | exact ⟨rfl, rfl, rfl⟩
                        | (exfalso; omega)
                      
                    · skip
                      refine rw_of (fun rr hrr => q_iconst (q_goto (t := 101) rfl hrr)) ?_
                      refine rw_blk lk_X10_isPlace_101 ?_
                      refine rw_ret hQ (q_ireturn (by omega)) ?_
                      first
                        | exact ⟨rfl, rfl, rfl⟩
                        | (exfalso; omega)
                      
    · skip
      refine rw_blk lk_X10_isPlace_17 ?_
      refine rw_of (fun rr hrr => q_iconst hrr) ?_
      refine rw_ret hQ (q_ireturn (by omega)) ?_
      first
        | exact ⟨rfl, rfl, rfl⟩
        | (exfalso; omega)
      
theorem c_X10_isPlace1_11 {d : Nat} {S : MC} {fz : Bool} {m : M1} {p : M2} (hd : 3 ≤ d) (s k n : Nat) (i j : Int) (hP : PI p) (hk : m 261 0 = nF k) (hk12 : k ≤ 12) (hsk : s < k) (hm : m 262 s = nF n) (hn0 : 1 ≤ n) (hn : n ≤ 8) (hri : (-2147483648 ≤ i ∧ i < 2147483648)) (hrj : (-2147483648 ≤ j ∧ j < 2147483648)) (hi : 0 ≤ i ∧ i < n) : Ct d k_X10_isPlace S fz [.ref (261), .int (iI (((s : Nat) : Int))), .int (iI (1)), .int (iI (i)), .int (iI (j))] m p (fun v m' p' => v = some (.int (iI (1))) ∧ m = m' ∧ p = p') := by
  obtain ⟨d, rfl⟩ : ∃ e, d = e + 1 := ⟨d - 1, by omega⟩
  refine ct_go (lv := [some (.ref (261)), some (.int (iI (((s : Nat) : Int)))), some (.int (iI (1))), some (.int (iI (i))), some (.int (iI (j))), none, none]) (Nat.le_of_ble_eq_true rfl) (okar_cons rfl (okar_cons rfl (okar_cons rfl (okar_cons rfl (okar_cons rfl okar_nil))))) rfl (fun Qr hQ => ?_)
  refine rw_blk lk_X10_isPlace_0 ?_
  refine rw_of (fun rr hrr => q_aload_n rfl (q_iload_n rfl hrr)) ?_
  obtain ⟨_, mm1, pp2, hV3, rfl, rfl, rfl⟩ := c_X10_isSystem1 (S := S) (fz := fz) (m := m) (p := p) (d := d) (by omega) (((s : Nat) : Int)) (k) hP hk (by omega) (by omega) (by omega)
  refine rw_of (fun rr hrr => q_invV hV3 (show SH 261 = (18, 0) from rfl) rfl rfl (okar_cons rfl okar_nil) (Nat.le_of_ble_eq_true rfl) hrr) ?_
  refine rw_if_eq ⟨by omega, by omega⟩ (t := 17) rfl (fun hc4 => ?_) (fun hc4 => ?_)
  · skip
    refine rw_blk lk_X10_isPlace_17 ?_
    refine rw_of (fun rr hrr => q_iconst hrr) ?_
    refine rw_ret hQ (q_ireturn (by omega)) ?_
    first
      | exact ⟨rfl, rfl, rfl⟩
      | (exfalso; omega)
    
  · skip
    refine rw_of (fun rr hrr => q_iload_n rfl (q_iconst (q_iconst hrr))) ?_
    obtain ⟨_, mm5, pp6, hV7, rfl, rfl, rfl⟩ := c_X10_isIn1 (S := S) (fz := fz) (m := m) (p := p) (d := d) (by omega) (1) (0) (3) (by omega) (by omega) (by omega)
    refine rw_of (fun rr hrr => q_invS hV7 rfl rfl (okar_cons rfl (okar_cons rfl (okar_cons rfl okar_nil))) (Nat.le_of_ble_eq_true rfl) hrr) ?_
    refine rw_if_ne ⟨by omega, by omega⟩ (t := 19) rfl (fun hc8 => ?_) (fun hc8 => ?_)
    · skip
      refine rw_blk lk_X10_isPlace_19 ?_
      refine rw_of (fun rr hrr => q_iload_n rfl (q_iconst hrr)) ?_
      refine rw_icmp_eq ⟨by omega, by omega⟩ ⟨by omega, by omega⟩ (t := 45) rfl (fun hc9 => ?_) (fun hc9 => ?_)
      · skip
        refine rw_blk lk_X10_isPlace_45 ?_
        refine rw_of (fun rr hrr => q_iconst (q_goto (t := 50) rfl hrr)) ?_
        refine rw_blk lk_X10_isPlace_50 ?_
        refine rw_of (fun rr hrr => q_istore (Nat.le_of_ble_eq_true rfl) rfl (q_iload_n rfl (q_iconst hrr))) ?_
        refine rw_icmp_eq ⟨by omega, by omega⟩ ⟨by omega, by omega⟩ (t := 79) rfl (fun hc10 => ?_) (fun hc10 => ?_)
        · skip
          refine rw_blk lk_X10_isPlace_79 ?_
          refine rw_of (fun rr hrr => q_iconst (q_goto (t := 84) rfl hrr)) ?_
          refine rw_blk lk_X10_isPlace_84 ?_
          refine rw_of (fun rr hrr => q_istore (Nat.le_of_ble_eq_true rfl) rfl (q_iload rfl hrr)) ?_
          refine rw_if_eq ⟨by omega, by omega⟩ (t := 100) rfl (fun hc11 => ?_) (fun hc11 => ?_)
          · skip
            refine rw_blk lk_X10_isPlace_100 ?_
            refine rw_of (fun rr hrr => q_iconst hrr) ?_
            refine rw_blk lk_X10_isPlace_101 ?_
            refine rw_ret hQ (q_ireturn (by omega)) ?_
            first
              | exact ⟨rfl, rfl, rfl⟩
              | (exfalso; omega)
            
          · skip
            refine rw_of (fun rr hrr => q_iload rfl hrr) ?_
            refine rw_if_eq ⟨by omega, by omega⟩ (t := 100) rfl (fun hc12 => ?_) (fun hc12 => ?_)
            · skip
              refine rw_blk lk_X10_isPlace_100 ?_
              refine rw_of (fun rr hrr => q_iconst hrr) ?_
              refine rw_blk lk_X10_isPlace_101 ?_
              refine rw_ret hQ (q_ireturn (by omega)) ?_
              first
                | exact ⟨rfl, rfl, rfl⟩
                | (exfalso; omega)
              
            · skip
              refine rw_of (fun rr hrr => q_iconst (q_goto (t := 101) rfl hrr)) ?_
              refine rw_blk lk_X10_isPlace_101 ?_
              refine rw_ret hQ (q_ireturn (by omega)) ?_
              first
                | exact ⟨rfl, rfl, rfl⟩
                | (exfalso; omega)
              
        · skip
          refine rw_of (fun rr hrr => q_iload_n rfl (q_iconst hrr)) ?_
          refine rw_icmp_eq ⟨by omega, by omega⟩ ⟨by omega, by omega⟩ (t := 79) rfl (fun hc13 => ?_) (fun hc13 => ?_)
          · skip
            refine rw_blk lk_X10_isPlace_79 ?_
            refine rw_of (fun rr hrr => q_iconst (q_goto (t := 84) rfl hrr)) ?_
            refine rw_blk lk_X10_isPlace_84 ?_
            refine rw_of (fun rr hrr => q_istore (Nat.le_of_ble_eq_true rfl) rfl (q_iload rfl hrr)) ?_
            refine rw_if_eq ⟨by omega, by omega⟩ (t := 100) rfl (fun hc14 => ?_) (fun hc14 => ?_)
            · skip
              refine rw_blk lk_X10_isPlace_100 ?_
              refine rw_of (fun rr hrr => q_iconst hrr) ?_
              refine rw_blk lk_X10_isPlace_101 ?_
              refine rw_ret hQ (q_ireturn (by omega)) ?_
              first
                | exact ⟨rfl, rfl, rfl⟩
                | (exfalso; omega)
              
            · skip
              refine rw_of (fun rr hrr => q_iload rfl hrr) ?_
              refine rw_if_eq ⟨by omega, by omega⟩ (t := 100) rfl (fun hc15 => ?_) (fun hc15 => ?_)
              · skip
                refine rw_blk lk_X10_isPlace_100 ?_
                refine rw_of (fun rr hrr => q_iconst hrr) ?_
                refine rw_blk lk_X10_isPlace_101 ?_
                refine rw_ret hQ (q_ireturn (by omega)) ?_
                first
                  | exact ⟨rfl, rfl, rfl⟩
                  | (exfalso; omega)
                
              · skip
                refine rw_of (fun rr hrr => q_iconst (q_goto (t := 101) rfl hrr)) ?_
                refine rw_blk lk_X10_isPlace_101 ?_
                refine rw_ret hQ (q_ireturn (by omega)) ?_
                first
                  | exact ⟨rfl, rfl, rfl⟩
                  | (exfalso; omega)
                
          · skip
            refine rw_of (fun rr hrr => q_iload rfl (q_iconst (q_aload_n rfl (q_getR (show SH 261 = (18, 0) from rfl) rfl (pt_261_1 hP) (q_iload_n rfl (q_iald (j := s) (show SH 262 = (1, 13) from rfl) rfl (by omega) (ki rfl hm (by omega)) (q_iconst (q_isub hrr)))))))) ?_
            obtain ⟨_, mm16, pp17, hV18, rfl, rfl, rfl⟩ := c_X10_isIn1 (S := S) (fz := fz) (m := m) (p := p) (d := d) (by omega) (j) (0) ((((n : Nat) : Int) - 1)) (by omega) (by omega) (by omega)
            refine rw_of (fun rr hrr => q_invS hV18 rfl rfl (okar_cons rfl (okar_cons rfl (okar_cons rfl okar_nil))) (Nat.le_of_ble_eq_true rfl) hrr) ?_
            refine rw_if_eq ⟨by omega, by omega⟩ (t := 83) rfl (fun hc19 => ?_) (fun hc19 => ?_)
            · skip
              refine rw_blk lk_X10_isPlace_83 ?_
              refine rw_of (fun rr hrr => q_iconst hrr) ?_
              refine rw_blk lk_X10_isPlace_84 ?_
              refine rw_of (fun rr hrr => q_istore (Nat.le_of_ble_eq_true rfl) rfl (q_iload rfl hrr)) ?_
              refine rw_if_eq ⟨by omega, by omega⟩ (t := 100) rfl (fun hc20 => ?_) (fun hc20 => ?_)
              · skip
                refine rw_blk lk_X10_isPlace_100 ?_
                refine rw_of (fun rr hrr => q_iconst hrr) ?_
                refine rw_blk lk_X10_isPlace_101 ?_
                refine rw_ret hQ (q_ireturn (by omega)) ?_
                first
                  | exact ⟨rfl, rfl, rfl⟩
                  | (exfalso; omega)
                
              · skip
                refine rw_of (fun rr hrr => q_iload rfl hrr) ?_
                refine rw_if_eq ⟨by omega, by omega⟩ (t := 100) rfl (fun hc21 => ?_) (fun hc21 => ?_)
                · skip
                  refine rw_blk lk_X10_isPlace_100 ?_
                  refine rw_of (fun rr hrr => q_iconst hrr) ?_
                  refine rw_blk lk_X10_isPlace_101 ?_
                  refine rw_ret hQ (q_ireturn (by omega)) ?_
                  first
                    | exact ⟨rfl, rfl, rfl⟩
                    | (exfalso; omega)
                  
                · skip
                  refine rw_of (fun rr hrr => q_iconst (q_goto (t := 101) rfl hrr)) ?_
                  refine rw_blk lk_X10_isPlace_101 ?_
                  refine rw_ret hQ (q_ireturn (by omega)) ?_
                  first
                    | exact ⟨rfl, rfl, rfl⟩
                    | (exfalso; omega)
                  
            · skip
              refine rw_blk lk_X10_isPlace_79 ?_
              refine rw_of (fun rr hrr => q_iconst (q_goto (t := 84) rfl hrr)) ?_
              refine rw_blk lk_X10_isPlace_84 ?_
              refine rw_of (fun rr hrr => q_istore (Nat.le_of_ble_eq_true rfl) rfl (q_iload rfl hrr)) ?_
              refine rw_if_eq ⟨by omega, by omega⟩ (t := 100) rfl (fun hc22 => ?_) (fun hc22 => ?_)
              · skip
                refine rw_blk lk_X10_isPlace_100 ?_
                refine rw_of (fun rr hrr => q_iconst hrr) ?_
                refine rw_blk lk_X10_isPlace_101 ?_
                refine rw_ret hQ (q_ireturn (by omega)) ?_
                first
                  | exact ⟨rfl, rfl, rfl⟩
                  | (exfalso; omega)
                
              · skip
                refine rw_of (fun rr hrr => q_iload rfl hrr) ?_
                refine rw_if_eq ⟨by omega, by omega⟩ (t := 100) rfl (fun hc23 => ?_) (fun hc23 => ?_)
                · skip
                  refine rw_blk lk_X10_isPlace_100 ?_
                  refine rw_of (fun rr hrr => q_iconst hrr) ?_
                  refine rw_blk lk_X10_isPlace_101 ?_
                  refine rw_ret hQ (q_ireturn (by omega)) ?_
                  first
                    | exact ⟨rfl, rfl, rfl⟩
                    | (exfalso; omega)
                  
                · skip
                  refine rw_of (fun rr hrr => q_iconst (q_goto (t := 101) rfl hrr)) ?_
                  refine rw_blk lk_X10_isPlace_101 ?_
                  refine rw_ret hQ (q_ireturn (by omega)) ?_
                  first
                    | exact ⟨rfl, rfl, rfl⟩
                    | (exfalso; omega)
                  
      · skip
        refine rw_of (fun rr hrr => q_iload_n rfl (q_iconst hrr)) ?_
        refine rw_icmp_eq ⟨by omega, by omega⟩ ⟨by omega, by omega⟩ (t := 45) rfl (fun hc24 => ?_) (fun hc24 => ?_)
        · skip
          refine rw_blk lk_X10_isPlace_45 ?_
          refine rw_of (fun rr hrr => q_iconst (q_goto (t := 50) rfl hrr)) ?_
          refine rw_blk lk_X10_isPlace_50 ?_
          refine rw_of (fun rr hrr => q_istore (Nat.le_of_ble_eq_true rfl) rfl (q_iload_n rfl (q_iconst hrr))) ?_
          refine rw_icmp_eq ⟨by omega, by omega⟩ ⟨by omega, by omega⟩ (t := 79) rfl (fun hc25 => ?_) (fun hc25 => ?_)
          · skip
            refine rw_blk lk_X10_isPlace_79 ?_
            refine rw_of (fun rr hrr => q_iconst (q_goto (t := 84) rfl hrr)) ?_
            refine rw_blk lk_X10_isPlace_84 ?_
            refine rw_of (fun rr hrr => q_istore (Nat.le_of_ble_eq_true rfl) rfl (q_iload rfl hrr)) ?_
            refine rw_if_eq ⟨by omega, by omega⟩ (t := 100) rfl (fun hc26 => ?_) (fun hc26 => ?_)
            · skip
              refine rw_blk lk_X10_isPlace_100 ?_
              refine rw_of (fun rr hrr => q_iconst hrr) ?_
              refine rw_blk lk_X10_isPlace_101 ?_
              refine rw_ret hQ (q_ireturn (by omega)) ?_
              first
                | exact ⟨rfl, rfl, rfl⟩
                | (exfalso; omega)
              
            · skip
              refine rw_of (fun rr hrr => q_iload rfl hrr) ?_
              refine rw_if_eq ⟨by omega, by omega⟩ (t := 100) rfl (fun hc27 => ?_) (fun hc27 => ?_)
              · skip
                refine rw_blk lk_X10_isPlace_100 ?_
                refine rw_of (fun rr hrr => q_iconst hrr) ?_
                refine rw_blk lk_X10_isPlace_101 ?_
                refine rw_ret hQ (q_ireturn (by omega)) ?_
                first
                  | exact ⟨rfl, rfl, rfl⟩
                  | (exfalso; omega)
                
              · skip
                refine rw_of (fun rr hrr => q_iconst (q_goto (t := 101) rfl hrr)) ?_
                refine rw_blk lk_X10_isPlace_101 ?_
                refine rw_ret hQ (q_ireturn (by omega)) ?_
                first
                  | exact ⟨rfl, rfl, rfl⟩
                  | (exfalso; omega)
                
          · skip
            refine rw_of (fun rr hrr => q_iload_n rfl (q_iconst hrr)) ?_
            refine rw_icmp_eq ⟨by omega, by omega⟩ ⟨by omega, by omega⟩ (t := 79) rfl (fun hc28 => ?_) (fun hc28 => ?_)
            · skip
              refine rw_blk lk_X10_isPlace_79 ?_
              refine rw_of (fun rr hrr => q_iconst (q_goto (t := 84) rfl hrr)) ?_
              refine rw_blk lk_X10_isPlace_84 ?_
              refine rw_of (fun rr hrr => q_istore (Nat.le_of_ble_eq_true rfl) rfl (q_iload rfl hrr)) ?_
              refine rw_if_eq ⟨by omega, by omega⟩ (t := 100) rfl (fun hc29 => ?_) (fun hc29 => ?_)
              · skip
                refine rw_blk lk_X10_isPlace_100 ?_
                refine rw_of (fun rr hrr => q_iconst hrr) ?_
                refine rw_blk lk_X10_isPlace_101 ?_
                refine rw_ret hQ (q_ireturn (by omega)) ?_
                first
                  | exact ⟨rfl, rfl, rfl⟩
                  | (exfalso; omega)
                
              · skip
                refine rw_of (fun rr hrr => q_iload rfl hrr) ?_
                refine rw_if_eq ⟨by omega, by omega⟩ (t := 100) rfl (fun hc30 => ?_) (fun hc30 => ?_)
                · skip
                  refine rw_blk lk_X10_isPlace_100 ?_
                  refine rw_of (fun rr hrr => q_iconst hrr) ?_
                  refine rw_blk lk_X10_isPlace_101 ?_
                  refine rw_ret hQ (q_ireturn (by omega)) ?_
                  first
                    | exact ⟨rfl, rfl, rfl⟩
                    | (exfalso; omega)
                  
                · skip
                  refine rw_of (fun rr hrr => q_iconst (q_goto (t := 101) rfl hrr)) ?_
                  refine rw_blk lk_X10_isPlace_101 ?_
                  refine rw_ret hQ (q_ireturn (by omega)) ?_
                  first
                    | exact ⟨rfl, rfl, rfl⟩
                    | (exfalso; omega)
                  
            · skip
              refine rw_of (fun rr hrr => q_iload rfl (q_iconst (q_aload_n rfl (q_getR (show SH 261 = (18, 0) from rfl) rfl (pt_261_1 hP) (q_iload_n rfl (q_iald (j := s) (show SH 262 = (1, 13) from rfl) rfl (by omega) (ki rfl hm (by omega)) (q_iconst (q_isub hrr)))))))) ?_
              obtain ⟨_, mm31, pp32, hV33, rfl, rfl, rfl⟩ := c_X10_isIn1 (S := S) (fz := fz) (m := m) (p := p) (d := d) (by omega) (j) (0) ((((n : Nat) : Int) - 1)) (by omega) (by omega) (by omega)
              refine rw_of (fun rr hrr => q_invS hV33 rfl rfl (okar_cons rfl (okar_cons rfl (okar_cons rfl okar_nil))) (Nat.le_of_ble_eq_true rfl) hrr) ?_
              refine rw_if_eq ⟨by omega, by omega⟩ (t := 83) rfl (fun hc34 => ?_) (fun hc34 => ?_)
              · skip
                refine rw_blk lk_X10_isPlace_83 ?_
                refine rw_of (fun rr hrr => q_iconst hrr) ?_
                refine rw_blk lk_X10_isPlace_84 ?_
                refine rw_of (fun rr hrr => q_istore (Nat.le_of_ble_eq_true rfl) rfl (q_iload rfl hrr)) ?_
                refine rw_if_eq ⟨by omega, by omega⟩ (t := 100) rfl (fun hc35 => ?_) (fun hc35 => ?_)
                · skip
                  refine rw_blk lk_X10_isPlace_100 ?_
                  refine rw_of (fun rr hrr => q_iconst hrr) ?_
                  refine rw_blk lk_X10_isPlace_101 ?_
                  refine rw_ret hQ (q_ireturn (by omega)) ?_
                  first
                    | exact ⟨rfl, rfl, rfl⟩
                    | (exfalso; omega)
                  
                · skip
                  refine rw_of (fun rr hrr => q_iload rfl hrr) ?_
                  refine rw_if_eq ⟨by omega, by omega⟩ (t := 100) rfl (fun hc36 => ?_) (fun hc36 => ?_)
                  · skip
                    refine rw_blk lk_X10_isPlace_100 ?_
                    refine rw_of (fun rr hrr => q_iconst hrr) ?_
                    refine rw_blk lk_X10_isPlace_101 ?_
                    refine rw_ret hQ (q_ireturn (by omega)) ?_
                    first
                      | exact ⟨rfl, rfl, rfl⟩
                      | (exfalso; omega)
                    
                  · skip
                    refine rw_of (fun rr hrr => q_iconst (q_goto (t := 101) rfl hrr)) ?_
                    refine rw_blk lk_X10_isPlace_101 ?_
                    refine rw_ret hQ (q_ireturn (by omega)) ?_
                    first
                      | exact ⟨rfl, rfl, rfl⟩
                      | (exfalso; omega)
                    
              · skip
                refine rw_blk lk_X10_isPlace_79 ?_
                refine rw_of (fun rr hrr => q_iconst (q_goto (t := 84) rfl hrr)) ?_
                refine rw_blk lk_X10_isPlace_84 ?_
                refine rw_of (fun rr hrr => q_istore (Nat.le_of_ble_eq_true rfl) rfl (q_iload rfl hrr)) ?_
                refine rw_if_eq ⟨by omega, by omega⟩ (t := 100) rfl (fun hc37 => ?_) (fun hc37 => ?_)
                · skip
                  refine rw_blk lk_X10_isPlace_100 ?_
                  refine rw_of (fun rr hrr => q_iconst hrr) ?_
                  refine rw_blk lk_X10_isPlace_101 ?_
                  refine rw_ret hQ (q_ireturn (by omega)) ?_
                  first
                    | exact ⟨rfl, rfl, rfl⟩
                    | (exfalso; omega)
                  
                · skip
                  refine rw_of (fun rr hrr => q_iload rfl hrr) ?_
                  refine rw_if_eq ⟨by omega, by omega⟩ (t := 100) rfl (fun hc38 => ?_) (fun hc38 => ?_)
                  · skip
                    refine rw_blk lk_X10_isPlace_100 ?_
                    refine rw_of (fun rr hrr => q_iconst hrr) ?_
                    refine rw_blk lk_X10_isPlace_101 ?_
                    refine rw_ret hQ (q_ireturn (by omega)) ?_
                    first
                      | exact ⟨rfl, rfl, rfl⟩
                      | (exfalso; omega)
                    
                  · skip
                    refine rw_of (fun rr hrr => q_iconst (q_goto (t := 101) rfl hrr)) ?_
                    refine rw_blk lk_X10_isPlace_101 ?_
                    refine rw_ret hQ (q_ireturn (by omega)) ?_
                    first
                      | exact ⟨rfl, rfl, rfl⟩
                      | (exfalso; omega)
                    
        · skip
          refine rw_of (fun rr hrr => q_iload_n rfl (q_iconst (q_aload_n rfl (q_getR (show SH 261 = (18, 0) from rfl) rfl (pt_261_1 hP) (q_iload_n rfl (q_iald (j := s) (show SH 262 = (1, 13) from rfl) rfl (by omega) (ki rfl hm (by omega)) (q_iconst (q_isub hrr)))))))) ?_
          obtain ⟨_, mm39, pp40, hV41, rfl, rfl, rfl⟩ := c_X10_isIn1 (S := S) (fz := fz) (m := m) (p := p) (d := d) (by omega) (i) (0) ((((n : Nat) : Int) - 1)) (by omega) (by omega) (by omega)
          refine rw_of (fun rr hrr => q_invS hV41 rfl rfl (okar_cons rfl (okar_cons rfl (okar_cons rfl okar_nil))) (Nat.le_of_ble_eq_true rfl) hrr) ?_
          refine rw_if_eq ⟨by omega, by omega⟩ (t := 49) rfl (fun hc42 => ?_) (fun hc42 => ?_)
          · skip
            refine rw_blk lk_X10_isPlace_49 ?_
            refine rw_of (fun rr hrr => q_iconst hrr) ?_
            refine rw_blk lk_X10_isPlace_50 ?_
            refine rw_of (fun rr hrr => q_istore (Nat.le_of_ble_eq_true rfl) rfl (q_iload_n rfl (q_iconst hrr))) ?_
            refine rw_icmp_eq ⟨by omega, by omega⟩ ⟨by omega, by omega⟩ (t := 79) rfl (fun hc43 => ?_) (fun hc43 => ?_)
            · skip
              refine rw_blk lk_X10_isPlace_79 ?_
              refine rw_of (fun rr hrr => q_iconst (q_goto (t := 84) rfl hrr)) ?_
              refine rw_blk lk_X10_isPlace_84 ?_
              refine rw_of (fun rr hrr => q_istore (Nat.le_of_ble_eq_true rfl) rfl (q_iload rfl hrr)) ?_
              refine rw_if_eq ⟨by omega, by omega⟩ (t := 100) rfl (fun hc44 => ?_) (fun hc44 => ?_)
              · skip
                refine rw_blk lk_X10_isPlace_100 ?_
                refine rw_of (fun rr hrr => q_iconst hrr) ?_
                refine rw_blk lk_X10_isPlace_101 ?_
                refine rw_ret hQ (q_ireturn (by omega)) ?_
                first
                  | exact ⟨rfl, rfl, rfl⟩
                  | (exfalso; omega)
                
              · skip
                refine rw_of (fun rr hrr => q_iload rfl hrr) ?_
                refine rw_if_eq ⟨by omega, by omega⟩ (t := 100) rfl (fun hc45 => ?_) (fun hc45 => ?_)
                · skip
                  refine rw_blk lk_X10_isPlace_100 ?_
                  refine rw_of (fun rr hrr => q_iconst hrr) ?_
                  refine rw_blk lk_X10_isPlace_101 ?_
                  refine rw_ret hQ (q_ireturn (by omega)) ?_
                  first
                    | exact ⟨rfl, rfl, rfl⟩
                    | (exfalso; omega)
                  
                · skip
                  refine rw_of (fun rr hrr => q_iconst (q_goto (t := 101) rfl hrr)) ?_
                  refine rw_blk lk_X10_isPlace_101 ?_
                  refine rw_ret hQ (q_ireturn (by omega)) ?_
                  first
                    | exact ⟨rfl, rfl, rfl⟩
                    | (exfalso; omega)
                  
            · skip
              refine rw_of (fun rr hrr => q_iload_n rfl (q_iconst hrr)) ?_
              refine rw_icmp_eq ⟨by omega, by omega⟩ ⟨by omega, by omega⟩ (t := 79) rfl (fun hc46 => ?_) (fun hc46 => ?_)
              · skip
                refine rw_blk lk_X10_isPlace_79 ?_
                refine rw_of (fun rr hrr => q_iconst (q_goto (t := 84) rfl hrr)) ?_
                refine rw_blk lk_X10_isPlace_84 ?_
                refine rw_of (fun rr hrr => q_istore (Nat.le_of_ble_eq_true rfl) rfl (q_iload rfl hrr)) ?_
                refine rw_if_eq ⟨by omega, by omega⟩ (t := 100) rfl (fun hc47 => ?_) (fun hc47 => ?_)
                · skip
                  refine rw_blk lk_X10_isPlace_100 ?_
                  refine rw_of (fun rr hrr => q_iconst hrr) ?_
                  refine rw_blk lk_X10_isPlace_101 ?_
                  refine rw_ret hQ (q_ireturn (by omega)) ?_
                  first
                    | exact ⟨rfl, rfl, rfl⟩
                    | (exfalso; omega)
                  
                · skip
                  refine rw_of (fun rr hrr => q_iload rfl hrr) ?_
                  refine rw_if_eq ⟨by omega, by omega⟩ (t := 100) rfl (fun hc48 => ?_) (fun hc48 => ?_)
                  · skip
                    refine rw_blk lk_X10_isPlace_100 ?_
                    refine rw_of (fun rr hrr => q_iconst hrr) ?_
                    refine rw_blk lk_X10_isPlace_101 ?_
                    refine rw_ret hQ (q_ireturn (by omega)) ?_
                    first
                      | exact ⟨rfl, rfl, rfl⟩
                      | (exfalso; omega)
                    
                  · skip
                    refine rw_of (fun rr hrr => q_iconst (q_goto (t := 101) rfl hrr)) ?_
                    refine rw_blk lk_X10_isPlace_101 ?_
                    refine rw_ret hQ (q_ireturn (by omega)) ?_
                    first
                      | exact ⟨rfl, rfl, rfl⟩
                      | (exfalso; omega)
                    
              · skip
                refine rw_of (fun rr hrr => q_iload rfl (q_iconst (q_aload_n rfl (q_getR (show SH 261 = (18, 0) from rfl) rfl (pt_261_1 hP) (q_iload_n rfl (q_iald (j := s) (show SH 262 = (1, 13) from rfl) rfl (by omega) (ki rfl hm (by omega)) (q_iconst (q_isub hrr)))))))) ?_
                obtain ⟨_, mm49, pp50, hV51, rfl, rfl, rfl⟩ := c_X10_isIn1 (S := S) (fz := fz) (m := m) (p := p) (d := d) (by omega) (j) (0) ((((n : Nat) : Int) - 1)) (by omega) (by omega) (by omega)
                refine rw_of (fun rr hrr => q_invS hV51 rfl rfl (okar_cons rfl (okar_cons rfl (okar_cons rfl okar_nil))) (Nat.le_of_ble_eq_true rfl) hrr) ?_
                refine rw_if_eq ⟨by omega, by omega⟩ (t := 83) rfl (fun hc52 => ?_) (fun hc52 => ?_)
                · skip
                  refine rw_blk lk_X10_isPlace_83 ?_
                  refine rw_of (fun rr hrr => q_iconst hrr) ?_
                  refine rw_blk lk_X10_isPlace_84 ?_
                  refine rw_of (fun rr hrr => q_istore (Nat.le_of_ble_eq_true rfl) rfl (q_iload rfl hrr)) ?_
                  refine rw_if_eq ⟨by omega, by omega⟩ (t := 100) rfl (fun hc53 => ?_) (fun hc53 => ?_)
                  · skip
                    refine rw_blk lk_X10_isPlace_100 ?_
                    refine rw_of (fun rr hrr => q_iconst hrr) ?_
                    refine rw_blk lk_X10_isPlace_101 ?_
                    refine rw_ret hQ (q_ireturn (by omega)) ?_
                    first
                      | exact ⟨rfl, rfl, rfl⟩
                      | (exfalso; omega)
                    
                  · skip
                    refine rw_of (fun rr hrr => q_iload rfl hrr) ?_
                    refine rw_if_eq ⟨by omega, by omega⟩ (t := 100) rfl (fun hc54 => ?_) (fun hc54 => ?_)
                    · skip
                      refine rw_blk lk_X10_isPlace_100 ?_
                      refine rw_of (fun rr hrr => q_iconst hrr) ?_
                      refine rw_blk lk_X10_isPlace_101 ?_
                      refine rw_ret hQ (q_ireturn (by omega)) ?_
                      first
                        | exact ⟨rfl, rfl, rfl⟩
                        | (exfalso; omega)
                      
                    · skip
                      refine rw_of (fun rr hrr => q_iconst (q_goto (t := 101) rfl hrr)) ?_
                      refine rw_blk lk_X10_isPlace_101 ?_
                      refine rw_ret hQ (q_ireturn (by omega)) ?_
                      first
                        | exact ⟨rfl, rfl, rfl⟩
                        | (exfalso; omega)
                      
                · skip
                  refine rw_blk lk_X10_isPlace_79 ?_
                  refine rw_of (fun rr hrr => q_iconst (q_goto (t := 84) rfl hrr)) ?_
                  refine rw_blk lk_X10_isPlace_84 ?_
                  refine rw_of (fun rr hrr => q_istore (Nat.le_of_ble_eq_true rfl) rfl (q_iload rfl hrr)) ?_
                  refine rw_if_eq ⟨by omega, by omega⟩ (t := 100) rfl (fun hc55 => ?_) (fun hc55 => ?_)
                  · skip
                    refine rw_blk lk_X10_isPlace_100 ?_
                    refine rw_of (fun rr hrr => q_iconst hrr) ?_
                    refine rw_blk lk_X10_isPlace_101 ?_
                    refine rw_ret hQ (q_ireturn (by omega)) ?_
                    first
                      | exact ⟨rfl, rfl, rfl⟩
                      | (exfalso; omega)
                    
                  · skip
                    refine rw_of (fun rr hrr => q_iload rfl hrr) ?_
                    refine rw_if_eq ⟨by omega, by omega⟩ (t := 100) rfl (fun hc56 => ?_) (fun hc56 => ?_)
                    · skip
                      refine rw_blk lk_X10_isPlace_100 ?_
                      refine rw_of (fun rr hrr => q_iconst hrr) ?_
                      refine rw_blk lk_X10_isPlace_101 ?_
                      refine rw_ret hQ (q_ireturn (by omega)) ?_
                      first
                        | exact ⟨rfl, rfl, rfl⟩
                        | (exfalso; omega)
                      
                    · skip
                      refine rw_of (fun rr hrr => q_iconst (q_goto (t := 101) rfl hrr)) ?_
                      refine rw_blk lk_X10_isPlace_101 ?_
                      refine rw_ret hQ (q_ireturn (by omega)) ?_
                      first
                        | exact ⟨rfl, rfl, rfl⟩
                        | (exfalso; omega)
                      
          · skip
            refine rw_blk lk_X10_isPlace_45 ?_
            refine rw_of (fun rr hrr => q_iconst (q_goto (t := 50) rfl hrr)) ?_
            refine rw_blk lk_X10_isPlace_50 ?_
            refine rw_of (fun rr hrr => q_istore (Nat.le_of_ble_eq_true rfl) rfl (q_iload_n rfl (q_iconst hrr))) ?_
            refine rw_icmp_eq ⟨by omega, by omega⟩ ⟨by omega, by omega⟩ (t := 79) rfl (fun hc57 => ?_) (fun hc57 => ?_)
            · skip
              refine rw_blk lk_X10_isPlace_79 ?_
              refine rw_of (fun rr hrr => q_iconst (q_goto (t := 84) rfl hrr)) ?_
              refine rw_blk lk_X10_isPlace_84 ?_
              refine rw_of (fun rr hrr => q_istore (Nat.le_of_ble_eq_true rfl) rfl (q_iload rfl hrr)) ?_
              refine rw_if_eq ⟨by omega, by omega⟩ (t := 100) rfl (fun hc58 => ?_) (fun hc58 => ?_)
              · skip
                refine rw_blk lk_X10_isPlace_100 ?_
                refine rw_of (fun rr hrr => q_iconst hrr) ?_
                refine rw_blk lk_X10_isPlace_101 ?_
                refine rw_ret hQ (q_ireturn (by omega)) ?_
                first
                  | exact ⟨rfl, rfl, rfl⟩
                  | (exfalso; omega)
                
              · skip
                refine rw_of (fun rr hrr => q_iload rfl hrr) ?_
                refine rw_if_eq ⟨by omega, by omega⟩ (t := 100) rfl (fun hc59 => ?_) (fun hc59 => ?_)
                · skip
                  refine rw_blk lk_X10_isPlace_100 ?_
                  refine rw_of (fun rr hrr => q_iconst hrr) ?_
                  refine rw_blk lk_X10_isPlace_101 ?_
                  refine rw_ret hQ (q_ireturn (by omega)) ?_
                  first
                    | exact ⟨rfl, rfl, rfl⟩
                    | (exfalso; omega)
                  
                · skip
                  refine rw_of (fun rr hrr => q_iconst (q_goto (t := 101) rfl hrr)) ?_
                  refine rw_blk lk_X10_isPlace_101 ?_
                  refine rw_ret hQ (q_ireturn (by omega)) ?_
                  first
                    | exact ⟨rfl, rfl, rfl⟩
                    | (exfalso; omega)
                  
            · skip
              refine rw_of (fun rr hrr => q_iload_n rfl (q_iconst hrr)) ?_
              refine rw_icmp_eq ⟨by omega, by omega⟩ ⟨by omega, by omega⟩ (t := 79) rfl (fun hc60 => ?_) (fun hc60 => ?_)
              · skip
                refine rw_blk lk_X10_isPlace_79 ?_
                refine rw_of (fun rr hrr => q_iconst (q_goto (t := 84) rfl hrr)) ?_
                refine rw_blk lk_X10_isPlace_84 ?_
                refine rw_of (fun rr hrr => q_istore (Nat.le_of_ble_eq_true rfl) rfl (q_iload rfl hrr)) ?_
                refine rw_if_eq ⟨by omega, by omega⟩ (t := 100) rfl (fun hc61 => ?_) (fun hc61 => ?_)
                · skip
                  refine rw_blk lk_X10_isPlace_100 ?_
                  refine rw_of (fun rr hrr => q_iconst hrr) ?_
                  refine rw_blk lk_X10_isPlace_101 ?_
                  refine rw_ret hQ (q_ireturn (by omega)) ?_
                  first
                    | exact ⟨rfl, rfl, rfl⟩
                    | (exfalso; omega)
                  
                · skip
                  refine rw_of (fun rr hrr => q_iload rfl hrr) ?_
                  refine rw_if_eq ⟨by omega, by omega⟩ (t := 100) rfl (fun hc62 => ?_) (fun hc62 => ?_)
                  · skip
                    refine rw_blk lk_X10_isPlace_100 ?_
                    refine rw_of (fun rr hrr => q_iconst hrr) ?_
                    refine rw_blk lk_X10_isPlace_101 ?_
                    refine rw_ret hQ (q_ireturn (by omega)) ?_
                    first
                      | exact ⟨rfl, rfl, rfl⟩
                      | (exfalso; omega)
                    
                  · skip
                    refine rw_of (fun rr hrr => q_iconst (q_goto (t := 101) rfl hrr)) ?_
                    refine rw_blk lk_X10_isPlace_101 ?_
                    refine rw_ret hQ (q_ireturn (by omega)) ?_
                    first
                      | exact ⟨rfl, rfl, rfl⟩
                      | (exfalso; omega)
                    
              · skip
                refine rw_of (fun rr hrr => q_iload rfl (q_iconst (q_aload_n rfl (q_getR (show SH 261 = (18, 0) from rfl) rfl (pt_261_1 hP) (q_iload_n rfl (q_iald (j := s) (show SH 262 = (1, 13) from rfl) rfl (by omega) (ki rfl hm (by omega)) (q_iconst (q_isub hrr)))))))) ?_
                obtain ⟨_, mm63, pp64, hV65, rfl, rfl, rfl⟩ := c_X10_isIn1 (S := S) (fz := fz) (m := m) (p := p) (d := d) (by omega) (j) (0) ((((n : Nat) : Int) - 1)) (by omega) (by omega) (by omega)
                refine rw_of (fun rr hrr => q_invS hV65 rfl rfl (okar_cons rfl (okar_cons rfl (okar_cons rfl okar_nil))) (Nat.le_of_ble_eq_true rfl) hrr) ?_
                refine rw_if_eq ⟨by omega, by omega⟩ (t := 83) rfl (fun hc66 => ?_) (fun hc66 => ?_)
                · skip
                  refine rw_blk lk_X10_isPlace_83 ?_
                  refine rw_of (fun rr hrr => q_iconst hrr) ?_
                  refine rw_blk lk_X10_isPlace_84 ?_
                  refine rw_of (fun rr hrr => q_istore (Nat.le_of_ble_eq_true rfl) rfl (q_iload rfl hrr)) ?_
                  refine rw_if_eq ⟨by omega, by omega⟩ (t := 100) rfl (fun hc67 => ?_) (fun hc67 => ?_)
                  · skip
                    refine rw_blk lk_X10_isPlace_100 ?_
                    refine rw_of (fun rr hrr => q_iconst hrr) ?_
                    refine rw_blk lk_X10_isPlace_101 ?_
                    refine rw_ret hQ (q_ireturn (by omega)) ?_
                    first
                      | exact ⟨rfl, rfl, rfl⟩
                      | (exfalso; omega)
                    
                  · skip
                    refine rw_of (fun rr hrr => q_iload rfl hrr) ?_
                    refine rw_if_eq ⟨by omega, by omega⟩ (t := 100) rfl (fun hc68 => ?_) (fun hc68 => ?_)
                    · skip
                      refine rw_blk lk_X10_isPlace_100 ?_
                      refine rw_of (fun rr hrr => q_iconst hrr) ?_
                      refine rw_blk lk_X10_isPlace_101 ?_
                      refine rw_ret hQ (q_ireturn (by omega)) ?_
                      first
                        | exact ⟨rfl, rfl, rfl⟩
                        | (exfalso; omega)
                      
                    · skip
                      refine rw_of (fun rr hrr => q_iconst (q_goto (t := 101) rfl hrr)) ?_
                      refine rw_blk lk_X10_isPlace_101 ?_
                      refine rw_ret hQ (q_ireturn (by omega)) ?_
                      first
                        | exact ⟨rfl, rfl, rfl⟩
                        | (exfalso; omega)
                      
                · skip
                  refine rw_blk lk_X10_isPlace_79 ?_
                  refine rw_of (fun rr hrr => q_iconst (q_goto (t := 84) rfl hrr)) ?_
                  refine rw_blk lk_X10_isPlace_84 ?_
                  refine rw_of (fun rr hrr => q_istore (Nat.le_of_ble_eq_true rfl) rfl (q_iload rfl hrr)) ?_
                  refine rw_if_eq ⟨by omega, by omega⟩ (t := 100) rfl (fun hc69 => ?_) (fun hc69 => ?_)
                  · skip
                    refine rw_blk lk_X10_isPlace_100 ?_
                    refine rw_of (fun rr hrr => q_iconst hrr) ?_
                    refine rw_blk lk_X10_isPlace_101 ?_
                    refine rw_ret hQ (q_ireturn (by omega)) ?_
                    first
                      | exact ⟨rfl, rfl, rfl⟩
                      | (exfalso; omega)
                    
                  · skip
                    refine rw_of (fun rr hrr => q_iload rfl hrr) ?_
                    refine rw_if_eq ⟨by omega, by omega⟩ (t := 100) rfl (fun hc70 => ?_) (fun hc70 => ?_)
                    · skip
                      refine rw_blk lk_X10_isPlace_100 ?_
                      refine rw_of (fun rr hrr => q_iconst hrr) ?_
                      refine rw_blk lk_X10_isPlace_101 ?_
                      refine rw_ret hQ (q_ireturn (by omega)) ?_
                      first
                        | exact ⟨rfl, rfl, rfl⟩
                        | (exfalso; omega)
                      
                    · skip
                      refine rw_of (fun rr hrr => q_iconst (q_goto (t := 101) rfl hrr)) ?_
                      refine rw_blk lk_X10_isPlace_101 ?_
                      refine rw_ret hQ (q_ireturn (by omega)) ?_
                      first
                        | exact ⟨rfl, rfl, rfl⟩
                        | (exfalso; omega)
                      
    · skip
      refine rw_blk lk_X10_isPlace_17 ?_
      refine rw_of (fun rr hrr => q_iconst hrr) ?_
      refine rw_ret hQ (q_ireturn (by omega)) ?_
      first
        | exact ⟨rfl, rfl, rfl⟩
        | (exfalso; omega)
      
theorem c_X10_isPlace1_01 {d : Nat} {S : MC} {fz : Bool} {m : M1} {p : M2} (hd : 3 ≤ d) (s k n : Nat) (i j : Int) (hP : PI p) (hk : m 261 0 = nF k) (hk12 : k ≤ 12) (hsk : s < k) (hm : m 262 s = nF n) (hn0 : 1 ≤ n) (hn : n ≤ 8) (hri : (-2147483648 ≤ i ∧ i < 2147483648)) (hrj : (-2147483648 ≤ j ∧ j < 2147483648)) (hi : i < 0 ∨ n ≤ i) : Ct d k_X10_isPlace S fz [.ref (261), .int (iI (((s : Nat) : Int))), .int (iI (1)), .int (iI (i)), .int (iI (j))] m p (fun v m' p' => v = some (.int (iI (0))) ∧ m = m' ∧ p = p') := by
  obtain ⟨d, rfl⟩ : ∃ e, d = e + 1 := ⟨d - 1, by omega⟩
  refine ct_go (lv := [some (.ref (261)), some (.int (iI (((s : Nat) : Int)))), some (.int (iI (1))), some (.int (iI (i))), some (.int (iI (j))), none, none]) (Nat.le_of_ble_eq_true rfl) (okar_cons rfl (okar_cons rfl (okar_cons rfl (okar_cons rfl (okar_cons rfl okar_nil))))) rfl (fun Qr hQ => ?_)
  refine rw_blk lk_X10_isPlace_0 ?_
  refine rw_of (fun rr hrr => q_aload_n rfl (q_iload_n rfl hrr)) ?_
  obtain ⟨_, mm1, pp2, hV3, rfl, rfl, rfl⟩ := c_X10_isSystem1 (S := S) (fz := fz) (m := m) (p := p) (d := d) (by omega) (((s : Nat) : Int)) (k) hP hk (by omega) (by omega) (by omega)
  refine rw_of (fun rr hrr => q_invV hV3 (show SH 261 = (18, 0) from rfl) rfl rfl (okar_cons rfl okar_nil) (Nat.le_of_ble_eq_true rfl) hrr) ?_
  refine rw_if_eq ⟨by omega, by omega⟩ (t := 17) rfl (fun hc4 => ?_) (fun hc4 => ?_)
  · skip
    refine rw_blk lk_X10_isPlace_17 ?_
    refine rw_of (fun rr hrr => q_iconst hrr) ?_
    refine rw_ret hQ (q_ireturn (by omega)) ?_
    first
      | exact ⟨rfl, rfl, rfl⟩
      | (exfalso; omega)
    
  · skip
    refine rw_of (fun rr hrr => q_iload_n rfl (q_iconst (q_iconst hrr))) ?_
    obtain ⟨_, mm5, pp6, hV7, rfl, rfl, rfl⟩ := c_X10_isIn1 (S := S) (fz := fz) (m := m) (p := p) (d := d) (by omega) (1) (0) (3) (by omega) (by omega) (by omega)
    refine rw_of (fun rr hrr => q_invS hV7 rfl rfl (okar_cons rfl (okar_cons rfl (okar_cons rfl okar_nil))) (Nat.le_of_ble_eq_true rfl) hrr) ?_
    refine rw_if_ne ⟨by omega, by omega⟩ (t := 19) rfl (fun hc8 => ?_) (fun hc8 => ?_)
    · skip
      refine rw_blk lk_X10_isPlace_19 ?_
      refine rw_of (fun rr hrr => q_iload_n rfl (q_iconst hrr)) ?_
      refine rw_icmp_eq ⟨by omega, by omega⟩ ⟨by omega, by omega⟩ (t := 45) rfl (fun hc9 => ?_) (fun hc9 => ?_)
      · skip
        refine rw_blk lk_X10_isPlace_45 ?_
        refine rw_of (fun rr hrr => q_iconst (q_goto (t := 50) rfl hrr)) ?_
        refine rw_blk lk_X10_isPlace_50 ?_
        refine rw_of (fun rr hrr => q_istore (Nat.le_of_ble_eq_true rfl) rfl (q_iload_n rfl (q_iconst hrr))) ?_
        refine rw_icmp_eq ⟨by omega, by omega⟩ ⟨by omega, by omega⟩ (t := 79) rfl (fun hc10 => ?_) (fun hc10 => ?_)
        · skip
          refine rw_blk lk_X10_isPlace_79 ?_
          refine rw_of (fun rr hrr => q_iconst (q_goto (t := 84) rfl hrr)) ?_
          refine rw_blk lk_X10_isPlace_84 ?_
          refine rw_of (fun rr hrr => q_istore (Nat.le_of_ble_eq_true rfl) rfl (q_iload rfl hrr)) ?_
          refine rw_if_eq ⟨by omega, by omega⟩ (t := 100) rfl (fun hc11 => ?_) (fun hc11 => ?_)
          · skip
            refine rw_blk lk_X10_isPlace_100 ?_
            refine rw_of (fun rr hrr => q_iconst hrr) ?_
            refine rw_blk lk_X10_isPlace_101 ?_
            refine rw_ret hQ (q_ireturn (by omega)) ?_
            first
              | exact ⟨rfl, rfl, rfl⟩
              | (exfalso; omega)
            
          · skip
            refine rw_of (fun rr hrr => q_iload rfl hrr) ?_
            refine rw_if_eq ⟨by omega, by omega⟩ (t := 100) rfl (fun hc12 => ?_) (fun hc12 => ?_)
            · skip
              refine rw_blk lk_X10_isPlace_100 ?_
              refine rw_of (fun rr hrr => q_iconst hrr) ?_
              refine rw_blk lk_X10_isPlace_101 ?_
              refine rw_ret hQ (q_ireturn (by omega)) ?_
              first
                | exact ⟨rfl, rfl, rfl⟩
                | (exfalso; omega)
              
            · skip
              refine rw_of (fun rr hrr => q_iconst (q_goto (t := 101) rfl hrr)) ?_
              refine rw_blk lk_X10_isPlace_101 ?_
              refine rw_ret hQ (q_ireturn (by omega)) ?_
              first
                | exact ⟨rfl, rfl, rfl⟩
                | (exfalso; omega)
              
        · skip
          refine rw_of (fun rr hrr => q_iload_n rfl (q_iconst hrr)) ?_
          refine rw_icmp_eq ⟨by omega, by omega⟩ ⟨by omega, by omega⟩ (t := 79) rfl (fun hc13 => ?_) (fun hc13 => ?_)
          · skip
            refine rw_blk lk_X10_isPlace_79 ?_
            refine rw_of (fun rr hrr => q_iconst (q_goto (t := 84) rfl hrr)) ?_
            refine rw_blk lk_X10_isPlace_84 ?_
            refine rw_of (fun rr hrr => q_istore (Nat.le_of_ble_eq_true rfl) rfl (q_iload rfl hrr)) ?_
            refine rw_if_eq ⟨by omega, by omega⟩ (t := 100) rfl (fun hc14 => ?_) (fun hc14 => ?_)
            · skip
              refine rw_blk lk_X10_isPlace_100 ?_
              refine rw_of (fun rr hrr => q_iconst hrr) ?_
              refine rw_blk lk_X10_isPlace_101 ?_
              refine rw_ret hQ (q_ireturn (by omega)) ?_
              first
                | exact ⟨rfl, rfl, rfl⟩
                | (exfalso; omega)
              
            · skip
              refine rw_of (fun rr hrr => q_iload rfl hrr) ?_
              refine rw_if_eq ⟨by omega, by omega⟩ (t := 100) rfl (fun hc15 => ?_) (fun hc15 => ?_)
              · skip
                refine rw_blk lk_X10_isPlace_100 ?_
                refine rw_of (fun rr hrr => q_iconst hrr) ?_
                refine rw_blk lk_X10_isPlace_101 ?_
                refine rw_ret hQ (q_ireturn (by omega)) ?_
                first
                  | exact ⟨rfl, rfl, rfl⟩
                  | (exfalso; omega)
                
              · skip
                refine rw_of (fun rr hrr => q_iconst (q_goto (t := 101) rfl hrr)) ?_
                refine rw_blk lk_X10_isPlace_101 ?_
                refine rw_ret hQ (q_ireturn (by omega)) ?_
                first
                  | exact ⟨rfl, rfl, rfl⟩
                  | (exfalso; omega)
                
          · skip
            refine rw_of (fun rr hrr => q_iload rfl (q_iconst (q_aload_n rfl (q_getR (show SH 261 = (18, 0) from rfl) rfl (pt_261_1 hP) (q_iload_n rfl (q_iald (j := s) (show SH 262 = (1, 13) from rfl) rfl (by omega) (ki rfl hm (by omega)) (q_iconst (q_isub hrr)))))))) ?_
            obtain ⟨_, mm16, pp17, hV18, rfl, rfl, rfl⟩ := c_X10_isIn1 (S := S) (fz := fz) (m := m) (p := p) (d := d) (by omega) (j) (0) ((((n : Nat) : Int) - 1)) (by omega) (by omega) (by omega)
            refine rw_of (fun rr hrr => q_invS hV18 rfl rfl (okar_cons rfl (okar_cons rfl (okar_cons rfl okar_nil))) (Nat.le_of_ble_eq_true rfl) hrr) ?_
            refine rw_if_eq ⟨by omega, by omega⟩ (t := 83) rfl (fun hc19 => ?_) (fun hc19 => ?_)
            · skip
              refine rw_blk lk_X10_isPlace_83 ?_
              refine rw_of (fun rr hrr => q_iconst hrr) ?_
              refine rw_blk lk_X10_isPlace_84 ?_
              refine rw_of (fun rr hrr => q_istore (Nat.le_of_ble_eq_true rfl) rfl (q_iload rfl hrr)) ?_
              refine rw_if_eq ⟨by omega, by omega⟩ (t := 100) rfl (fun hc20 => ?_) (fun hc20 => ?_)
              · skip
                refine rw_blk lk_X10_isPlace_100 ?_
                refine rw_of (fun rr hrr => q_iconst hrr) ?_
                refine rw_blk lk_X10_isPlace_101 ?_
                refine rw_ret hQ (q_ireturn (by omega)) ?_
                first
                  | exact ⟨rfl, rfl, rfl⟩
                  | (exfalso; omega)
                
              · skip
                refine rw_of (fun rr hrr => q_iload rfl hrr) ?_
                refine rw_if_eq ⟨by omega, by omega⟩ (t := 100) rfl (fun hc21 => ?_) (fun hc21 => ?_)
                · skip
                  refine rw_blk lk_X10_isPlace_100 ?_
                  refine rw_of (fun rr hrr => q_iconst hrr) ?_
                  refine rw_blk lk_X10_isPlace_101 ?_
                  refine rw_ret hQ (q_ireturn (by omega)) ?_
                  first
                    | exact ⟨rfl, rfl, rfl⟩
                    | (exfalso; omega)
                  
                · skip
                  refine rw_of (fun rr hrr => q_iconst (q_goto (t := 101) rfl hrr)) ?_
                  refine rw_blk lk_X10_isPlace_101 ?_
                  refine rw_ret hQ (q_ireturn (by omega)) ?_
                  first
                    | exact ⟨rfl, rfl, rfl⟩
                    | (exfalso; omega)
                  
            · skip
              refine rw_blk lk_X10_isPlace_79 ?_
              refine rw_of (fun rr hrr => q_iconst (q_goto (t := 84) rfl hrr)) ?_
              refine rw_blk lk_X10_isPlace_84 ?_
              refine rw_of (fun rr hrr => q_istore (Nat.le_of_ble_eq_true rfl) rfl (q_iload rfl hrr)) ?_
              refine rw_if_eq ⟨by omega, by omega⟩ (t := 100) rfl (fun hc22 => ?_) (fun hc22 => ?_)
              · skip
                refine rw_blk lk_X10_isPlace_100 ?_
                refine rw_of (fun rr hrr => q_iconst hrr) ?_
                refine rw_blk lk_X10_isPlace_101 ?_
                refine rw_ret hQ (q_ireturn (by omega)) ?_
                first
                  | exact ⟨rfl, rfl, rfl⟩
                  | (exfalso; omega)
                
              · skip
                refine rw_of (fun rr hrr => q_iload rfl hrr) ?_
                refine rw_if_eq ⟨by omega, by omega⟩ (t := 100) rfl (fun hc23 => ?_) (fun hc23 => ?_)
                · skip
                  refine rw_blk lk_X10_isPlace_100 ?_
                  refine rw_of (fun rr hrr => q_iconst hrr) ?_
                  refine rw_blk lk_X10_isPlace_101 ?_
                  refine rw_ret hQ (q_ireturn (by omega)) ?_
                  first
                    | exact ⟨rfl, rfl, rfl⟩
                    | (exfalso; omega)
                  
                · skip
                  refine rw_of (fun rr hrr => q_iconst (q_goto (t := 101) rfl hrr)) ?_
                  refine rw_blk lk_X10_isPlace_101 ?_
                  refine rw_ret hQ (q_ireturn (by omega)) ?_
                  first
                    | exact ⟨rfl, rfl, rfl⟩
                    | (exfalso; omega)
                  
      · skip
        refine rw_of (fun rr hrr => q_iload_n rfl (q_iconst hrr)) ?_
        refine rw_icmp_eq ⟨by omega, by omega⟩ ⟨by omega, by omega⟩ (t := 45) rfl (fun hc24 => ?_) (fun hc24 => ?_)
        · skip
          refine rw_blk lk_X10_isPlace_45 ?_
          refine rw_of (fun rr hrr => q_iconst (q_goto (t := 50) rfl hrr)) ?_
          refine rw_blk lk_X10_isPlace_50 ?_
          refine rw_of (fun rr hrr => q_istore (Nat.le_of_ble_eq_true rfl) rfl (q_iload_n rfl (q_iconst hrr))) ?_
          refine rw_icmp_eq ⟨by omega, by omega⟩ ⟨by omega, by omega⟩ (t := 79) rfl (fun hc25 => ?_) (fun hc25 => ?_)
          · skip
            refine rw_blk lk_X10_isPlace_79 ?_
            refine rw_of (fun rr hrr => q_iconst (q_goto (t := 84) rfl hrr)) ?_
            refine rw_blk lk_X10_isPlace_84 ?_
            refine rw_of (fun rr hrr => q_istore (Nat.le_of_ble_eq_true rfl) rfl (q_iload rfl hrr)) ?_
            refine rw_if_eq ⟨by omega, by omega⟩ (t := 100) rfl (fun hc26 => ?_) (fun hc26 => ?_)
            · skip
              refine rw_blk lk_X10_isPlace_100 ?_
              refine rw_of (fun rr hrr => q_iconst hrr) ?_
              refine rw_blk lk_X10_isPlace_101 ?_
              refine rw_ret hQ (q_ireturn (by omega)) ?_
              first
                | exact ⟨rfl, rfl, rfl⟩
                | (exfalso; omega)
              
            · skip
              refine rw_of (fun rr hrr => q_iload rfl hrr) ?_
              refine rw_if_eq ⟨by omega, by omega⟩ (t := 100) rfl (fun hc27 => ?_) (fun hc27 => ?_)
              · skip
                refine rw_blk lk_X10_isPlace_100 ?_
                refine rw_of (fun rr hrr => q_iconst hrr) ?_
                refine rw_blk lk_X10_isPlace_101 ?_
                refine rw_ret hQ (q_ireturn (by omega)) ?_
                first
                  | exact ⟨rfl, rfl, rfl⟩
                  | (exfalso; omega)
                
              · skip
                refine rw_of (fun rr hrr => q_iconst (q_goto (t := 101) rfl hrr)) ?_
                refine rw_blk lk_X10_isPlace_101 ?_
                refine rw_ret hQ (q_ireturn (by omega)) ?_
                first
                  | exact ⟨rfl, rfl, rfl⟩
                  | (exfalso; omega)
                
          · skip
            refine rw_of (fun rr hrr => q_iload_n rfl (q_iconst hrr)) ?_
            refine rw_icmp_eq ⟨by omega, by omega⟩ ⟨by omega, by omega⟩ (t := 79) rfl (fun hc28 => ?_) (fun hc28 => ?_)
            · skip
              refine rw_blk lk_X10_isPlace_79 ?_
              refine rw_of (fun rr hrr => q_iconst (q_goto (t := 84) rfl hrr)) ?_
              refine rw_blk lk_X10_isPlace_84 ?_
              refine rw_of (fun rr hrr => q_istore (Nat.le_of_ble_eq_true rfl) rfl (q_iload rfl hrr)) ?_
              refine rw_if_eq ⟨by omega, by omega⟩ (t := 100) rfl (fun hc29 => ?_) (fun hc29 => ?_)
              · skip
                refine rw_blk lk_X10_isPlace_100 ?_
                refine rw_of (fun rr hrr => q_iconst hrr) ?_
                refine rw_blk lk_X10_isPlace_101 ?_
                refine rw_ret hQ (q_ireturn (by omega)) ?_
                first
                  | exact ⟨rfl, rfl, rfl⟩
                  | (exfalso; omega)
                
              · skip
                refine rw_of (fun rr hrr => q_iload rfl hrr) ?_
                refine rw_if_eq ⟨by omega, by omega⟩ (t := 100) rfl (fun hc30 => ?_) (fun hc30 => ?_)
                · skip
                  refine rw_blk lk_X10_isPlace_100 ?_
                  refine rw_of (fun rr hrr => q_iconst hrr) ?_
                  refine rw_blk lk_X10_isPlace_101 ?_
                  refine rw_ret hQ (q_ireturn (by omega)) ?_
                  first
                    | exact ⟨rfl, rfl, rfl⟩
                    | (exfalso; omega)
                  
                · skip
                  refine rw_of (fun rr hrr => q_iconst (q_goto (t := 101) rfl hrr)) ?_
                  refine rw_blk lk_X10_isPlace_101 ?_
                  refine rw_ret hQ (q_ireturn (by omega)) ?_
                  first
                    | exact ⟨rfl, rfl, rfl⟩
                    | (exfalso; omega)
                  
            · skip
              refine rw_of (fun rr hrr => q_iload rfl (q_iconst (q_aload_n rfl (q_getR (show SH 261 = (18, 0) from rfl) rfl (pt_261_1 hP) (q_iload_n rfl (q_iald (j := s) (show SH 262 = (1, 13) from rfl) rfl (by omega) (ki rfl hm (by omega)) (q_iconst (q_isub hrr)))))))) ?_
              obtain ⟨_, mm31, pp32, hV33, rfl, rfl, rfl⟩ := c_X10_isIn1 (S := S) (fz := fz) (m := m) (p := p) (d := d) (by omega) (j) (0) ((((n : Nat) : Int) - 1)) (by omega) (by omega) (by omega)
              refine rw_of (fun rr hrr => q_invS hV33 rfl rfl (okar_cons rfl (okar_cons rfl (okar_cons rfl okar_nil))) (Nat.le_of_ble_eq_true rfl) hrr) ?_
              refine rw_if_eq ⟨by omega, by omega⟩ (t := 83) rfl (fun hc34 => ?_) (fun hc34 => ?_)
              · skip
                refine rw_blk lk_X10_isPlace_83 ?_
                refine rw_of (fun rr hrr => q_iconst hrr) ?_
                refine rw_blk lk_X10_isPlace_84 ?_
                refine rw_of (fun rr hrr => q_istore (Nat.le_of_ble_eq_true rfl) rfl (q_iload rfl hrr)) ?_
                refine rw_if_eq ⟨by omega, by omega⟩ (t := 100) rfl (fun hc35 => ?_) (fun hc35 => ?_)
                · skip
                  refine rw_blk lk_X10_isPlace_100 ?_
                  refine rw_of (fun rr hrr => q_iconst hrr) ?_
                  refine rw_blk lk_X10_isPlace_101 ?_
                  refine rw_ret hQ (q_ireturn (by omega)) ?_
                  first
                    | exact ⟨rfl, rfl, rfl⟩
                    | (exfalso; omega)
                  
                · skip
                  refine rw_of (fun rr hrr => q_iload rfl hrr) ?_
                  refine rw_if_eq ⟨by omega, by omega⟩ (t := 100) rfl (fun hc36 => ?_) (fun hc36 => ?_)
                  · skip
                    refine rw_blk lk_X10_isPlace_100 ?_
                    refine rw_of (fun rr hrr => q_iconst hrr) ?_
                    refine rw_blk lk_X10_isPlace_101 ?_
                    refine rw_ret hQ (q_ireturn (by omega)) ?_
                    first
                      | exact ⟨rfl, rfl, rfl⟩
                      | (exfalso; omega)
                    
                  · skip
                    refine rw_of (fun rr hrr => q_iconst (q_goto (t := 101) rfl hrr)) ?_
                    refine rw_blk lk_X10_isPlace_101 ?_
                    refine rw_ret hQ (q_ireturn (by omega)) ?_
                    first
                      | exact ⟨rfl, rfl, rfl⟩
                      | (exfalso; omega)
                    
              · skip
                refine rw_blk lk_X10_isPlace_79 ?_
                refine rw_of (fun rr hrr => q_iconst (q_goto (t := 84) rfl hrr)) ?_
                refine rw_blk lk_X10_isPlace_84 ?_
                refine rw_of (fun rr hrr => q_istore (Nat.le_of_ble_eq_true rfl) rfl (q_iload rfl hrr)) ?_
                refine rw_if_eq ⟨by omega, by omega⟩ (t := 100) rfl (fun hc37 => ?_) (fun hc37 => ?_)
                · skip
                  refine rw_blk lk_X10_isPlace_100 ?_
                  refine rw_of (fun rr hrr => q_iconst hrr) ?_
                  refine rw_blk lk_X10_isPlace_101 ?_
                  refine rw_ret hQ (q_ireturn (by omega)) ?_
                  first
                    | exact ⟨rfl, rfl, rfl⟩
                    | (exfalso; omega)
                  
                · skip
                  refine rw_of (fun rr hrr => q_iload rfl hrr) ?_
                  refine rw_if_eq ⟨by omega, by omega⟩ (t := 100) rfl (fun hc38 => ?_) (fun hc38 => ?_)
                  · skip
                    refine rw_blk lk_X10_isPlace_100 ?_
                    refine rw_of (fun rr hrr => q_iconst hrr) ?_
                    refine rw_blk lk_X10_isPlace_101 ?_
                    refine rw_ret hQ (q_ireturn (by omega)) ?_
                    first
                      | exact ⟨rfl, rfl, rfl⟩
                      | (exfalso; omega)
                    
                  · skip
                    refine rw_of (fun rr hrr => q_iconst (q_goto (t := 101) rfl hrr)) ?_
                    refine rw_blk lk_X10_isPlace_101 ?_
                    refine rw_ret hQ (q_ireturn (by omega)) ?_
                    first
                      | exact ⟨rfl, rfl, rfl⟩
                      | (exfalso; omega)
                    
        · skip
          refine rw_of (fun rr hrr => q_iload_n rfl (q_iconst (q_aload_n rfl (q_getR (show SH 261 = (18, 0) from rfl) rfl (pt_261_1 hP) (q_iload_n rfl (q_iald (j := s) (show SH 262 = (1, 13) from rfl) rfl (by omega) (ki rfl hm (by omega)) (q_iconst (q_isub hrr)))))))) ?_
          obtain ⟨_, mm39, pp40, hV41, rfl, rfl, rfl⟩ := c_X10_isIn0 (S := S) (fz := fz) (m := m) (p := p) (d := d) (by omega) (i) (0) ((((n : Nat) : Int) - 1)) (by omega) (by omega) (by omega)
          refine rw_of (fun rr hrr => q_invS hV41 rfl rfl (okar_cons rfl (okar_cons rfl (okar_cons rfl okar_nil))) (Nat.le_of_ble_eq_true rfl) hrr) ?_
          refine rw_if_eq ⟨by omega, by omega⟩ (t := 49) rfl (fun hc42 => ?_) (fun hc42 => ?_)
          · skip
            refine rw_blk lk_X10_isPlace_49 ?_
            refine rw_of (fun rr hrr => q_iconst hrr) ?_
            refine rw_blk lk_X10_isPlace_50 ?_
            refine rw_of (fun rr hrr => q_istore (Nat.le_of_ble_eq_true rfl) rfl (q_iload_n rfl (q_iconst hrr))) ?_
            refine rw_icmp_eq ⟨by omega, by omega⟩ ⟨by omega, by omega⟩ (t := 79) rfl (fun hc43 => ?_) (fun hc43 => ?_)
            · skip
              refine rw_blk lk_X10_isPlace_79 ?_
              refine rw_of (fun rr hrr => q_iconst (q_goto (t := 84) rfl hrr)) ?_
              refine rw_blk lk_X10_isPlace_84 ?_
              refine rw_of (fun rr hrr => q_istore (Nat.le_of_ble_eq_true rfl) rfl (q_iload rfl hrr)) ?_
              refine rw_if_eq ⟨by omega, by omega⟩ (t := 100) rfl (fun hc44 => ?_) (fun hc44 => ?_)
              · skip
                refine rw_blk lk_X10_isPlace_100 ?_
                refine rw_of (fun rr hrr => q_iconst hrr) ?_
                refine rw_blk lk_X10_isPlace_101 ?_
                refine rw_ret hQ (q_ireturn (by omega)) ?_
                first
                  | exact ⟨rfl, rfl, rfl⟩
                  | (exfalso; omega)
                
              · skip
                refine rw_of (fun rr hrr => q_iload rfl hrr) ?_
                refine rw_if_eq ⟨by omega, by omega⟩ (t := 100) rfl (fun hc45 => ?_) (fun hc45 => ?_)
                · skip
                  refine rw_blk lk_X10_isPlace_100 ?_
                  refine rw_of (fun rr hrr => q_iconst hrr) ?_
                  refine rw_blk lk_X10_isPlace_101 ?_
                  refine rw_ret hQ (q_ireturn (by omega)) ?_
                  first
                    | exact ⟨rfl, rfl, rfl⟩
                    | (exfalso; omega)
                  
                · skip
                  refine rw_of (fun rr hrr => q_iconst (q_goto (t := 101) rfl hrr)) ?_
                  refine rw_blk lk_X10_isPlace_101 ?_
                  refine rw_ret hQ (q_ireturn (by omega)) ?_
                  first
                    | exact ⟨rfl, rfl, rfl⟩
                    | (exfalso; omega)
                  
            · skip
              refine rw_of (fun rr hrr => q_iload_n rfl (q_iconst hrr)) ?_
              refine rw_icmp_eq ⟨by omega, by omega⟩ ⟨by omega, by omega⟩ (t := 79) rfl (fun hc46 => ?_) (fun hc46 => ?_)
              · skip
                refine rw_blk lk_X10_isPlace_79 ?_
                refine rw_of (fun rr hrr => q_iconst (q_goto (t := 84) rfl hrr)) ?_
                refine rw_blk lk_X10_isPlace_84 ?_
                refine rw_of (fun rr hrr => q_istore (Nat.le_of_ble_eq_true rfl) rfl (q_iload rfl hrr)) ?_
                refine rw_if_eq ⟨by omega, by omega⟩ (t := 100) rfl (fun hc47 => ?_) (fun hc47 => ?_)
                · skip
                  refine rw_blk lk_X10_isPlace_100 ?_
                  refine rw_of (fun rr hrr => q_iconst hrr) ?_
                  refine rw_blk lk_X10_isPlace_101 ?_
                  refine rw_ret hQ (q_ireturn (by omega)) ?_
                  first
                    | exact ⟨rfl, rfl, rfl⟩
                    | (exfalso; omega)
                  
                · skip
                  refine rw_of (fun rr hrr => q_iload rfl hrr) ?_
                  refine rw_if_eq ⟨by omega, by omega⟩ (t := 100) rfl (fun hc48 => ?_) (fun hc48 => ?_)
                  · skip
                    refine rw_blk lk_X10_isPlace_100 ?_
                    refine rw_of (fun rr hrr => q_iconst hrr) ?_
                    refine rw_blk lk_X10_isPlace_101 ?_
                    refine rw_ret hQ (q_ireturn (by omega)) ?_
                    first
                      | exact ⟨rfl, rfl, rfl⟩
                      | (exfalso; omega)
                    
                  · skip
                    refine rw_of (fun rr hrr => q_iconst (q_goto (t := 101) rfl hrr)) ?_
                    refine rw_blk lk_X10_isPlace_101 ?_
                    refine rw_ret hQ (q_ireturn (by omega)) ?_
                    first
                      | exact ⟨rfl, rfl, rfl⟩
                      | (exfalso; omega)
                    
              · skip
                refine rw_of (fun rr hrr => q_iload rfl (q_iconst (q_aload_n rfl (q_getR (show SH 261 = (18, 0) from rfl) rfl (pt_261_1 hP) (q_iload_n rfl (q_iald (j := s) (show SH 262 = (1, 13) from rfl) rfl (by omega) (ki rfl hm (by omega)) (q_iconst (q_isub hrr)))))))) ?_
                obtain ⟨_, mm49, pp50, hV51, rfl, rfl, rfl⟩ := c_X10_isIn1 (S := S) (fz := fz) (m := m) (p := p) (d := d) (by omega) (j) (0) ((((n : Nat) : Int) - 1)) (by omega) (by omega) (by omega)
                refine rw_of (fun rr hrr => q_invS hV51 rfl rfl (okar_cons rfl (okar_cons rfl (okar_cons rfl okar_nil))) (Nat.le_of_ble_eq_true rfl) hrr) ?_
                refine rw_if_eq ⟨by omega, by omega⟩ (t := 83) rfl (fun hc52 => ?_) (fun hc52 => ?_)
                · skip
                  refine rw_blk lk_X10_isPlace_83 ?_
                  refine rw_of (fun rr hrr => q_iconst hrr) ?_
                  refine rw_blk lk_X10_isPlace_84 ?_
                  refine rw_of (fun rr hrr => q_istore (Nat.le_of_ble_eq_true rfl) rfl (q_iload rfl hrr)) ?_
                  refine rw_if_eq ⟨by omega, by omega⟩ (t := 100) rfl (fun hc53 => ?_) (fun hc53 => ?_)
                  · skip
                    refine rw_blk lk_X10_isPlace_100 ?_
                    refine rw_of (fun rr hrr => q_iconst hrr) ?_
                    refine rw_blk lk_X10_isPlace_101 ?_
                    refine rw_ret hQ (q_ireturn (by omega)) ?_
                    first
                      | exact ⟨rfl, rfl, rfl⟩
                      | (exfalso; omega)
                    
                  · skip
                    refine rw_of (fun rr hrr => q_iload rfl hrr) ?_
                    refine rw_if_eq ⟨by omega, by omega⟩ (t := 100) rfl (fun hc54 => ?_) (fun hc54 => ?_)
                    · skip
                      refine rw_blk lk_X10_isPlace_100 ?_
                      refine rw_of (fun rr hrr => q_iconst hrr) ?_
                      refine rw_blk lk_X10_isPlace_101 ?_
                      refine rw_ret hQ (q_ireturn (by omega)) ?_
                      first
                        | exact ⟨rfl, rfl, rfl⟩
                        | (exfalso; omega)
                      
                    · skip
                      refine rw_of (fun rr hrr => q_iconst (q_goto (t := 101) rfl hrr)) ?_
                      refine rw_blk lk_X10_isPlace_101 ?_
                      refine rw_ret hQ (q_ireturn (by omega)) ?_
                      first
                        | exact ⟨rfl, rfl, rfl⟩
                        | (exfalso; omega)
                      
                · skip
                  refine rw_blk lk_X10_isPlace_79 ?_
                  refine rw_of (fun rr hrr => q_iconst (q_goto (t := 84) rfl hrr)) ?_
                  refine rw_blk lk_X10_isPlace_84 ?_
                  refine rw_of (fun rr hrr => q_istore (Nat.le_of_ble_eq_true rfl) rfl (q_iload rfl hrr)) ?_
                  refine rw_if_eq ⟨by omega, by omega⟩ (t := 100) rfl (fun hc55 => ?_) (fun hc55 => ?_)
                  · skip
                    refine rw_blk lk_X10_isPlace_100 ?_
                    refine rw_of (fun rr hrr => q_iconst hrr) ?_
                    refine rw_blk lk_X10_isPlace_101 ?_
                    refine rw_ret hQ (q_ireturn (by omega)) ?_
                    first
                      | exact ⟨rfl, rfl, rfl⟩
                      | (exfalso; omega)
                    
                  · skip
                    refine rw_of (fun rr hrr => q_iload rfl hrr) ?_
                    refine rw_if_eq ⟨by omega, by omega⟩ (t := 100) rfl (fun hc56 => ?_) (fun hc56 => ?_)
                    · skip
                      refine rw_blk lk_X10_isPlace_100 ?_
                      refine rw_of (fun rr hrr => q_iconst hrr) ?_
                      refine rw_blk lk_X10_isPlace_101 ?_
                      refine rw_ret hQ (q_ireturn (by omega)) ?_
                      first
                        | exact ⟨rfl, rfl, rfl⟩
                        | (exfalso; omega)
                      
                    · skip
                      refine rw_of (fun rr hrr => q_iconst (q_goto (t := 101) rfl hrr)) ?_
                      refine rw_blk lk_X10_isPlace_101 ?_
                      refine rw_ret hQ (q_ireturn (by omega)) ?_
                      first
                        | exact ⟨rfl, rfl, rfl⟩
                        | (exfalso; omega)
                      
          · skip
            refine rw_blk lk_X10_isPlace_45 ?_
            refine rw_of (fun rr hrr => q_iconst (q_goto (t := 50) rfl hrr)) ?_
            refine rw_blk lk_X10_isPlace_50 ?_
            refine rw_of (fun rr hrr => q_istore (Nat.le_of_ble_eq_true rfl) rfl (q_iload_n rfl (q_iconst hrr))) ?_
            refine rw_icmp_eq ⟨by omega, by omega⟩ ⟨by omega, by omega⟩ (t := 79) rfl (fun hc57 => ?_) (fun hc57 => ?_)
            · skip
              refine rw_blk lk_X10_isPlace_79 ?_
              refine rw_of (fun rr hrr => q_iconst (q_goto (t := 84) rfl hrr)) ?_
              refine rw_blk lk_X10_isPlace_84 ?_
              refine rw_of (fun rr hrr => q_istore (Nat.le_of_ble_eq_true rfl) rfl (q_iload rfl hrr)) ?_
              refine rw_if_eq ⟨by omega, by omega⟩ (t := 100) rfl (fun hc58 => ?_) (fun hc58 => ?_)
              · skip
                refine rw_blk lk_X10_isPlace_100 ?_
                refine rw_of (fun rr hrr => q_iconst hrr) ?_
                refine rw_blk lk_X10_isPlace_101 ?_
                refine rw_ret hQ (q_ireturn (by omega)) ?_
                first
                  | exact ⟨rfl, rfl, rfl⟩
                  | (exfalso; omega)
                
              · skip
                refine rw_of (fun rr hrr => q_iload rfl hrr) ?_
                refine rw_if_eq ⟨by omega, by omega⟩ (t := 100) rfl (fun hc59 => ?_) (fun hc59 => ?_)
                · skip
                  refine rw_blk lk_X10_isPlace_100 ?_
                  refine rw_of (fun rr hrr => q_iconst hrr) ?_
                  refine rw_blk lk_X10_isPlace_101 ?_
                  refine rw_ret hQ (q_ireturn (by omega)) ?_
                  first
                    | exact ⟨rfl, rfl, rfl⟩
                    | (exfalso; omega)
                  
                · skip
                  refine rw_of (fun rr hrr => q_iconst (q_goto (t := 101) rfl hrr)) ?_
                  refine rw_blk lk_X10_isPlace_101 ?_
                  refine rw_ret hQ (q_ireturn (by omega)) ?_
                  first
                    | exact ⟨rfl, rfl, rfl⟩
                    | (exfalso; omega)
                  
            · skip
              refine rw_of (fun rr hrr => q_iload_n rfl (q_iconst hrr)) ?_
              refine rw_icmp_eq ⟨by omega, by omega⟩ ⟨by omega, by omega⟩ (t := 79) rfl (fun hc60 => ?_) (fun hc60 => ?_)
              · skip
                refine rw_blk lk_X10_isPlace_79 ?_
                refine rw_of (fun rr hrr => q_iconst (q_goto (t := 84) rfl hrr)) ?_
                refine rw_blk lk_X10_isPlace_84 ?_
                refine rw_of (fun rr hrr => q_istore (Nat.le_of_ble_eq_true rfl) rfl (q_iload rfl hrr)) ?_
                refine rw_if_eq ⟨by omega, by omega⟩ (t := 100) rfl (fun hc61 => ?_) (fun hc61 => ?_)
                · skip
                  refine rw_blk lk_X10_isPlace_100 ?_
                  refine rw_of (fun rr hrr => q_iconst hrr) ?_
                  refine rw_blk lk_X10_isPlace_101 ?_
                  refine rw_ret hQ (q_ireturn (by omega)) ?_
                  first
                    | exact ⟨rfl, rfl, rfl⟩
                    | (exfalso; omega)
                  
                · skip
                  refine rw_of (fun rr hrr => q_iload rfl hrr) ?_
                  refine rw_if_eq ⟨by omega, by omega⟩ (t := 100) rfl (fun hc62 => ?_) (fun hc62 => ?_)
                  · skip
                    refine rw_blk lk_X10_isPlace_100 ?_
                    refine rw_of (fun rr hrr => q_iconst hrr) ?_
                    refine rw_blk lk_X10_isPlace_101 ?_
                    refine rw_ret hQ (q_ireturn (by omega)) ?_
                    first
                      | exact ⟨rfl, rfl, rfl⟩
                      | (exfalso; omega)
                    
                  · skip
                    refine rw_of (fun rr hrr => q_iconst (q_goto (t := 101) rfl hrr)) ?_
                    refine rw_blk lk_X10_isPlace_101 ?_
                    refine rw_ret hQ (q_ireturn (by omega)) ?_
                    first
                      | exact ⟨rfl, rfl, rfl⟩
                      | (exfalso; omega)
                    
              · skip
                refine rw_of (fun rr hrr => q_iload rfl (q_iconst (q_aload_n rfl (q_getR (show SH 261 = (18, 0) from rfl) rfl (pt_261_1 hP) (q_iload_n rfl (q_iald (j := s) (show SH 262 = (1, 13) from rfl) rfl (by omega) (ki rfl hm (by omega)) (q_iconst (q_isub hrr)))))))) ?_
                obtain ⟨_, mm63, pp64, hV65, rfl, rfl, rfl⟩ := c_X10_isIn1 (S := S) (fz := fz) (m := m) (p := p) (d := d) (by omega) (j) (0) ((((n : Nat) : Int) - 1)) (by omega) (by omega) (by omega)
                refine rw_of (fun rr hrr => q_invS hV65 rfl rfl (okar_cons rfl (okar_cons rfl (okar_cons rfl okar_nil))) (Nat.le_of_ble_eq_true rfl) hrr) ?_
                refine rw_if_eq ⟨by omega, by omega⟩ (t := 83) rfl (fun hc66 => ?_) (fun hc66 => ?_)
                · skip
                  refine rw_blk lk_X10_isPlace_83 ?_
                  refine rw_of (fun rr hrr => q_iconst hrr) ?_
                  refine rw_blk lk_X10_isPlace_84 ?_
                  refine rw_of (fun rr hrr => q_istore (Nat.le_of_ble_eq_true rfl) rfl (q_iload rfl hrr)) ?_
                  refine rw_if_eq ⟨by omega, by omega⟩ (t := 100) rfl (fun hc67 => ?_) (fun hc67 => ?_)
                  · skip
                    refine rw_blk lk_X10_isPlace_100 ?_
                    refine rw_of (fun rr hrr => q_iconst hrr) ?_
                    refine rw_blk lk_X10_isPlace_101 ?_
                    refine rw_ret hQ (q_ireturn (by omega)) ?_
                    first
                      | exact ⟨rfl, rfl, rfl⟩
                      | (exfalso; omega)
                    
                  · skip
                    refine rw_of (fun rr hrr => q_iload rfl hrr) ?_
                    refine rw_if_eq ⟨by omega, by omega⟩ (t := 100) rfl (fun hc68 => ?_) (fun hc68 => ?_)
                    · skip
                      refine rw_blk lk_X10_isPlace_100 ?_
                      refine rw_of (fun rr hrr => q_iconst hrr) ?_
                      refine rw_blk lk_X10_isPlace_101 ?_
                      refine rw_ret hQ (q_ireturn (by omega)) ?_
                      first
                        | exact ⟨rfl, rfl, rfl⟩
                        | (exfalso; omega)
                      
                    · skip
                      refine rw_of (fun rr hrr => q_iconst (q_goto (t := 101) rfl hrr)) ?_
                      refine rw_blk lk_X10_isPlace_101 ?_
                      refine rw_ret hQ (q_ireturn (by omega)) ?_
                      first
                        | exact ⟨rfl, rfl, rfl⟩
                        | (exfalso; omega)
                      
                · skip
                  refine rw_blk lk_X10_isPlace_79 ?_
                  refine rw_of (fun rr hrr => q_iconst (q_goto (t := 84) rfl hrr)) ?_
                  refine rw_blk lk_X10_isPlace_84 ?_
                  refine rw_of (fun rr hrr => q_istore (Nat.le_of_ble_eq_true rfl) rfl (q_iload rfl hrr)) ?_
                  refine rw_if_eq ⟨by omega, by omega⟩ (t := 100) rfl (fun hc69 => ?_) (fun hc69 => ?_)
                  · skip
                    refine rw_blk lk_X10_isPlace_100 ?_
                    refine rw_of (fun rr hrr => q_iconst hrr) ?_
                    refine rw_blk lk_X10_isPlace_101 ?_
                    refine rw_ret hQ (q_ireturn (by omega)) ?_
                    first
                      | exact ⟨rfl, rfl, rfl⟩
                      | (exfalso; omega)
                    
                  · skip
                    refine rw_of (fun rr hrr => q_iload rfl hrr) ?_
                    refine rw_if_eq ⟨by omega, by omega⟩ (t := 100) rfl (fun hc70 => ?_) (fun hc70 => ?_)
                    · skip
                      refine rw_blk lk_X10_isPlace_100 ?_
                      refine rw_of (fun rr hrr => q_iconst hrr) ?_
                      refine rw_blk lk_X10_isPlace_101 ?_
                      refine rw_ret hQ (q_ireturn (by omega)) ?_
                      first
                        | exact ⟨rfl, rfl, rfl⟩
                        | (exfalso; omega)
                      
                    · skip
                      refine rw_of (fun rr hrr => q_iconst (q_goto (t := 101) rfl hrr)) ?_
                      refine rw_blk lk_X10_isPlace_101 ?_
                      refine rw_ret hQ (q_ireturn (by omega)) ?_
                      first
                        | exact ⟨rfl, rfl, rfl⟩
                        | (exfalso; omega)
                      
    · skip
      refine rw_blk lk_X10_isPlace_17 ?_
      refine rw_of (fun rr hrr => q_iconst hrr) ?_
      refine rw_ret hQ (q_ireturn (by omega)) ?_
      first
        | exact ⟨rfl, rfl, rfl⟩
        | (exfalso; omega)
      
theorem c_X10_isPlace2_11 {d : Nat} {S : MC} {fz : Bool} {m : M1} {p : M2} (hd : 3 ≤ d) (s k n : Nat) (i j : Int) (hP : PI p) (hk : m 261 0 = nF k) (hk12 : k ≤ 12) (hsk : s < k) (hm : m 262 s = nF n) (hn0 : 1 ≤ n) (hn : n ≤ 8) (hri : (-2147483648 ≤ i ∧ i < 2147483648)) (hrj : (-2147483648 ≤ j ∧ j < 2147483648)) (hj : 0 ≤ j ∧ j < n) : Ct d k_X10_isPlace S fz [.ref (261), .int (iI (((s : Nat) : Int))), .int (iI (2)), .int (iI (i)), .int (iI (j))] m p (fun v m' p' => v = some (.int (iI (1))) ∧ m = m' ∧ p = p') := by
  obtain ⟨d, rfl⟩ : ∃ e, d = e + 1 := ⟨d - 1, by omega⟩
  refine ct_go (lv := [some (.ref (261)), some (.int (iI (((s : Nat) : Int)))), some (.int (iI (2))), some (.int (iI (i))), some (.int (iI (j))), none, none]) (Nat.le_of_ble_eq_true rfl) (okar_cons rfl (okar_cons rfl (okar_cons rfl (okar_cons rfl (okar_cons rfl okar_nil))))) rfl (fun Qr hQ => ?_)
  refine rw_blk lk_X10_isPlace_0 ?_
  refine rw_of (fun rr hrr => q_aload_n rfl (q_iload_n rfl hrr)) ?_
  obtain ⟨_, mm1, pp2, hV3, rfl, rfl, rfl⟩ := c_X10_isSystem1 (S := S) (fz := fz) (m := m) (p := p) (d := d) (by omega) (((s : Nat) : Int)) (k) hP hk (by omega) (by omega) (by omega)
  refine rw_of (fun rr hrr => q_invV hV3 (show SH 261 = (18, 0) from rfl) rfl rfl (okar_cons rfl okar_nil) (Nat.le_of_ble_eq_true rfl) hrr) ?_
  refine rw_if_eq ⟨by omega, by omega⟩ (t := 17) rfl (fun hc4 => ?_) (fun hc4 => ?_)
  · skip
    refine rw_blk lk_X10_isPlace_17 ?_
    refine rw_of (fun rr hrr => q_iconst hrr) ?_
    refine rw_ret hQ (q_ireturn (by omega)) ?_
    first
      | exact ⟨rfl, rfl, rfl⟩
      | (exfalso; omega)
    
  · skip
    refine rw_of (fun rr hrr => q_iload_n rfl (q_iconst (q_iconst hrr))) ?_
    obtain ⟨_, mm5, pp6, hV7, rfl, rfl, rfl⟩ := c_X10_isIn1 (S := S) (fz := fz) (m := m) (p := p) (d := d) (by omega) (2) (0) (3) (by omega) (by omega) (by omega)
    refine rw_of (fun rr hrr => q_invS hV7 rfl rfl (okar_cons rfl (okar_cons rfl (okar_cons rfl okar_nil))) (Nat.le_of_ble_eq_true rfl) hrr) ?_
    refine rw_if_ne ⟨by omega, by omega⟩ (t := 19) rfl (fun hc8 => ?_) (fun hc8 => ?_)
    · skip
      refine rw_blk lk_X10_isPlace_19 ?_
      refine rw_of (fun rr hrr => q_iload_n rfl (q_iconst hrr)) ?_
      refine rw_icmp_eq ⟨by omega, by omega⟩ ⟨by omega, by omega⟩ (t := 45) rfl (fun hc9 => ?_) (fun hc9 => ?_)
      · skip
        refine rw_blk lk_X10_isPlace_45 ?_
        refine rw_of (fun rr hrr => q_iconst (q_goto (t := 50) rfl hrr)) ?_
        refine rw_blk lk_X10_isPlace_50 ?_
        refine rw_of (fun rr hrr => q_istore (Nat.le_of_ble_eq_true rfl) rfl (q_iload_n rfl (q_iconst hrr))) ?_
        refine rw_icmp_eq ⟨by omega, by omega⟩ ⟨by omega, by omega⟩ (t := 79) rfl (fun hc10 => ?_) (fun hc10 => ?_)
        · skip
          refine rw_blk lk_X10_isPlace_79 ?_
          refine rw_of (fun rr hrr => q_iconst (q_goto (t := 84) rfl hrr)) ?_
          refine rw_blk lk_X10_isPlace_84 ?_
          refine rw_of (fun rr hrr => q_istore (Nat.le_of_ble_eq_true rfl) rfl (q_iload rfl hrr)) ?_
          refine rw_if_eq ⟨by omega, by omega⟩ (t := 100) rfl (fun hc11 => ?_) (fun hc11 => ?_)
          · skip
            refine rw_blk lk_X10_isPlace_100 ?_
            refine rw_of (fun rr hrr => q_iconst hrr) ?_
            refine rw_blk lk_X10_isPlace_101 ?_
            refine rw_ret hQ (q_ireturn (by omega)) ?_
            first
              | exact ⟨rfl, rfl, rfl⟩
              | (exfalso; omega)
            
          · skip
            refine rw_of (fun rr hrr => q_iload rfl hrr) ?_
            refine rw_if_eq ⟨by omega, by omega⟩ (t := 100) rfl (fun hc12 => ?_) (fun hc12 => ?_)
            · skip
              refine rw_blk lk_X10_isPlace_100 ?_
              refine rw_of (fun rr hrr => q_iconst hrr) ?_
              refine rw_blk lk_X10_isPlace_101 ?_
              refine rw_ret hQ (q_ireturn (by omega)) ?_
              first
                | exact ⟨rfl, rfl, rfl⟩
                | (exfalso; omega)
              
            · skip
              refine rw_of (fun rr hrr => q_iconst (q_goto (t := 101) rfl hrr)) ?_
              refine rw_blk lk_X10_isPlace_101 ?_
              refine rw_ret hQ (q_ireturn (by omega)) ?_
              first
                | exact ⟨rfl, rfl, rfl⟩
                | (exfalso; omega)
              
        · skip
          refine rw_of (fun rr hrr => q_iload_n rfl (q_iconst hrr)) ?_
          refine rw_icmp_eq ⟨by omega, by omega⟩ ⟨by omega, by omega⟩ (t := 79) rfl (fun hc13 => ?_) (fun hc13 => ?_)
          · skip
            refine rw_blk lk_X10_isPlace_79 ?_
            refine rw_of (fun rr hrr => q_iconst (q_goto (t := 84) rfl hrr)) ?_
            refine rw_blk lk_X10_isPlace_84 ?_
            refine rw_of (fun rr hrr => q_istore (Nat.le_of_ble_eq_true rfl) rfl (q_iload rfl hrr)) ?_
            refine rw_if_eq ⟨by omega, by omega⟩ (t := 100) rfl (fun hc14 => ?_) (fun hc14 => ?_)
            · skip
              refine rw_blk lk_X10_isPlace_100 ?_
              refine rw_of (fun rr hrr => q_iconst hrr) ?_
              refine rw_blk lk_X10_isPlace_101 ?_
              refine rw_ret hQ (q_ireturn (by omega)) ?_
              first
                | exact ⟨rfl, rfl, rfl⟩
                | (exfalso; omega)
              
            · skip
              refine rw_of (fun rr hrr => q_iload rfl hrr) ?_
              refine rw_if_eq ⟨by omega, by omega⟩ (t := 100) rfl (fun hc15 => ?_) (fun hc15 => ?_)
              · skip
                refine rw_blk lk_X10_isPlace_100 ?_
                refine rw_of (fun rr hrr => q_iconst hrr) ?_
                refine rw_blk lk_X10_isPlace_101 ?_
                refine rw_ret hQ (q_ireturn (by omega)) ?_
                first
                  | exact ⟨rfl, rfl, rfl⟩
                  | (exfalso; omega)
                
              · skip
                refine rw_of (fun rr hrr => q_iconst (q_goto (t := 101) rfl hrr)) ?_
                refine rw_blk lk_X10_isPlace_101 ?_
                refine rw_ret hQ (q_ireturn (by omega)) ?_
                first
                  | exact ⟨rfl, rfl, rfl⟩
                  | (exfalso; omega)
                
          · skip
            refine rw_of (fun rr hrr => q_iload rfl (q_iconst (q_aload_n rfl (q_getR (show SH 261 = (18, 0) from rfl) rfl (pt_261_1 hP) (q_iload_n rfl (q_iald (j := s) (show SH 262 = (1, 13) from rfl) rfl (by omega) (ki rfl hm (by omega)) (q_iconst (q_isub hrr)))))))) ?_
            obtain ⟨_, mm16, pp17, hV18, rfl, rfl, rfl⟩ := c_X10_isIn1 (S := S) (fz := fz) (m := m) (p := p) (d := d) (by omega) (j) (0) ((((n : Nat) : Int) - 1)) (by omega) (by omega) (by omega)
            refine rw_of (fun rr hrr => q_invS hV18 rfl rfl (okar_cons rfl (okar_cons rfl (okar_cons rfl okar_nil))) (Nat.le_of_ble_eq_true rfl) hrr) ?_
            refine rw_if_eq ⟨by omega, by omega⟩ (t := 83) rfl (fun hc19 => ?_) (fun hc19 => ?_)
            · skip
              refine rw_blk lk_X10_isPlace_83 ?_
              refine rw_of (fun rr hrr => q_iconst hrr) ?_
              refine rw_blk lk_X10_isPlace_84 ?_
              refine rw_of (fun rr hrr => q_istore (Nat.le_of_ble_eq_true rfl) rfl (q_iload rfl hrr)) ?_
              refine rw_if_eq ⟨by omega, by omega⟩ (t := 100) rfl (fun hc20 => ?_) (fun hc20 => ?_)
              · skip
                refine rw_blk lk_X10_isPlace_100 ?_
                refine rw_of (fun rr hrr => q_iconst hrr) ?_
                refine rw_blk lk_X10_isPlace_101 ?_
                refine rw_ret hQ (q_ireturn (by omega)) ?_
                first
                  | exact ⟨rfl, rfl, rfl⟩
                  | (exfalso; omega)
                
              · skip
                refine rw_of (fun rr hrr => q_iload rfl hrr) ?_
                refine rw_if_eq ⟨by omega, by omega⟩ (t := 100) rfl (fun hc21 => ?_) (fun hc21 => ?_)
                · skip
                  refine rw_blk lk_X10_isPlace_100 ?_
                  refine rw_of (fun rr hrr => q_iconst hrr) ?_
                  refine rw_blk lk_X10_isPlace_101 ?_
                  refine rw_ret hQ (q_ireturn (by omega)) ?_
                  first
                    | exact ⟨rfl, rfl, rfl⟩
                    | (exfalso; omega)
                  
                · skip
                  refine rw_of (fun rr hrr => q_iconst (q_goto (t := 101) rfl hrr)) ?_
                  refine rw_blk lk_X10_isPlace_101 ?_
                  refine rw_ret hQ (q_ireturn (by omega)) ?_
                  first
                    | exact ⟨rfl, rfl, rfl⟩
                    | (exfalso; omega)
                  
            · skip
              refine rw_blk lk_X10_isPlace_79 ?_
              refine rw_of (fun rr hrr => q_iconst (q_goto (t := 84) rfl hrr)) ?_
              refine rw_blk lk_X10_isPlace_84 ?_
              refine rw_of (fun rr hrr => q_istore (Nat.le_of_ble_eq_true rfl) rfl (q_iload rfl hrr)) ?_
              refine rw_if_eq ⟨by omega, by omega⟩ (t := 100) rfl (fun hc22 => ?_) (fun hc22 => ?_)
              · skip
                refine rw_blk lk_X10_isPlace_100 ?_
                refine rw_of (fun rr hrr => q_iconst hrr) ?_
                refine rw_blk lk_X10_isPlace_101 ?_
                refine rw_ret hQ (q_ireturn (by omega)) ?_
                first
                  | exact ⟨rfl, rfl, rfl⟩
                  | (exfalso; omega)
                
              · skip
                refine rw_of (fun rr hrr => q_iload rfl hrr) ?_
                refine rw_if_eq ⟨by omega, by omega⟩ (t := 100) rfl (fun hc23 => ?_) (fun hc23 => ?_)
                · skip
                  refine rw_blk lk_X10_isPlace_100 ?_
                  refine rw_of (fun rr hrr => q_iconst hrr) ?_
                  refine rw_blk lk_X10_isPlace_101 ?_
                  refine rw_ret hQ (q_ireturn (by omega)) ?_
                  first
                    | exact ⟨rfl, rfl, rfl⟩
                    | (exfalso; omega)
                  
                · skip
                  refine rw_of (fun rr hrr => q_iconst (q_goto (t := 101) rfl hrr)) ?_
                  refine rw_blk lk_X10_isPlace_101 ?_
                  refine rw_ret hQ (q_ireturn (by omega)) ?_
                  first
                    | exact ⟨rfl, rfl, rfl⟩
                    | (exfalso; omega)
                  
      · skip
        refine rw_of (fun rr hrr => q_iload_n rfl (q_iconst hrr)) ?_
        refine rw_icmp_eq ⟨by omega, by omega⟩ ⟨by omega, by omega⟩ (t := 45) rfl (fun hc24 => ?_) (fun hc24 => ?_)
        · skip
          refine rw_blk lk_X10_isPlace_45 ?_
          refine rw_of (fun rr hrr => q_iconst (q_goto (t := 50) rfl hrr)) ?_
          refine rw_blk lk_X10_isPlace_50 ?_
          refine rw_of (fun rr hrr => q_istore (Nat.le_of_ble_eq_true rfl) rfl (q_iload_n rfl (q_iconst hrr))) ?_
          refine rw_icmp_eq ⟨by omega, by omega⟩ ⟨by omega, by omega⟩ (t := 79) rfl (fun hc25 => ?_) (fun hc25 => ?_)
          · skip
            refine rw_blk lk_X10_isPlace_79 ?_
            refine rw_of (fun rr hrr => q_iconst (q_goto (t := 84) rfl hrr)) ?_
            refine rw_blk lk_X10_isPlace_84 ?_
            refine rw_of (fun rr hrr => q_istore (Nat.le_of_ble_eq_true rfl) rfl (q_iload rfl hrr)) ?_
            refine rw_if_eq ⟨by omega, by omega⟩ (t := 100) rfl (fun hc26 => ?_) (fun hc26 => ?_)
            · skip
              refine rw_blk lk_X10_isPlace_100 ?_
              refine rw_of (fun rr hrr => q_iconst hrr) ?_
              refine rw_blk lk_X10_isPlace_101 ?_
              refine rw_ret hQ (q_ireturn (by omega)) ?_
              first
                | exact ⟨rfl, rfl, rfl⟩
                | (exfalso; omega)
              
            · skip
              refine rw_of (fun rr hrr => q_iload rfl hrr) ?_
              refine rw_if_eq ⟨by omega, by omega⟩ (t := 100) rfl (fun hc27 => ?_) (fun hc27 => ?_)
              · skip
                refine rw_blk lk_X10_isPlace_100 ?_
                refine rw_of (fun rr hrr => q_iconst hrr) ?_
                refine rw_blk lk_X10_isPlace_101 ?_
                refine rw_ret hQ (q_ireturn (by omega)) ?_
                first
                  | exact ⟨rfl, rfl, rfl⟩
                  | (exfalso; omega)
                
              · skip
                refine rw_of (fun rr hrr => q_iconst (q_goto (t := 101) rfl hrr)) ?_
                refine rw_blk lk_X10_isPlace_101 ?_
                refine rw_ret hQ (q_ireturn (by omega)) ?_
                first
                  | exact ⟨rfl, rfl, rfl⟩
                  | (exfalso; omega)
                
          · skip
            refine rw_of (fun rr hrr => q_iload_n rfl (q_iconst hrr)) ?_
            refine rw_icmp_eq ⟨by omega, by omega⟩ ⟨by omega, by omega⟩ (t := 79) rfl (fun hc28 => ?_) (fun hc28 => ?_)
            · skip
              refine rw_blk lk_X10_isPlace_79 ?_
              refine rw_of (fun rr hrr => q_iconst (q_goto (t := 84) rfl hrr)) ?_
              refine rw_blk lk_X10_isPlace_84 ?_
              refine rw_of (fun rr hrr => q_istore (Nat.le_of_ble_eq_true rfl) rfl (q_iload rfl hrr)) ?_
              refine rw_if_eq ⟨by omega, by omega⟩ (t := 100) rfl (fun hc29 => ?_) (fun hc29 => ?_)
              · skip
                refine rw_blk lk_X10_isPlace_100 ?_
                refine rw_of (fun rr hrr => q_iconst hrr) ?_
                refine rw_blk lk_X10_isPlace_101 ?_
                refine rw_ret hQ (q_ireturn (by omega)) ?_
                first
                  | exact ⟨rfl, rfl, rfl⟩
                  | (exfalso; omega)
                
              · skip
                refine rw_of (fun rr hrr => q_iload rfl hrr) ?_
                refine rw_if_eq ⟨by omega, by omega⟩ (t := 100) rfl (fun hc30 => ?_) (fun hc30 => ?_)
                · skip
                  refine rw_blk lk_X10_isPlace_100 ?_
                  refine rw_of (fun rr hrr => q_iconst hrr) ?_
                  refine rw_blk lk_X10_isPlace_101 ?_
                  refine rw_ret hQ (q_ireturn (by omega)) ?_
                  first
                    | exact ⟨rfl, rfl, rfl⟩
                    | (exfalso; omega)
                  
                · skip
                  refine rw_of (fun rr hrr => q_iconst (q_goto (t := 101) rfl hrr)) ?_
                  refine rw_blk lk_X10_isPlace_101 ?_
                  refine rw_ret hQ (q_ireturn (by omega)) ?_
                  first
                    | exact ⟨rfl, rfl, rfl⟩
                    | (exfalso; omega)
                  
            · skip
              refine rw_of (fun rr hrr => q_iload rfl (q_iconst (q_aload_n rfl (q_getR (show SH 261 = (18, 0) from rfl) rfl (pt_261_1 hP) (q_iload_n rfl (q_iald (j := s) (show SH 262 = (1, 13) from rfl) rfl (by omega) (ki rfl hm (by omega)) (q_iconst (q_isub hrr)))))))) ?_
              obtain ⟨_, mm31, pp32, hV33, rfl, rfl, rfl⟩ := c_X10_isIn1 (S := S) (fz := fz) (m := m) (p := p) (d := d) (by omega) (j) (0) ((((n : Nat) : Int) - 1)) (by omega) (by omega) (by omega)
              refine rw_of (fun rr hrr => q_invS hV33 rfl rfl (okar_cons rfl (okar_cons rfl (okar_cons rfl okar_nil))) (Nat.le_of_ble_eq_true rfl) hrr) ?_
              refine rw_if_eq ⟨by omega, by omega⟩ (t := 83) rfl (fun hc34 => ?_) (fun hc34 => ?_)
              · skip
                refine rw_blk lk_X10_isPlace_83 ?_
                refine rw_of (fun rr hrr => q_iconst hrr) ?_
                refine rw_blk lk_X10_isPlace_84 ?_
                refine rw_of (fun rr hrr => q_istore (Nat.le_of_ble_eq_true rfl) rfl (q_iload rfl hrr)) ?_
                refine rw_if_eq ⟨by omega, by omega⟩ (t := 100) rfl (fun hc35 => ?_) (fun hc35 => ?_)
                · skip
                  refine rw_blk lk_X10_isPlace_100 ?_
                  refine rw_of (fun rr hrr => q_iconst hrr) ?_
                  refine rw_blk lk_X10_isPlace_101 ?_
                  refine rw_ret hQ (q_ireturn (by omega)) ?_
                  first
                    | exact ⟨rfl, rfl, rfl⟩
                    | (exfalso; omega)
                  
                · skip
                  refine rw_of (fun rr hrr => q_iload rfl hrr) ?_
                  refine rw_if_eq ⟨by omega, by omega⟩ (t := 100) rfl (fun hc36 => ?_) (fun hc36 => ?_)
                  · skip
                    refine rw_blk lk_X10_isPlace_100 ?_
                    refine rw_of (fun rr hrr => q_iconst hrr) ?_
                    refine rw_blk lk_X10_isPlace_101 ?_
                    refine rw_ret hQ (q_ireturn (by omega)) ?_
                    first
                      | exact ⟨rfl, rfl, rfl⟩
                      | (exfalso; omega)
                    
                  · skip
                    refine rw_of (fun rr hrr => q_iconst (q_goto (t := 101) rfl hrr)) ?_
                    refine rw_blk lk_X10_isPlace_101 ?_
                    refine rw_ret hQ (q_ireturn (by omega)) ?_
                    first
                      | exact ⟨rfl, rfl, rfl⟩
                      | (exfalso; omega)
                    
              · skip
                refine rw_blk lk_X10_isPlace_79 ?_
                refine rw_of (fun rr hrr => q_iconst (q_goto (t := 84) rfl hrr)) ?_
                refine rw_blk lk_X10_isPlace_84 ?_
                refine rw_of (fun rr hrr => q_istore (Nat.le_of_ble_eq_true rfl) rfl (q_iload rfl hrr)) ?_
                refine rw_if_eq ⟨by omega, by omega⟩ (t := 100) rfl (fun hc37 => ?_) (fun hc37 => ?_)
                · skip
                  refine rw_blk lk_X10_isPlace_100 ?_
                  refine rw_of (fun rr hrr => q_iconst hrr) ?_
                  refine rw_blk lk_X10_isPlace_101 ?_
                  refine rw_ret hQ (q_ireturn (by omega)) ?_
                  first
                    | exact ⟨rfl, rfl, rfl⟩
                    | (exfalso; omega)
                  
                · skip
                  refine rw_of (fun rr hrr => q_iload rfl hrr) ?_
                  refine rw_if_eq ⟨by omega, by omega⟩ (t := 100) rfl (fun hc38 => ?_) (fun hc38 => ?_)
                  · skip
                    refine rw_blk lk_X10_isPlace_100 ?_
                    refine rw_of (fun rr hrr => q_iconst hrr) ?_
                    refine rw_blk lk_X10_isPlace_101 ?_
                    refine rw_ret hQ (q_ireturn (by omega)) ?_
                    first
                      | exact ⟨rfl, rfl, rfl⟩
                      | (exfalso; omega)
                    
                  · skip
                    refine rw_of (fun rr hrr => q_iconst (q_goto (t := 101) rfl hrr)) ?_
                    refine rw_blk lk_X10_isPlace_101 ?_
                    refine rw_ret hQ (q_ireturn (by omega)) ?_
                    first
                      | exact ⟨rfl, rfl, rfl⟩
                      | (exfalso; omega)
                    
        · skip
          refine rw_of (fun rr hrr => q_iload_n rfl (q_iconst (q_aload_n rfl (q_getR (show SH 261 = (18, 0) from rfl) rfl (pt_261_1 hP) (q_iload_n rfl (q_iald (j := s) (show SH 262 = (1, 13) from rfl) rfl (by omega) (ki rfl hm (by omega)) (q_iconst (q_isub hrr)))))))) ?_
          obtain ⟨_, mm39, pp40, hV41, rfl, rfl, rfl⟩ := c_X10_isIn1 (S := S) (fz := fz) (m := m) (p := p) (d := d) (by omega) (i) (0) ((((n : Nat) : Int) - 1)) (by omega) (by omega) (by omega)
          refine rw_of (fun rr hrr => q_invS hV41 rfl rfl (okar_cons rfl (okar_cons rfl (okar_cons rfl okar_nil))) (Nat.le_of_ble_eq_true rfl) hrr) ?_
          refine rw_if_eq ⟨by omega, by omega⟩ (t := 49) rfl (fun hc42 => ?_) (fun hc42 => ?_)
          · skip
            refine rw_blk lk_X10_isPlace_49 ?_
            refine rw_of (fun rr hrr => q_iconst hrr) ?_
            refine rw_blk lk_X10_isPlace_50 ?_
            refine rw_of (fun rr hrr => q_istore (Nat.le_of_ble_eq_true rfl) rfl (q_iload_n rfl (q_iconst hrr))) ?_
            refine rw_icmp_eq ⟨by omega, by omega⟩ ⟨by omega, by omega⟩ (t := 79) rfl (fun hc43 => ?_) (fun hc43 => ?_)
            · skip
              refine rw_blk lk_X10_isPlace_79 ?_
              refine rw_of (fun rr hrr => q_iconst (q_goto (t := 84) rfl hrr)) ?_
              refine rw_blk lk_X10_isPlace_84 ?_
              refine rw_of (fun rr hrr => q_istore (Nat.le_of_ble_eq_true rfl) rfl (q_iload rfl hrr)) ?_
              refine rw_if_eq ⟨by omega, by omega⟩ (t := 100) rfl (fun hc44 => ?_) (fun hc44 => ?_)
              · skip
                refine rw_blk lk_X10_isPlace_100 ?_
                refine rw_of (fun rr hrr => q_iconst hrr) ?_
                refine rw_blk lk_X10_isPlace_101 ?_
                refine rw_ret hQ (q_ireturn (by omega)) ?_
                first
                  | exact ⟨rfl, rfl, rfl⟩
                  | (exfalso; omega)
                
              · skip
                refine rw_of (fun rr hrr => q_iload rfl hrr) ?_
                refine rw_if_eq ⟨by omega, by omega⟩ (t := 100) rfl (fun hc45 => ?_) (fun hc45 => ?_)
                · skip
                  refine rw_blk lk_X10_isPlace_100 ?_
                  refine rw_of (fun rr hrr => q_iconst hrr) ?_
                  refine rw_blk lk_X10_isPlace_101 ?_
                  refine rw_ret hQ (q_ireturn (by omega)) ?_
                  first
                    | exact ⟨rfl, rfl, rfl⟩
                    | (exfalso; omega)
                  
                · skip
                  refine rw_of (fun rr hrr => q_iconst (q_goto (t := 101) rfl hrr)) ?_
                  refine rw_blk lk_X10_isPlace_101 ?_
                  refine rw_ret hQ (q_ireturn (by omega)) ?_
                  first
                    | exact ⟨rfl, rfl, rfl⟩
                    | (exfalso; omega)
                  
            · skip
              refine rw_of (fun rr hrr => q_iload_n rfl (q_iconst hrr)) ?_
              refine rw_icmp_eq ⟨by omega, by omega⟩ ⟨by omega, by omega⟩ (t := 79) rfl (fun hc46 => ?_) (fun hc46 => ?_)
              · skip
                refine rw_blk lk_X10_isPlace_79 ?_
                refine rw_of (fun rr hrr => q_iconst (q_goto (t := 84) rfl hrr)) ?_
                refine rw_blk lk_X10_isPlace_84 ?_
                refine rw_of (fun rr hrr => q_istore (Nat.le_of_ble_eq_true rfl) rfl (q_iload rfl hrr)) ?_
                refine rw_if_eq ⟨by omega, by omega⟩ (t := 100) rfl (fun hc47 => ?_) (fun hc47 => ?_)
                · skip
                  refine rw_blk lk_X10_isPlace_100 ?_
                  refine rw_of (fun rr hrr => q_iconst hrr) ?_
                  refine rw_blk lk_X10_isPlace_101 ?_
                  refine rw_ret hQ (q_ireturn (by omega)) ?_
                  first
                    | exact ⟨rfl, rfl, rfl⟩
                    | (exfalso; omega)
                  
                · skip
                  refine rw_of (fun rr hrr => q_iload rfl hrr) ?_
                  refine rw_if_eq ⟨by omega, by omega⟩ (t := 100) rfl (fun hc48 => ?_) (fun hc48 => ?_)
                  · skip
                    refine rw_blk lk_X10_isPlace_100 ?_
                    refine rw_of (fun rr hrr => q_iconst hrr) ?_
                    refine rw_blk lk_X10_isPlace_101 ?_
                    refine rw_ret hQ (q_ireturn (by omega)) ?_
                    first
                      | exact ⟨rfl, rfl, rfl⟩
                      | (exfalso; omega)
                    
                  · skip
                    refine rw_of (fun rr hrr => q_iconst (q_goto (t := 101) rfl hrr)) ?_
                    refine rw_blk lk_X10_isPlace_101 ?_
                    refine rw_ret hQ (q_ireturn (by omega)) ?_
                    first
                      | exact ⟨rfl, rfl, rfl⟩
                      | (exfalso; omega)
                    
              · skip
                refine rw_of (fun rr hrr => q_iload rfl (q_iconst (q_aload_n rfl (q_getR (show SH 261 = (18, 0) from rfl) rfl (pt_261_1 hP) (q_iload_n rfl (q_iald (j := s) (show SH 262 = (1, 13) from rfl) rfl (by omega) (ki rfl hm (by omega)) (q_iconst (q_isub hrr)))))))) ?_
                obtain ⟨_, mm49, pp50, hV51, rfl, rfl, rfl⟩ := c_X10_isIn1 (S := S) (fz := fz) (m := m) (p := p) (d := d) (by omega) (j) (0) ((((n : Nat) : Int) - 1)) (by omega) (by omega) (by omega)
                refine rw_of (fun rr hrr => q_invS hV51 rfl rfl (okar_cons rfl (okar_cons rfl (okar_cons rfl okar_nil))) (Nat.le_of_ble_eq_true rfl) hrr) ?_
                refine rw_if_eq ⟨by omega, by omega⟩ (t := 83) rfl (fun hc52 => ?_) (fun hc52 => ?_)
                · skip
                  refine rw_blk lk_X10_isPlace_83 ?_
                  refine rw_of (fun rr hrr => q_iconst hrr) ?_
                  refine rw_blk lk_X10_isPlace_84 ?_
                  refine rw_of (fun rr hrr => q_istore (Nat.le_of_ble_eq_true rfl) rfl (q_iload rfl hrr)) ?_
                  refine rw_if_eq ⟨by omega, by omega⟩ (t := 100) rfl (fun hc53 => ?_) (fun hc53 => ?_)
                  · skip
                    refine rw_blk lk_X10_isPlace_100 ?_
                    refine rw_of (fun rr hrr => q_iconst hrr) ?_
                    refine rw_blk lk_X10_isPlace_101 ?_
                    refine rw_ret hQ (q_ireturn (by omega)) ?_
                    first
                      | exact ⟨rfl, rfl, rfl⟩
                      | (exfalso; omega)
                    
                  · skip
                    refine rw_of (fun rr hrr => q_iload rfl hrr) ?_
                    refine rw_if_eq ⟨by omega, by omega⟩ (t := 100) rfl (fun hc54 => ?_) (fun hc54 => ?_)
                    · skip
                      refine rw_blk lk_X10_isPlace_100 ?_
                      refine rw_of (fun rr hrr => q_iconst hrr) ?_
                      refine rw_blk lk_X10_isPlace_101 ?_
                      refine rw_ret hQ (q_ireturn (by omega)) ?_
                      first
                        | exact ⟨rfl, rfl, rfl⟩
                        | (exfalso; omega)
                      
                    · skip
                      refine rw_of (fun rr hrr => q_iconst (q_goto (t := 101) rfl hrr)) ?_
                      refine rw_blk lk_X10_isPlace_101 ?_
                      refine rw_ret hQ (q_ireturn (by omega)) ?_
                      first
                        | exact ⟨rfl, rfl, rfl⟩
                        | (exfalso; omega)
                      
                · skip
                  refine rw_blk lk_X10_isPlace_79 ?_
                  refine rw_of (fun rr hrr => q_iconst (q_goto (t := 84) rfl hrr)) ?_
                  refine rw_blk lk_X10_isPlace_84 ?_
                  refine rw_of (fun rr hrr => q_istore (Nat.le_of_ble_eq_true rfl) rfl (q_iload rfl hrr)) ?_
                  refine rw_if_eq ⟨by omega, by omega⟩ (t := 100) rfl (fun hc55 => ?_) (fun hc55 => ?_)
                  · skip
                    refine rw_blk lk_X10_isPlace_100 ?_
                    refine rw_of (fun rr hrr => q_iconst hrr) ?_
                    refine rw_blk lk_X10_isPlace_101 ?_
                    refine rw_ret hQ (q_ireturn (by omega)) ?_
                    first
                      | exact ⟨rfl, rfl, rfl⟩
                      | (exfalso; omega)
                    
                  · skip
                    refine rw_of (fun rr hrr => q_iload rfl hrr) ?_
                    refine rw_if_eq ⟨by omega, by omega⟩ (t := 100) rfl (fun hc56 => ?_) (fun hc56 => ?_)
                    · skip
                      refine rw_blk lk_X10_isPlace_100 ?_
                      refine rw_of (fun rr hrr => q_iconst hrr) ?_
                      refine rw_blk lk_X10_isPlace_101 ?_
                      refine rw_ret hQ (q_ireturn (by omega)) ?_
                      first
                        | exact ⟨rfl, rfl, rfl⟩
                        | (exfalso; omega)
                      
                    · skip
                      refine rw_of (fun rr hrr => q_iconst (q_goto (t := 101) rfl hrr)) ?_
                      refine rw_blk lk_X10_isPlace_101 ?_
                      refine rw_ret hQ (q_ireturn (by omega)) ?_
                      first
                        | exact ⟨rfl, rfl, rfl⟩
                        | (exfalso; omega)
                      
          · skip
            refine rw_blk lk_X10_isPlace_45 ?_
            refine rw_of (fun rr hrr => q_iconst (q_goto (t := 50) rfl hrr)) ?_
            refine rw_blk lk_X10_isPlace_50 ?_
            refine rw_of (fun rr hrr => q_istore (Nat.le_of_ble_eq_true rfl) rfl (q_iload_n rfl (q_iconst hrr))) ?_
            refine rw_icmp_eq ⟨by omega, by omega⟩ ⟨by omega, by omega⟩ (t := 79) rfl (fun hc57 => ?_) (fun hc57 => ?_)
            · skip
              refine rw_blk lk_X10_isPlace_79 ?_
              refine rw_of (fun rr hrr => q_iconst (q_goto (t := 84) rfl hrr)) ?_
              refine rw_blk lk_X10_isPlace_84 ?_
              refine rw_of (fun rr hrr => q_istore (Nat.le_of_ble_eq_true rfl) rfl (q_iload rfl hrr)) ?_
              refine rw_if_eq ⟨by omega, by omega⟩ (t := 100) rfl (fun hc58 => ?_) (fun hc58 => ?_)
              · skip
                refine rw_blk lk_X10_isPlace_100 ?_
                refine rw_of (fun rr hrr => q_iconst hrr) ?_
                refine rw_blk lk_X10_isPlace_101 ?_
                refine rw_ret hQ (q_ireturn (by omega)) ?_
                first
                  | exact ⟨rfl, rfl, rfl⟩
                  | (exfalso; omega)
                
              · skip
                refine rw_of (fun rr hrr => q_iload rfl hrr) ?_
                refine rw_if_eq ⟨by omega, by omega⟩ (t := 100) rfl (fun hc59 => ?_) (fun hc59 => ?_)
                · skip
                  refine rw_blk lk_X10_isPlace_100 ?_
                  refine rw_of (fun rr hrr => q_iconst hrr) ?_
                  refine rw_blk lk_X10_isPlace_101 ?_
                  refine rw_ret hQ (q_ireturn (by omega)) ?_
                  first
                    | exact ⟨rfl, rfl, rfl⟩
                    | (exfalso; omega)
                  
                · skip
                  refine rw_of (fun rr hrr => q_iconst (q_goto (t := 101) rfl hrr)) ?_
                  refine rw_blk lk_X10_isPlace_101 ?_
                  refine rw_ret hQ (q_ireturn (by omega)) ?_
                  first
                    | exact ⟨rfl, rfl, rfl⟩
                    | (exfalso; omega)
                  
            · skip
              refine rw_of (fun rr hrr => q_iload_n rfl (q_iconst hrr)) ?_
              refine rw_icmp_eq ⟨by omega, by omega⟩ ⟨by omega, by omega⟩ (t := 79) rfl (fun hc60 => ?_) (fun hc60 => ?_)
              · skip
                refine rw_blk lk_X10_isPlace_79 ?_
                refine rw_of (fun rr hrr => q_iconst (q_goto (t := 84) rfl hrr)) ?_
                refine rw_blk lk_X10_isPlace_84 ?_
                refine rw_of (fun rr hrr => q_istore (Nat.le_of_ble_eq_true rfl) rfl (q_iload rfl hrr)) ?_
                refine rw_if_eq ⟨by omega, by omega⟩ (t := 100) rfl (fun hc61 => ?_) (fun hc61 => ?_)
                · skip
                  refine rw_blk lk_X10_isPlace_100 ?_
                  refine rw_of (fun rr hrr => q_iconst hrr) ?_
                  refine rw_blk lk_X10_isPlace_101 ?_
                  refine rw_ret hQ (q_ireturn (by omega)) ?_
                  first
                    | exact ⟨rfl, rfl, rfl⟩
                    | (exfalso; omega)
                  
                · skip
                  refine rw_of (fun rr hrr => q_iload rfl hrr) ?_
                  refine rw_if_eq ⟨by omega, by omega⟩ (t := 100) rfl (fun hc62 => ?_) (fun hc62 => ?_)
                  · skip
                    refine rw_blk lk_X10_isPlace_100 ?_
                    refine rw_of (fun rr hrr => q_iconst hrr) ?_
                    refine rw_blk lk_X10_isPlace_101 ?_
                    refine rw_ret hQ (q_ireturn (by omega)) ?_
                    first
                      | exact ⟨rfl, rfl, rfl⟩
                      | (exfalso; omega)
                    
                  · skip
                    refine rw_of (fun rr hrr => q_iconst (q_goto (t := 101) rfl hrr)) ?_
                    refine rw_blk lk_X10_isPlace_101 ?_
                    refine rw_ret hQ (q_ireturn (by omega)) ?_
                    first
                      | exact ⟨rfl, rfl, rfl⟩
                      | (exfalso; omega)
                    
              · skip
                refine rw_of (fun rr hrr => q_iload rfl (q_iconst (q_aload_n rfl (q_getR (show SH 261 = (18, 0) from rfl) rfl (pt_261_1 hP) (q_iload_n rfl (q_iald (j := s) (show SH 262 = (1, 13) from rfl) rfl (by omega) (ki rfl hm (by omega)) (q_iconst (q_isub hrr)))))))) ?_
                obtain ⟨_, mm63, pp64, hV65, rfl, rfl, rfl⟩ := c_X10_isIn1 (S := S) (fz := fz) (m := m) (p := p) (d := d) (by omega) (j) (0) ((((n : Nat) : Int) - 1)) (by omega) (by omega) (by omega)
                refine rw_of (fun rr hrr => q_invS hV65 rfl rfl (okar_cons rfl (okar_cons rfl (okar_cons rfl okar_nil))) (Nat.le_of_ble_eq_true rfl) hrr) ?_
                refine rw_if_eq ⟨by omega, by omega⟩ (t := 83) rfl (fun hc66 => ?_) (fun hc66 => ?_)
                · skip
                  refine rw_blk lk_X10_isPlace_83 ?_
                  refine rw_of (fun rr hrr => q_iconst hrr) ?_
                  refine rw_blk lk_X10_isPlace_84 ?_
                  refine rw_of (fun rr hrr => q_istore (Nat.le_of_ble_eq_true rfl) rfl (q_iload rfl hrr)) ?_
                  refine rw_if_eq ⟨by omega, by omega⟩ (t := 100) rfl (fun hc67 => ?_) (fun hc67 => ?_)
                  · skip
                    refine rw_blk lk_X10_isPlace_100 ?_
                    refine rw_of (fun rr hrr => q_iconst hrr) ?_
                    refine rw_blk lk_X10_isPlace_101 ?_
                    refine rw_ret hQ (q_ireturn (by omega)) ?_
                    first
                      | exact ⟨rfl, rfl, rfl⟩
                      | (exfalso; omega)
                    
                  · skip
                    refine rw_of (fun rr hrr => q_iload rfl hrr) ?_
                    refine rw_if_eq ⟨by omega, by omega⟩ (t := 100) rfl (fun hc68 => ?_) (fun hc68 => ?_)
                    · skip
                      refine rw_blk lk_X10_isPlace_100 ?_
                      refine rw_of (fun rr hrr => q_iconst hrr) ?_
                      refine rw_blk lk_X10_isPlace_101 ?_
                      refine rw_ret hQ (q_ireturn (by omega)) ?_
                      first
                        | exact ⟨rfl, rfl, rfl⟩
                        | (exfalso; omega)
                      
                    · skip
                      refine rw_of (fun rr hrr => q_iconst (q_goto (t := 101) rfl hrr)) ?_
                      refine rw_blk lk_X10_isPlace_101 ?_
                      refine rw_ret hQ (q_ireturn (by omega)) ?_
                      first
                        | exact ⟨rfl, rfl, rfl⟩
                        | (exfalso; omega)
                      
                · skip
                  refine rw_blk lk_X10_isPlace_79 ?_
                  refine rw_of (fun rr hrr => q_iconst (q_goto (t := 84) rfl hrr)) ?_
                  refine rw_blk lk_X10_isPlace_84 ?_
                  refine rw_of (fun rr hrr => q_istore (Nat.le_of_ble_eq_true rfl) rfl (q_iload rfl hrr)) ?_
                  refine rw_if_eq ⟨by omega, by omega⟩ (t := 100) rfl (fun hc69 => ?_) (fun hc69 => ?_)
                  · skip
                    refine rw_blk lk_X10_isPlace_100 ?_
                    refine rw_of (fun rr hrr => q_iconst hrr) ?_
                    refine rw_blk lk_X10_isPlace_101 ?_
                    refine rw_ret hQ (q_ireturn (by omega)) ?_
                    first
                      | exact ⟨rfl, rfl, rfl⟩
                      | (exfalso; omega)
                    
                  · skip
                    refine rw_of (fun rr hrr => q_iload rfl hrr) ?_
                    refine rw_if_eq ⟨by omega, by omega⟩ (t := 100) rfl (fun hc70 => ?_) (fun hc70 => ?_)
                    · skip
                      refine rw_blk lk_X10_isPlace_100 ?_
                      refine rw_of (fun rr hrr => q_iconst hrr) ?_
                      refine rw_blk lk_X10_isPlace_101 ?_
                      refine rw_ret hQ (q_ireturn (by omega)) ?_
                      first
                        | exact ⟨rfl, rfl, rfl⟩
                        | (exfalso; omega)
                      
                    · skip
                      refine rw_of (fun rr hrr => q_iconst (q_goto (t := 101) rfl hrr)) ?_
                      refine rw_blk lk_X10_isPlace_101 ?_
                      refine rw_ret hQ (q_ireturn (by omega)) ?_
                      first
                        | exact ⟨rfl, rfl, rfl⟩
                        | (exfalso; omega)
                      
    · skip
      refine rw_blk lk_X10_isPlace_17 ?_
      refine rw_of (fun rr hrr => q_iconst hrr) ?_
      refine rw_ret hQ (q_ireturn (by omega)) ?_
      first
        | exact ⟨rfl, rfl, rfl⟩
        | (exfalso; omega)
      
theorem c_X10_isPlace2_10 {d : Nat} {S : MC} {fz : Bool} {m : M1} {p : M2} (hd : 3 ≤ d) (s k n : Nat) (i j : Int) (hP : PI p) (hk : m 261 0 = nF k) (hk12 : k ≤ 12) (hsk : s < k) (hm : m 262 s = nF n) (hn0 : 1 ≤ n) (hn : n ≤ 8) (hri : (-2147483648 ≤ i ∧ i < 2147483648)) (hrj : (-2147483648 ≤ j ∧ j < 2147483648)) (hj : j < 0 ∨ n ≤ j) : Ct d k_X10_isPlace S fz [.ref (261), .int (iI (((s : Nat) : Int))), .int (iI (2)), .int (iI (i)), .int (iI (j))] m p (fun v m' p' => v = some (.int (iI (0))) ∧ m = m' ∧ p = p') := by
  obtain ⟨d, rfl⟩ : ∃ e, d = e + 1 := ⟨d - 1, by omega⟩
  refine ct_go (lv := [some (.ref (261)), some (.int (iI (((s : Nat) : Int)))), some (.int (iI (2))), some (.int (iI (i))), some (.int (iI (j))), none, none]) (Nat.le_of_ble_eq_true rfl) (okar_cons rfl (okar_cons rfl (okar_cons rfl (okar_cons rfl (okar_cons rfl okar_nil))))) rfl (fun Qr hQ => ?_)
  refine rw_blk lk_X10_isPlace_0 ?_
  refine rw_of (fun rr hrr => q_aload_n rfl (q_iload_n rfl hrr)) ?_
  obtain ⟨_, mm1, pp2, hV3, rfl, rfl, rfl⟩ := c_X10_isSystem1 (S := S) (fz := fz) (m := m) (p := p) (d := d) (by omega) (((s : Nat) : Int)) (k) hP hk (by omega) (by omega) (by omega)
  refine rw_of (fun rr hrr => q_invV hV3 (show SH 261 = (18, 0) from rfl) rfl rfl (okar_cons rfl okar_nil) (Nat.le_of_ble_eq_true rfl) hrr) ?_
  refine rw_if_eq ⟨by omega, by omega⟩ (t := 17) rfl (fun hc4 => ?_) (fun hc4 => ?_)
  · skip
    refine rw_blk lk_X10_isPlace_17 ?_
    refine rw_of (fun rr hrr => q_iconst hrr) ?_
    refine rw_ret hQ (q_ireturn (by omega)) ?_
    first
      | exact ⟨rfl, rfl, rfl⟩
      | (exfalso; omega)
    
  · skip
    refine rw_of (fun rr hrr => q_iload_n rfl (q_iconst (q_iconst hrr))) ?_
    obtain ⟨_, mm5, pp6, hV7, rfl, rfl, rfl⟩ := c_X10_isIn1 (S := S) (fz := fz) (m := m) (p := p) (d := d) (by omega) (2) (0) (3) (by omega) (by omega) (by omega)
    refine rw_of (fun rr hrr => q_invS hV7 rfl rfl (okar_cons rfl (okar_cons rfl (okar_cons rfl okar_nil))) (Nat.le_of_ble_eq_true rfl) hrr) ?_
    refine rw_if_ne ⟨by omega, by omega⟩ (t := 19) rfl (fun hc8 => ?_) (fun hc8 => ?_)
    · skip
      refine rw_blk lk_X10_isPlace_19 ?_
      refine rw_of (fun rr hrr => q_iload_n rfl (q_iconst hrr)) ?_
      refine rw_icmp_eq ⟨by omega, by omega⟩ ⟨by omega, by omega⟩ (t := 45) rfl (fun hc9 => ?_) (fun hc9 => ?_)
      · skip
        refine rw_blk lk_X10_isPlace_45 ?_
        refine rw_of (fun rr hrr => q_iconst (q_goto (t := 50) rfl hrr)) ?_
        refine rw_blk lk_X10_isPlace_50 ?_
        refine rw_of (fun rr hrr => q_istore (Nat.le_of_ble_eq_true rfl) rfl (q_iload_n rfl (q_iconst hrr))) ?_
        refine rw_icmp_eq ⟨by omega, by omega⟩ ⟨by omega, by omega⟩ (t := 79) rfl (fun hc10 => ?_) (fun hc10 => ?_)
        · skip
          refine rw_blk lk_X10_isPlace_79 ?_
          refine rw_of (fun rr hrr => q_iconst (q_goto (t := 84) rfl hrr)) ?_
          refine rw_blk lk_X10_isPlace_84 ?_
          refine rw_of (fun rr hrr => q_istore (Nat.le_of_ble_eq_true rfl) rfl (q_iload rfl hrr)) ?_
          refine rw_if_eq ⟨by omega, by omega⟩ (t := 100) rfl (fun hc11 => ?_) (fun hc11 => ?_)
          · skip
            refine rw_blk lk_X10_isPlace_100 ?_
            refine rw_of (fun rr hrr => q_iconst hrr) ?_
            refine rw_blk lk_X10_isPlace_101 ?_
            refine rw_ret hQ (q_ireturn (by omega)) ?_
            first
              | exact ⟨rfl, rfl, rfl⟩
              | (exfalso; omega)
            
          · skip
            refine rw_of (fun rr hrr => q_iload rfl hrr) ?_
            refine rw_if_eq ⟨by omega, by omega⟩ (t := 100) rfl (fun hc12 => ?_) (fun hc12 => ?_)
            · skip
              refine rw_blk lk_X10_isPlace_100 ?_
              refine rw_of (fun rr hrr => q_iconst hrr) ?_
              refine rw_blk lk_X10_isPlace_101 ?_
              refine rw_ret hQ (q_ireturn (by omega)) ?_
              first
                | exact ⟨rfl, rfl, rfl⟩
                | (exfalso; omega)
              
            · skip
              refine rw_of (fun rr hrr => q_iconst (q_goto (t := 101) rfl hrr)) ?_
              refine rw_blk lk_X10_isPlace_101 ?_
              refine rw_ret hQ (q_ireturn (by omega)) ?_
              first
                | exact ⟨rfl, rfl, rfl⟩
                | (exfalso; omega)
              
        · skip
          refine rw_of (fun rr hrr => q_iload_n rfl (q_iconst hrr)) ?_
          refine rw_icmp_eq ⟨by omega, by omega⟩ ⟨by omega, by omega⟩ (t := 79) rfl (fun hc13 => ?_) (fun hc13 => ?_)
          · skip
            refine rw_blk lk_X10_isPlace_79 ?_
            refine rw_of (fun rr hrr => q_iconst (q_goto (t := 84) rfl hrr)) ?_
            refine rw_blk lk_X10_isPlace_84 ?_
            refine rw_of (fun rr hrr => q_istore (Nat.le_of_ble_eq_true rfl) rfl (q_iload rfl hrr)) ?_
            refine rw_if_eq ⟨by omega, by omega⟩ (t := 100) rfl (fun hc14 => ?_) (fun hc14 => ?_)
            · skip
              refine rw_blk lk_X10_isPlace_100 ?_
              refine rw_of (fun rr hrr => q_iconst hrr) ?_
              refine rw_blk lk_X10_isPlace_101 ?_
              refine rw_ret hQ (q_ireturn (by omega)) ?_
              first
                | exact ⟨rfl, rfl, rfl⟩
                | (exfalso; omega)
              
            · skip
              refine rw_of (fun rr hrr => q_iload rfl hrr) ?_
              refine rw_if_eq ⟨by omega, by omega⟩ (t := 100) rfl (fun hc15 => ?_) (fun hc15 => ?_)
              · skip
                refine rw_blk lk_X10_isPlace_100 ?_
                refine rw_of (fun rr hrr => q_iconst hrr) ?_
                refine rw_blk lk_X10_isPlace_101 ?_
                refine rw_ret hQ (q_ireturn (by omega)) ?_
                first
                  | exact ⟨rfl, rfl, rfl⟩
                  | (exfalso; omega)
                
              · skip
                refine rw_of (fun rr hrr => q_iconst (q_goto (t := 101) rfl hrr)) ?_
                refine rw_blk lk_X10_isPlace_101 ?_
                refine rw_ret hQ (q_ireturn (by omega)) ?_
                first
                  | exact ⟨rfl, rfl, rfl⟩
                  | (exfalso; omega)
                
          · skip
            refine rw_of (fun rr hrr => q_iload rfl (q_iconst (q_aload_n rfl (q_getR (show SH 261 = (18, 0) from rfl) rfl (pt_261_1 hP) (q_iload_n rfl (q_iald (j := s) (show SH 262 = (1, 13) from rfl) rfl (by omega) (ki rfl hm (by omega)) (q_iconst (q_isub hrr)))))))) ?_
            obtain ⟨_, mm16, pp17, hV18, rfl, rfl, rfl⟩ := c_X10_isIn0 (S := S) (fz := fz) (m := m) (p := p) (d := d) (by omega) (j) (0) ((((n : Nat) : Int) - 1)) (by omega) (by omega) (by omega)
            refine rw_of (fun rr hrr => q_invS hV18 rfl rfl (okar_cons rfl (okar_cons rfl (okar_cons rfl okar_nil))) (Nat.le_of_ble_eq_true rfl) hrr) ?_
            refine rw_if_eq ⟨by omega, by omega⟩ (t := 83) rfl (fun hc19 => ?_) (fun hc19 => ?_)
            · skip
              refine rw_blk lk_X10_isPlace_83 ?_
              refine rw_of (fun rr hrr => q_iconst hrr) ?_
              refine rw_blk lk_X10_isPlace_84 ?_
              refine rw_of (fun rr hrr => q_istore (Nat.le_of_ble_eq_true rfl) rfl (q_iload rfl hrr)) ?_
              refine rw_if_eq ⟨by omega, by omega⟩ (t := 100) rfl (fun hc20 => ?_) (fun hc20 => ?_)
              · skip
                refine rw_blk lk_X10_isPlace_100 ?_
                refine rw_of (fun rr hrr => q_iconst hrr) ?_
                refine rw_blk lk_X10_isPlace_101 ?_
                refine rw_ret hQ (q_ireturn (by omega)) ?_
                first
                  | exact ⟨rfl, rfl, rfl⟩
                  | (exfalso; omega)
                
              · skip
                refine rw_of (fun rr hrr => q_iload rfl hrr) ?_
                refine rw_if_eq ⟨by omega, by omega⟩ (t := 100) rfl (fun hc21 => ?_) (fun hc21 => ?_)
                · skip
                  refine rw_blk lk_X10_isPlace_100 ?_
                  refine rw_of (fun rr hrr => q_iconst hrr) ?_
                  refine rw_blk lk_X10_isPlace_101 ?_
                  refine rw_ret hQ (q_ireturn (by omega)) ?_
                  first
                    | exact ⟨rfl, rfl, rfl⟩
                    | (exfalso; omega)
                  
                · skip
                  refine rw_of (fun rr hrr => q_iconst (q_goto (t := 101) rfl hrr)) ?_
                  refine rw_blk lk_X10_isPlace_101 ?_
                  refine rw_ret hQ (q_ireturn (by omega)) ?_
                  first
                    | exact ⟨rfl, rfl, rfl⟩
                    | (exfalso; omega)
                  
            · skip
              refine rw_blk lk_X10_isPlace_79 ?_
              refine rw_of (fun rr hrr => q_iconst (q_goto (t := 84) rfl hrr)) ?_
              refine rw_blk lk_X10_isPlace_84 ?_
              refine rw_of (fun rr hrr => q_istore (Nat.le_of_ble_eq_true rfl) rfl (q_iload rfl hrr)) ?_
              refine rw_if_eq ⟨by omega, by omega⟩ (t := 100) rfl (fun hc22 => ?_) (fun hc22 => ?_)
              · skip
                refine rw_blk lk_X10_isPlace_100 ?_
                refine rw_of (fun rr hrr => q_iconst hrr) ?_
                refine rw_blk lk_X10_isPlace_101 ?_
                refine rw_ret hQ (q_ireturn (by omega)) ?_
                first
                  | exact ⟨rfl, rfl, rfl⟩
                  | (exfalso; omega)
                
              · skip
                refine rw_of (fun rr hrr => q_iload rfl hrr) ?_
                refine rw_if_eq ⟨by omega, by omega⟩ (t := 100) rfl (fun hc23 => ?_) (fun hc23 => ?_)
                · skip
                  refine rw_blk lk_X10_isPlace_100 ?_
                  refine rw_of (fun rr hrr => q_iconst hrr) ?_
                  refine rw_blk lk_X10_isPlace_101 ?_
                  refine rw_ret hQ (q_ireturn (by omega)) ?_
                  first
                    | exact ⟨rfl, rfl, rfl⟩
                    | (exfalso; omega)
                  
                · skip
                  refine rw_of (fun rr hrr => q_iconst (q_goto (t := 101) rfl hrr)) ?_
                  refine rw_blk lk_X10_isPlace_101 ?_
                  refine rw_ret hQ (q_ireturn (by omega)) ?_
                  first
                    | exact ⟨rfl, rfl, rfl⟩
                    | (exfalso; omega)
                  
      · skip
        refine rw_of (fun rr hrr => q_iload_n rfl (q_iconst hrr)) ?_
        refine rw_icmp_eq ⟨by omega, by omega⟩ ⟨by omega, by omega⟩ (t := 45) rfl (fun hc24 => ?_) (fun hc24 => ?_)
        · skip
          refine rw_blk lk_X10_isPlace_45 ?_
          refine rw_of (fun rr hrr => q_iconst (q_goto (t := 50) rfl hrr)) ?_
          refine rw_blk lk_X10_isPlace_50 ?_
          refine rw_of (fun rr hrr => q_istore (Nat.le_of_ble_eq_true rfl) rfl (q_iload_n rfl (q_iconst hrr))) ?_
          refine rw_icmp_eq ⟨by omega, by omega⟩ ⟨by omega, by omega⟩ (t := 79) rfl (fun hc25 => ?_) (fun hc25 => ?_)
          · skip
            refine rw_blk lk_X10_isPlace_79 ?_
            refine rw_of (fun rr hrr => q_iconst (q_goto (t := 84) rfl hrr)) ?_
            refine rw_blk lk_X10_isPlace_84 ?_
            refine rw_of (fun rr hrr => q_istore (Nat.le_of_ble_eq_true rfl) rfl (q_iload rfl hrr)) ?_
            refine rw_if_eq ⟨by omega, by omega⟩ (t := 100) rfl (fun hc26 => ?_) (fun hc26 => ?_)
            · skip
              refine rw_blk lk_X10_isPlace_100 ?_
              refine rw_of (fun rr hrr => q_iconst hrr) ?_
              refine rw_blk lk_X10_isPlace_101 ?_
              refine rw_ret hQ (q_ireturn (by omega)) ?_
              first
                | exact ⟨rfl, rfl, rfl⟩
                | (exfalso; omega)
              
            · skip
              refine rw_of (fun rr hrr => q_iload rfl hrr) ?_
              refine rw_if_eq ⟨by omega, by omega⟩ (t := 100) rfl (fun hc27 => ?_) (fun hc27 => ?_)
              · skip
                refine rw_blk lk_X10_isPlace_100 ?_
                refine rw_of (fun rr hrr => q_iconst hrr) ?_
                refine rw_blk lk_X10_isPlace_101 ?_
                refine rw_ret hQ (q_ireturn (by omega)) ?_
                first
                  | exact ⟨rfl, rfl, rfl⟩
                  | (exfalso; omega)
                
              · skip
                refine rw_of (fun rr hrr => q_iconst (q_goto (t := 101) rfl hrr)) ?_
                refine rw_blk lk_X10_isPlace_101 ?_
                refine rw_ret hQ (q_ireturn (by omega)) ?_
                first
                  | exact ⟨rfl, rfl, rfl⟩
                  | (exfalso; omega)
                
          · skip
            refine rw_of (fun rr hrr => q_iload_n rfl (q_iconst hrr)) ?_
            refine rw_icmp_eq ⟨by omega, by omega⟩ ⟨by omega, by omega⟩ (t := 79) rfl (fun hc28 => ?_) (fun hc28 => ?_)
            · skip
              refine rw_blk lk_X10_isPlace_79 ?_
              refine rw_of (fun rr hrr => q_iconst (q_goto (t := 84) rfl hrr)) ?_
              refine rw_blk lk_X10_isPlace_84 ?_
              refine rw_of (fun rr hrr => q_istore (Nat.le_of_ble_eq_true rfl) rfl (q_iload rfl hrr)) ?_
              refine rw_if_eq ⟨by omega, by omega⟩ (t := 100) rfl (fun hc29 => ?_) (fun hc29 => ?_)
              · skip
                refine rw_blk lk_X10_isPlace_100 ?_
                refine rw_of (fun rr hrr => q_iconst hrr) ?_
                refine rw_blk lk_X10_isPlace_101 ?_
                refine rw_ret hQ (q_ireturn (by omega)) ?_
                first
                  | exact ⟨rfl, rfl, rfl⟩
                  | (exfalso; omega)
                
              · skip
                refine rw_of (fun rr hrr => q_iload rfl hrr) ?_
                refine rw_if_eq ⟨by omega, by omega⟩ (t := 100) rfl (fun hc30 => ?_) (fun hc30 => ?_)
                · skip
                  refine rw_blk lk_X10_isPlace_100 ?_
                  refine rw_of (fun rr hrr => q_iconst hrr) ?_
                  refine rw_blk lk_X10_isPlace_101 ?_
                  refine rw_ret hQ (q_ireturn (by omega)) ?_
                  first
                    | exact ⟨rfl, rfl, rfl⟩
                    | (exfalso; omega)
                  
                · skip
                  refine rw_of (fun rr hrr => q_iconst (q_goto (t := 101) rfl hrr)) ?_
                  refine rw_blk lk_X10_isPlace_101 ?_
                  refine rw_ret hQ (q_ireturn (by omega)) ?_
                  first
                    | exact ⟨rfl, rfl, rfl⟩
                    | (exfalso; omega)
                  
            · skip
              refine rw_of (fun rr hrr => q_iload rfl (q_iconst (q_aload_n rfl (q_getR (show SH 261 = (18, 0) from rfl) rfl (pt_261_1 hP) (q_iload_n rfl (q_iald (j := s) (show SH 262 = (1, 13) from rfl) rfl (by omega) (ki rfl hm (by omega)) (q_iconst (q_isub hrr)))))))) ?_
              obtain ⟨_, mm31, pp32, hV33, rfl, rfl, rfl⟩ := c_X10_isIn0 (S := S) (fz := fz) (m := m) (p := p) (d := d) (by omega) (j) (0) ((((n : Nat) : Int) - 1)) (by omega) (by omega) (by omega)
              refine rw_of (fun rr hrr => q_invS hV33 rfl rfl (okar_cons rfl (okar_cons rfl (okar_cons rfl okar_nil))) (Nat.le_of_ble_eq_true rfl) hrr) ?_
              refine rw_if_eq ⟨by omega, by omega⟩ (t := 83) rfl (fun hc34 => ?_) (fun hc34 => ?_)
              · skip
                refine rw_blk lk_X10_isPlace_83 ?_
                refine rw_of (fun rr hrr => q_iconst hrr) ?_
                refine rw_blk lk_X10_isPlace_84 ?_
                refine rw_of (fun rr hrr => q_istore (Nat.le_of_ble_eq_true rfl) rfl (q_iload rfl hrr)) ?_
                refine rw_if_eq ⟨by omega, by omega⟩ (t := 100) rfl (fun hc35 => ?_) (fun hc35 => ?_)
                · skip
                  refine rw_blk lk_X10_isPlace_100 ?_
                  refine rw_of (fun rr hrr => q_iconst hrr) ?_
                  refine rw_blk lk_X10_isPlace_101 ?_
                  refine rw_ret hQ (q_ireturn (by omega)) ?_
                  first
                    | exact ⟨rfl, rfl, rfl⟩
                    | (exfalso; omega)
                  
                · skip
                  refine rw_of (fun rr hrr => q_iload rfl hrr) ?_
                  refine rw_if_eq ⟨by omega, by omega⟩ (t := 100) rfl (fun hc36 => ?_) (fun hc36 => ?_)
                  · skip
                    refine rw_blk lk_X10_isPlace_100 ?_
                    refine rw_of (fun rr hrr => q_iconst hrr) ?_
                    refine rw_blk lk_X10_isPlace_101 ?_
                    refine rw_ret hQ (q_ireturn (by omega)) ?_
                    first
                      | exact ⟨rfl, rfl, rfl⟩
                      | (exfalso; omega)
                    
                  · skip
                    refine rw_of (fun rr hrr => q_iconst (q_goto (t := 101) rfl hrr)) ?_
                    refine rw_blk lk_X10_isPlace_101 ?_
                    refine rw_ret hQ (q_ireturn (by omega)) ?_
                    first
                      | exact ⟨rfl, rfl, rfl⟩
                      | (exfalso; omega)
                    
              · skip
                refine rw_blk lk_X10_isPlace_79 ?_
                refine rw_of (fun rr hrr => q_iconst (q_goto (t := 84) rfl hrr)) ?_
                refine rw_blk lk_X10_isPlace_84 ?_
                refine rw_of (fun rr hrr => q_istore (Nat.le_of_ble_eq_true rfl) rfl (q_iload rfl hrr)) ?_
                refine rw_if_eq ⟨by omega, by omega⟩ (t := 100) rfl (fun hc37 => ?_) (fun hc37 => ?_)
                · skip
                  refine rw_blk lk_X10_isPlace_100 ?_
                  refine rw_of (fun rr hrr => q_iconst hrr) ?_
                  refine rw_blk lk_X10_isPlace_101 ?_
                  refine rw_ret hQ (q_ireturn (by omega)) ?_
                  first
                    | exact ⟨rfl, rfl, rfl⟩
                    | (exfalso; omega)
                  
                · skip
                  refine rw_of (fun rr hrr => q_iload rfl hrr) ?_
                  refine rw_if_eq ⟨by omega, by omega⟩ (t := 100) rfl (fun hc38 => ?_) (fun hc38 => ?_)
                  · skip
                    refine rw_blk lk_X10_isPlace_100 ?_
                    refine rw_of (fun rr hrr => q_iconst hrr) ?_
                    refine rw_blk lk_X10_isPlace_101 ?_
                    refine rw_ret hQ (q_ireturn (by omega)) ?_
                    first
                      | exact ⟨rfl, rfl, rfl⟩
                      | (exfalso; omega)
                    
                  · skip
                    refine rw_of (fun rr hrr => q_iconst (q_goto (t := 101) rfl hrr)) ?_
                    refine rw_blk lk_X10_isPlace_101 ?_
                    refine rw_ret hQ (q_ireturn (by omega)) ?_
                    first
                      | exact ⟨rfl, rfl, rfl⟩
                      | (exfalso; omega)
                    
        · skip
          refine rw_of (fun rr hrr => q_iload_n rfl (q_iconst (q_aload_n rfl (q_getR (show SH 261 = (18, 0) from rfl) rfl (pt_261_1 hP) (q_iload_n rfl (q_iald (j := s) (show SH 262 = (1, 13) from rfl) rfl (by omega) (ki rfl hm (by omega)) (q_iconst (q_isub hrr)))))))) ?_
          obtain ⟨_, mm39, pp40, hV41, rfl, rfl, rfl⟩ := c_X10_isIn1 (S := S) (fz := fz) (m := m) (p := p) (d := d) (by omega) (i) (0) ((((n : Nat) : Int) - 1)) (by omega) (by omega) (by omega)
          refine rw_of (fun rr hrr => q_invS hV41 rfl rfl (okar_cons rfl (okar_cons rfl (okar_cons rfl okar_nil))) (Nat.le_of_ble_eq_true rfl) hrr) ?_
          refine rw_if_eq ⟨by omega, by omega⟩ (t := 49) rfl (fun hc42 => ?_) (fun hc42 => ?_)
          · skip
            refine rw_blk lk_X10_isPlace_49 ?_
            refine rw_of (fun rr hrr => q_iconst hrr) ?_
            refine rw_blk lk_X10_isPlace_50 ?_
            refine rw_of (fun rr hrr => q_istore (Nat.le_of_ble_eq_true rfl) rfl (q_iload_n rfl (q_iconst hrr))) ?_
            refine rw_icmp_eq ⟨by omega, by omega⟩ ⟨by omega, by omega⟩ (t := 79) rfl (fun hc43 => ?_) (fun hc43 => ?_)
            · skip
              refine rw_blk lk_X10_isPlace_79 ?_
              refine rw_of (fun rr hrr => q_iconst (q_goto (t := 84) rfl hrr)) ?_
              refine rw_blk lk_X10_isPlace_84 ?_
              refine rw_of (fun rr hrr => q_istore (Nat.le_of_ble_eq_true rfl) rfl (q_iload rfl hrr)) ?_
              refine rw_if_eq ⟨by omega, by omega⟩ (t := 100) rfl (fun hc44 => ?_) (fun hc44 => ?_)
              · skip
                refine rw_blk lk_X10_isPlace_100 ?_
                refine rw_of (fun rr hrr => q_iconst hrr) ?_
                refine rw_blk lk_X10_isPlace_101 ?_
                refine rw_ret hQ (q_ireturn (by omega)) ?_
                first
                  | exact ⟨rfl, rfl, rfl⟩
                  | (exfalso; omega)
                
              · skip
                refine rw_of (fun rr hrr => q_iload rfl hrr) ?_
                refine rw_if_eq ⟨by omega, by omega⟩ (t := 100) rfl (fun hc45 => ?_) (fun hc45 => ?_)
                · skip
                  refine rw_blk lk_X10_isPlace_100 ?_
                  refine rw_of (fun rr hrr => q_iconst hrr) ?_
                  refine rw_blk lk_X10_isPlace_101 ?_
                  refine rw_ret hQ (q_ireturn (by omega)) ?_
                  first
                    | exact ⟨rfl, rfl, rfl⟩
                    | (exfalso; omega)
                  
                · skip
                  refine rw_of (fun rr hrr => q_iconst (q_goto (t := 101) rfl hrr)) ?_
                  refine rw_blk lk_X10_isPlace_101 ?_
                  refine rw_ret hQ (q_ireturn (by omega)) ?_
                  first
                    | exact ⟨rfl, rfl, rfl⟩
                    | (exfalso; omega)
                  
            · skip
              refine rw_of (fun rr hrr => q_iload_n rfl (q_iconst hrr)) ?_
              refine rw_icmp_eq ⟨by omega, by omega⟩ ⟨by omega, by omega⟩ (t := 79) rfl (fun hc46 => ?_) (fun hc46 => ?_)
              · skip
                refine rw_blk lk_X10_isPlace_79 ?_
                refine rw_of (fun rr hrr => q_iconst (q_goto (t := 84) rfl hrr)) ?_
                refine rw_blk lk_X10_isPlace_84 ?_
                refine rw_of (fun rr hrr => q_istore (Nat.le_of_ble_eq_true rfl) rfl (q_iload rfl hrr)) ?_
                refine rw_if_eq ⟨by omega, by omega⟩ (t := 100) rfl (fun hc47 => ?_) (fun hc47 => ?_)
                · skip
                  refine rw_blk lk_X10_isPlace_100 ?_
                  refine rw_of (fun rr hrr => q_iconst hrr) ?_
                  refine rw_blk lk_X10_isPlace_101 ?_
                  refine rw_ret hQ (q_ireturn (by omega)) ?_
                  first
                    | exact ⟨rfl, rfl, rfl⟩
                    | (exfalso; omega)
                  
                · skip
                  refine rw_of (fun rr hrr => q_iload rfl hrr) ?_
                  refine rw_if_eq ⟨by omega, by omega⟩ (t := 100) rfl (fun hc48 => ?_) (fun hc48 => ?_)
                  · skip
                    refine rw_blk lk_X10_isPlace_100 ?_
                    refine rw_of (fun rr hrr => q_iconst hrr) ?_
                    refine rw_blk lk_X10_isPlace_101 ?_
                    refine rw_ret hQ (q_ireturn (by omega)) ?_
                    first
                      | exact ⟨rfl, rfl, rfl⟩
                      | (exfalso; omega)
                    
                  · skip
                    refine rw_of (fun rr hrr => q_iconst (q_goto (t := 101) rfl hrr)) ?_
                    refine rw_blk lk_X10_isPlace_101 ?_
                    refine rw_ret hQ (q_ireturn (by omega)) ?_
                    first
                      | exact ⟨rfl, rfl, rfl⟩
                      | (exfalso; omega)
                    
              · skip
                refine rw_of (fun rr hrr => q_iload rfl (q_iconst (q_aload_n rfl (q_getR (show SH 261 = (18, 0) from rfl) rfl (pt_261_1 hP) (q_iload_n rfl (q_iald (j := s) (show SH 262 = (1, 13) from rfl) rfl (by omega) (ki rfl hm (by omega)) (q_iconst (q_isub hrr)))))))) ?_
                obtain ⟨_, mm49, pp50, hV51, rfl, rfl, rfl⟩ := c_X10_isIn0 (S := S) (fz := fz) (m := m) (p := p) (d := d) (by omega) (j) (0) ((((n : Nat) : Int) - 1)) (by omega) (by omega) (by omega)
                refine rw_of (fun rr hrr => q_invS hV51 rfl rfl (okar_cons rfl (okar_cons rfl (okar_cons rfl okar_nil))) (Nat.le_of_ble_eq_true rfl) hrr) ?_
                refine rw_if_eq ⟨by omega, by omega⟩ (t := 83) rfl (fun hc52 => ?_) (fun hc52 => ?_)
                · skip
                  refine rw_blk lk_X10_isPlace_83 ?_
                  refine rw_of (fun rr hrr => q_iconst hrr) ?_
                  refine rw_blk lk_X10_isPlace_84 ?_
                  refine rw_of (fun rr hrr => q_istore (Nat.le_of_ble_eq_true rfl) rfl (q_iload rfl hrr)) ?_
                  refine rw_if_eq ⟨by omega, by omega⟩ (t := 100) rfl (fun hc53 => ?_) (fun hc53 => ?_)
                  · skip
                    refine rw_blk lk_X10_isPlace_100 ?_
                    refine rw_of (fun rr hrr => q_iconst hrr) ?_
                    refine rw_blk lk_X10_isPlace_101 ?_
                    refine rw_ret hQ (q_ireturn (by omega)) ?_
                    first
                      | exact ⟨rfl, rfl, rfl⟩
                      | (exfalso; omega)
                    
                  · skip
                    refine rw_of (fun rr hrr => q_iload rfl hrr) ?_
                    refine rw_if_eq ⟨by omega, by omega⟩ (t := 100) rfl (fun hc54 => ?_) (fun hc54 => ?_)
                    · skip
                      refine rw_blk lk_X10_isPlace_100 ?_
                      refine rw_of (fun rr hrr => q_iconst hrr) ?_
                      refine rw_blk lk_X10_isPlace_101 ?_
                      refine rw_ret hQ (q_ireturn (by omega)) ?_
                      first
                        | exact ⟨rfl, rfl, rfl⟩
                        | (exfalso; omega)
                      
                    · skip
                      refine rw_of (fun rr hrr => q_iconst (q_goto (t := 101) rfl hrr)) ?_
                      refine rw_blk lk_X10_isPlace_101 ?_
                      refine rw_ret hQ (q_ireturn (by omega)) ?_
                      first
                        | exact ⟨rfl, rfl, rfl⟩
                        | (exfalso; omega)
                      
                · skip
                  refine rw_blk lk_X10_isPlace_79 ?_
                  refine rw_of (fun rr hrr => q_iconst (q_goto (t := 84) rfl hrr)) ?_
                  refine rw_blk lk_X10_isPlace_84 ?_
                  refine rw_of (fun rr hrr => q_istore (Nat.le_of_ble_eq_true rfl) rfl (q_iload rfl hrr)) ?_
                  refine rw_if_eq ⟨by omega, by omega⟩ (t := 100) rfl (fun hc55 => ?_) (fun hc55 => ?_)
                  · skip
                    refine rw_blk lk_X10_isPlace_100 ?_
                    refine rw_of (fun rr hrr => q_iconst hrr) ?_
                    refine rw_blk lk_X10_isPlace_101 ?_
                    refine rw_ret hQ (q_ireturn (by omega)) ?_
                    first
                      | exact ⟨rfl, rfl, rfl⟩
                      | (exfalso; omega)
                    
                  · skip
                    refine rw_of (fun rr hrr => q_iload rfl hrr) ?_
                    refine rw_if_eq ⟨by omega, by omega⟩ (t := 100) rfl (fun hc56 => ?_) (fun hc56 => ?_)
                    · skip
                      refine rw_blk lk_X10_isPlace_100 ?_
                      refine rw_of (fun rr hrr => q_iconst hrr) ?_
                      refine rw_blk lk_X10_isPlace_101 ?_
                      refine rw_ret hQ (q_ireturn (by omega)) ?_
                      first
                        | exact ⟨rfl, rfl, rfl⟩
                        | (exfalso; omega)
                      
                    · skip
                      refine rw_of (fun rr hrr => q_iconst (q_goto (t := 101) rfl hrr)) ?_
                      refine rw_blk lk_X10_isPlace_101 ?_
                      refine rw_ret hQ (q_ireturn (by omega)) ?_
                      first
                        | exact ⟨rfl, rfl, rfl⟩
                        | (exfalso; omega)
                      
          · skip
            refine rw_blk lk_X10_isPlace_45 ?_
            refine rw_of (fun rr hrr => q_iconst (q_goto (t := 50) rfl hrr)) ?_
            refine rw_blk lk_X10_isPlace_50 ?_
            refine rw_of (fun rr hrr => q_istore (Nat.le_of_ble_eq_true rfl) rfl (q_iload_n rfl (q_iconst hrr))) ?_
            refine rw_icmp_eq ⟨by omega, by omega⟩ ⟨by omega, by omega⟩ (t := 79) rfl (fun hc57 => ?_) (fun hc57 => ?_)
            · skip
              refine rw_blk lk_X10_isPlace_79 ?_
              refine rw_of (fun rr hrr => q_iconst (q_goto (t := 84) rfl hrr)) ?_
              refine rw_blk lk_X10_isPlace_84 ?_
              refine rw_of (fun rr hrr => q_istore (Nat.le_of_ble_eq_true rfl) rfl (q_iload rfl hrr)) ?_
              refine rw_if_eq ⟨by omega, by omega⟩ (t := 100) rfl (fun hc58 => ?_) (fun hc58 => ?_)
              · skip
                refine rw_blk lk_X10_isPlace_100 ?_
                refine rw_of (fun rr hrr => q_iconst hrr) ?_
                refine rw_blk lk_X10_isPlace_101 ?_
                refine rw_ret hQ (q_ireturn (by omega)) ?_
                first
                  | exact ⟨rfl, rfl, rfl⟩
                  | (exfalso; omega)
                
              · skip
                refine rw_of (fun rr hrr => q_iload rfl hrr) ?_
                refine rw_if_eq ⟨by omega, by omega⟩ (t := 100) rfl (fun hc59 => ?_) (fun hc59 => ?_)
                · skip
                  refine rw_blk lk_X10_isPlace_100 ?_
                  refine rw_of (fun rr hrr => q_iconst hrr) ?_
                  refine rw_blk lk_X10_isPlace_101 ?_
                  refine rw_ret hQ (q_ireturn (by omega)) ?_
                  first
                    | exact ⟨rfl, rfl, rfl⟩
                    | (exfalso; omega)
                  
                · skip
                  refine rw_of (fun rr hrr => q_iconst (q_goto (t := 101) rfl hrr)) ?_
                  refine rw_blk lk_X10_isPlace_101 ?_
                  refine rw_ret hQ (q_ireturn (by omega)) ?_
                  first
                    | exact ⟨rfl, rfl, rfl⟩
                    | (exfalso; omega)
                  
            · skip
              refine rw_of (fun rr hrr => q_iload_n rfl (q_iconst hrr)) ?_
              refine rw_icmp_eq ⟨by omega, by omega⟩ ⟨by omega, by omega⟩ (t := 79) rfl (fun hc60 => ?_) (fun hc60 => ?_)
              · skip
                refine rw_blk lk_X10_isPlace_79 ?_
                refine rw_of (fun rr hrr => q_iconst (q_goto (t := 84) rfl hrr)) ?_
                refine rw_blk lk_X10_isPlace_84 ?_
                refine rw_of (fun rr hrr => q_istore (Nat.le_of_ble_eq_true rfl) rfl (q_iload rfl hrr)) ?_
                refine rw_if_eq ⟨by omega, by omega⟩ (t := 100) rfl (fun hc61 => ?_) (fun hc61 => ?_)
                · skip
                  refine rw_blk lk_X10_isPlace_100 ?_
                  refine rw_of (fun rr hrr => q_iconst hrr) ?_
                  refine rw_blk lk_X10_isPlace_101 ?_
                  refine rw_ret hQ (q_ireturn (by omega)) ?_
                  first
                    | exact ⟨rfl, rfl, rfl⟩
                    | (exfalso; omega)
                  
                · skip
                  refine rw_of (fun rr hrr => q_iload rfl hrr) ?_
                  refine rw_if_eq ⟨by omega, by omega⟩ (t := 100) rfl (fun hc62 => ?_) (fun hc62 => ?_)
                  · skip
                    refine rw_blk lk_X10_isPlace_100 ?_
                    refine rw_of (fun rr hrr => q_iconst hrr) ?_
                    refine rw_blk lk_X10_isPlace_101 ?_
                    refine rw_ret hQ (q_ireturn (by omega)) ?_
                    first
                      | exact ⟨rfl, rfl, rfl⟩
                      | (exfalso; omega)
                    
                  · skip
                    refine rw_of (fun rr hrr => q_iconst (q_goto (t := 101) rfl hrr)) ?_
                    refine rw_blk lk_X10_isPlace_101 ?_
                    refine rw_ret hQ (q_ireturn (by omega)) ?_
                    first
                      | exact ⟨rfl, rfl, rfl⟩
                      | (exfalso; omega)
                    
              · skip
                refine rw_of (fun rr hrr => q_iload rfl (q_iconst (q_aload_n rfl (q_getR (show SH 261 = (18, 0) from rfl) rfl (pt_261_1 hP) (q_iload_n rfl (q_iald (j := s) (show SH 262 = (1, 13) from rfl) rfl (by omega) (ki rfl hm (by omega)) (q_iconst (q_isub hrr)))))))) ?_
                obtain ⟨_, mm63, pp64, hV65, rfl, rfl, rfl⟩ := c_X10_isIn0 (S := S) (fz := fz) (m := m) (p := p) (d := d) (by omega) (j) (0) ((((n : Nat) : Int) - 1)) (by omega) (by omega) (by omega)
                refine rw_of (fun rr hrr => q_invS hV65 rfl rfl (okar_cons rfl (okar_cons rfl (okar_cons rfl okar_nil))) (Nat.le_of_ble_eq_true rfl) hrr) ?_
                refine rw_if_eq ⟨by omega, by omega⟩ (t := 83) rfl (fun hc66 => ?_) (fun hc66 => ?_)
                · skip
                  refine rw_blk lk_X10_isPlace_83 ?_
                  refine rw_of (fun rr hrr => q_iconst hrr) ?_
                  refine rw_blk lk_X10_isPlace_84 ?_
                  refine rw_of (fun rr hrr => q_istore (Nat.le_of_ble_eq_true rfl) rfl (q_iload rfl hrr)) ?_
                  refine rw_if_eq ⟨by omega, by omega⟩ (t := 100) rfl (fun hc67 => ?_) (fun hc67 => ?_)
                  · skip
                    refine rw_blk lk_X10_isPlace_100 ?_
                    refine rw_of (fun rr hrr => q_iconst hrr) ?_
                    refine rw_blk lk_X10_isPlace_101 ?_
                    refine rw_ret hQ (q_ireturn (by omega)) ?_
                    first
                      | exact ⟨rfl, rfl, rfl⟩
                      | (exfalso; omega)
                    
                  · skip
                    refine rw_of (fun rr hrr => q_iload rfl hrr) ?_
                    refine rw_if_eq ⟨by omega, by omega⟩ (t := 100) rfl (fun hc68 => ?_) (fun hc68 => ?_)
                    · skip
                      refine rw_blk lk_X10_isPlace_100 ?_
                      refine rw_of (fun rr hrr => q_iconst hrr) ?_
                      refine rw_blk lk_X10_isPlace_101 ?_
                      refine rw_ret hQ (q_ireturn (by omega)) ?_
                      first
                        | exact ⟨rfl, rfl, rfl⟩
                        | (exfalso; omega)
                      
                    · skip
                      refine rw_of (fun rr hrr => q_iconst (q_goto (t := 101) rfl hrr)) ?_
                      refine rw_blk lk_X10_isPlace_101 ?_
                      refine rw_ret hQ (q_ireturn (by omega)) ?_
                      first
                        | exact ⟨rfl, rfl, rfl⟩
                        | (exfalso; omega)
                      
                · skip
                  refine rw_blk lk_X10_isPlace_79 ?_
                  refine rw_of (fun rr hrr => q_iconst (q_goto (t := 84) rfl hrr)) ?_
                  refine rw_blk lk_X10_isPlace_84 ?_
                  refine rw_of (fun rr hrr => q_istore (Nat.le_of_ble_eq_true rfl) rfl (q_iload rfl hrr)) ?_
                  refine rw_if_eq ⟨by omega, by omega⟩ (t := 100) rfl (fun hc69 => ?_) (fun hc69 => ?_)
                  · skip
                    refine rw_blk lk_X10_isPlace_100 ?_
                    refine rw_of (fun rr hrr => q_iconst hrr) ?_
                    refine rw_blk lk_X10_isPlace_101 ?_
                    refine rw_ret hQ (q_ireturn (by omega)) ?_
                    first
                      | exact ⟨rfl, rfl, rfl⟩
                      | (exfalso; omega)
                    
                  · skip
                    refine rw_of (fun rr hrr => q_iload rfl hrr) ?_
                    refine rw_if_eq ⟨by omega, by omega⟩ (t := 100) rfl (fun hc70 => ?_) (fun hc70 => ?_)
                    · skip
                      refine rw_blk lk_X10_isPlace_100 ?_
                      refine rw_of (fun rr hrr => q_iconst hrr) ?_
                      refine rw_blk lk_X10_isPlace_101 ?_
                      refine rw_ret hQ (q_ireturn (by omega)) ?_
                      first
                        | exact ⟨rfl, rfl, rfl⟩
                        | (exfalso; omega)
                      
                    · skip
                      refine rw_of (fun rr hrr => q_iconst (q_goto (t := 101) rfl hrr)) ?_
                      refine rw_blk lk_X10_isPlace_101 ?_
                      refine rw_ret hQ (q_ireturn (by omega)) ?_
                      first
                        | exact ⟨rfl, rfl, rfl⟩
                        | (exfalso; omega)
                      
    · skip
      refine rw_blk lk_X10_isPlace_17 ?_
      refine rw_of (fun rr hrr => q_iconst hrr) ?_
      refine rw_ret hQ (q_ireturn (by omega)) ?_
      first
        | exact ⟨rfl, rfl, rfl⟩
        | (exfalso; omega)
      
theorem c_X10_isPlace3_11 {d : Nat} {S : MC} {fz : Bool} {m : M1} {p : M2} (hd : 3 ≤ d) (s k n : Nat) (i j : Int) (hP : PI p) (hk : m 261 0 = nF k) (hk12 : k ≤ 12) (hsk : s < k) (hm : m 262 s = nF n) (hn0 : 1 ≤ n) (hn : n ≤ 8) (hri : (-2147483648 ≤ i ∧ i < 2147483648)) (hrj : (-2147483648 ≤ j ∧ j < 2147483648)) : Ct d k_X10_isPlace S fz [.ref (261), .int (iI (((s : Nat) : Int))), .int (iI (3)), .int (iI (i)), .int (iI (j))] m p (fun v m' p' => v = some (.int (iI (1))) ∧ m = m' ∧ p = p') := by
  obtain ⟨d, rfl⟩ : ∃ e, d = e + 1 := ⟨d - 1, by omega⟩
  refine ct_go (lv := [some (.ref (261)), some (.int (iI (((s : Nat) : Int)))), some (.int (iI (3))), some (.int (iI (i))), some (.int (iI (j))), none, none]) (Nat.le_of_ble_eq_true rfl) (okar_cons rfl (okar_cons rfl (okar_cons rfl (okar_cons rfl (okar_cons rfl okar_nil))))) rfl (fun Qr hQ => ?_)
  refine rw_blk lk_X10_isPlace_0 ?_
  refine rw_of (fun rr hrr => q_aload_n rfl (q_iload_n rfl hrr)) ?_
  obtain ⟨_, mm1, pp2, hV3, rfl, rfl, rfl⟩ := c_X10_isSystem1 (S := S) (fz := fz) (m := m) (p := p) (d := d) (by omega) (((s : Nat) : Int)) (k) hP hk (by omega) (by omega) (by omega)
  refine rw_of (fun rr hrr => q_invV hV3 (show SH 261 = (18, 0) from rfl) rfl rfl (okar_cons rfl okar_nil) (Nat.le_of_ble_eq_true rfl) hrr) ?_
  refine rw_if_eq ⟨by omega, by omega⟩ (t := 17) rfl (fun hc4 => ?_) (fun hc4 => ?_)
  · skip
    refine rw_blk lk_X10_isPlace_17 ?_
    refine rw_of (fun rr hrr => q_iconst hrr) ?_
    refine rw_ret hQ (q_ireturn (by omega)) ?_
    first
      | exact ⟨rfl, rfl, rfl⟩
      | (exfalso; omega)
    
  · skip
    refine rw_of (fun rr hrr => q_iload_n rfl (q_iconst (q_iconst hrr))) ?_
    obtain ⟨_, mm5, pp6, hV7, rfl, rfl, rfl⟩ := c_X10_isIn1 (S := S) (fz := fz) (m := m) (p := p) (d := d) (by omega) (3) (0) (3) (by omega) (by omega) (by omega)
    refine rw_of (fun rr hrr => q_invS hV7 rfl rfl (okar_cons rfl (okar_cons rfl (okar_cons rfl okar_nil))) (Nat.le_of_ble_eq_true rfl) hrr) ?_
    refine rw_if_ne ⟨by omega, by omega⟩ (t := 19) rfl (fun hc8 => ?_) (fun hc8 => ?_)
    · skip
      refine rw_blk lk_X10_isPlace_19 ?_
      refine rw_of (fun rr hrr => q_iload_n rfl (q_iconst hrr)) ?_
      refine rw_icmp_eq ⟨by omega, by omega⟩ ⟨by omega, by omega⟩ (t := 45) rfl (fun hc9 => ?_) (fun hc9 => ?_)
      · skip
        refine rw_blk lk_X10_isPlace_45 ?_
        refine rw_of (fun rr hrr => q_iconst (q_goto (t := 50) rfl hrr)) ?_
        refine rw_blk lk_X10_isPlace_50 ?_
        refine rw_of (fun rr hrr => q_istore (Nat.le_of_ble_eq_true rfl) rfl (q_iload_n rfl (q_iconst hrr))) ?_
        refine rw_icmp_eq ⟨by omega, by omega⟩ ⟨by omega, by omega⟩ (t := 79) rfl (fun hc10 => ?_) (fun hc10 => ?_)
        · skip
          refine rw_blk lk_X10_isPlace_79 ?_
          refine rw_of (fun rr hrr => q_iconst (q_goto (t := 84) rfl hrr)) ?_
          refine rw_blk lk_X10_isPlace_84 ?_
          refine rw_of (fun rr hrr => q_istore (Nat.le_of_ble_eq_true rfl) rfl (q_iload rfl hrr)) ?_
          refine rw_if_eq ⟨by omega, by omega⟩ (t := 100) rfl (fun hc11 => ?_) (fun hc11 => ?_)
          · skip
            refine rw_blk lk_X10_isPlace_100 ?_
            refine rw_of (fun rr hrr => q_iconst hrr) ?_
            refine rw_blk lk_X10_isPlace_101 ?_
            refine rw_ret hQ (q_ireturn (by omega)) ?_
            first
              | exact ⟨rfl, rfl, rfl⟩
              | (exfalso; omega)
            
          · skip
            refine rw_of (fun rr hrr => q_iload rfl hrr) ?_
            refine rw_if_eq ⟨by omega, by omega⟩ (t := 100) rfl (fun hc12 => ?_) (fun hc12 => ?_)
            · skip
              refine rw_blk lk_X10_isPlace_100 ?_
              refine rw_of (fun rr hrr => q_iconst hrr) ?_
              refine rw_blk lk_X10_isPlace_101 ?_
              refine rw_ret hQ (q_ireturn (by omega)) ?_
              first
                | exact ⟨rfl, rfl, rfl⟩
                | (exfalso; omega)
              
            · skip
              refine rw_of (fun rr hrr => q_iconst (q_goto (t := 101) rfl hrr)) ?_
              refine rw_blk lk_X10_isPlace_101 ?_
              refine rw_ret hQ (q_ireturn (by omega)) ?_
              first
                | exact ⟨rfl, rfl, rfl⟩
                | (exfalso; omega)
              
        · skip
          refine rw_of (fun rr hrr => q_iload_n rfl (q_iconst hrr)) ?_
          refine rw_icmp_eq ⟨by omega, by omega⟩ ⟨by omega, by omega⟩ (t := 79) rfl (fun hc13 => ?_) (fun hc13 => ?_)
          · skip
            refine rw_blk lk_X10_isPlace_79 ?_
            refine rw_of (fun rr hrr => q_iconst (q_goto (t := 84) rfl hrr)) ?_
            refine rw_blk lk_X10_isPlace_84 ?_
            refine rw_of (fun rr hrr => q_istore (Nat.le_of_ble_eq_true rfl) rfl (q_iload rfl hrr)) ?_
            refine rw_if_eq ⟨by omega, by omega⟩ (t := 100) rfl (fun hc14 => ?_) (fun hc14 => ?_)
            · skip
              refine rw_blk lk_X10_isPlace_100 ?_
              refine rw_of (fun rr hrr => q_iconst hrr) ?_
              refine rw_blk lk_X10_isPlace_101 ?_
              refine rw_ret hQ (q_ireturn (by omega)) ?_
              first
                | exact ⟨rfl, rfl, rfl⟩
                | (exfalso; omega)
              
            · skip
              refine rw_of (fun rr hrr => q_iload rfl hrr) ?_
              refine rw_if_eq ⟨by omega, by omega⟩ (t := 100) rfl (fun hc15 => ?_) (fun hc15 => ?_)
              · skip
                refine rw_blk lk_X10_isPlace_100 ?_
                refine rw_of (fun rr hrr => q_iconst hrr) ?_
                refine rw_blk lk_X10_isPlace_101 ?_
                refine rw_ret hQ (q_ireturn (by omega)) ?_
                first
                  | exact ⟨rfl, rfl, rfl⟩
                  | (exfalso; omega)
                
              · skip
                refine rw_of (fun rr hrr => q_iconst (q_goto (t := 101) rfl hrr)) ?_
                refine rw_blk lk_X10_isPlace_101 ?_
                refine rw_ret hQ (q_ireturn (by omega)) ?_
                first
                  | exact ⟨rfl, rfl, rfl⟩
                  | (exfalso; omega)
                
          · skip
            refine rw_of (fun rr hrr => q_iload rfl (q_iconst (q_aload_n rfl (q_getR (show SH 261 = (18, 0) from rfl) rfl (pt_261_1 hP) (q_iload_n rfl (q_iald (j := s) (show SH 262 = (1, 13) from rfl) rfl (by omega) (ki rfl hm (by omega)) (q_iconst (q_isub hrr)))))))) ?_
            obtain ⟨_, mm16, pp17, hV18, rfl, rfl, rfl⟩ := c_X10_isIn1 (S := S) (fz := fz) (m := m) (p := p) (d := d) (by omega) (j) (0) ((((n : Nat) : Int) - 1)) (by omega) (by omega) (by omega)
            refine rw_of (fun rr hrr => q_invS hV18 rfl rfl (okar_cons rfl (okar_cons rfl (okar_cons rfl okar_nil))) (Nat.le_of_ble_eq_true rfl) hrr) ?_
            refine rw_if_eq ⟨by omega, by omega⟩ (t := 83) rfl (fun hc19 => ?_) (fun hc19 => ?_)
            · skip
              refine rw_blk lk_X10_isPlace_83 ?_
              refine rw_of (fun rr hrr => q_iconst hrr) ?_
              refine rw_blk lk_X10_isPlace_84 ?_
              refine rw_of (fun rr hrr => q_istore (Nat.le_of_ble_eq_true rfl) rfl (q_iload rfl hrr)) ?_
              refine rw_if_eq ⟨by omega, by omega⟩ (t := 100) rfl (fun hc20 => ?_) (fun hc20 => ?_)
              · skip
                refine rw_blk lk_X10_isPlace_100 ?_
                refine rw_of (fun rr hrr => q_iconst hrr) ?_
                refine rw_blk lk_X10_isPlace_101 ?_
                refine rw_ret hQ (q_ireturn (by omega)) ?_
                first
                  | exact ⟨rfl, rfl, rfl⟩
                  | (exfalso; omega)
                
              · skip
                refine rw_of (fun rr hrr => q_iload rfl hrr) ?_
                refine rw_if_eq ⟨by omega, by omega⟩ (t := 100) rfl (fun hc21 => ?_) (fun hc21 => ?_)
                · skip
                  refine rw_blk lk_X10_isPlace_100 ?_
                  refine rw_of (fun rr hrr => q_iconst hrr) ?_
                  refine rw_blk lk_X10_isPlace_101 ?_
                  refine rw_ret hQ (q_ireturn (by omega)) ?_
                  first
                    | exact ⟨rfl, rfl, rfl⟩
                    | (exfalso; omega)
                  
                · skip
                  refine rw_of (fun rr hrr => q_iconst (q_goto (t := 101) rfl hrr)) ?_
                  refine rw_blk lk_X10_isPlace_101 ?_
                  refine rw_ret hQ (q_ireturn (by omega)) ?_
                  first
                    | exact ⟨rfl, rfl, rfl⟩
                    | (exfalso; omega)
                  
            · skip
              refine rw_blk lk_X10_isPlace_79 ?_
              refine rw_of (fun rr hrr => q_iconst (q_goto (t := 84) rfl hrr)) ?_
              refine rw_blk lk_X10_isPlace_84 ?_
              refine rw_of (fun rr hrr => q_istore (Nat.le_of_ble_eq_true rfl) rfl (q_iload rfl hrr)) ?_
              refine rw_if_eq ⟨by omega, by omega⟩ (t := 100) rfl (fun hc22 => ?_) (fun hc22 => ?_)
              · skip
                refine rw_blk lk_X10_isPlace_100 ?_
                refine rw_of (fun rr hrr => q_iconst hrr) ?_
                refine rw_blk lk_X10_isPlace_101 ?_
                refine rw_ret hQ (q_ireturn (by omega)) ?_
                first
                  | exact ⟨rfl, rfl, rfl⟩
                  | (exfalso; omega)
                
              · skip
                refine rw_of (fun rr hrr => q_iload rfl hrr) ?_
                refine rw_if_eq ⟨by omega, by omega⟩ (t := 100) rfl (fun hc23 => ?_) (fun hc23 => ?_)
                · skip
                  refine rw_blk lk_X10_isPlace_100 ?_
                  refine rw_of (fun rr hrr => q_iconst hrr) ?_
                  refine rw_blk lk_X10_isPlace_101 ?_
                  refine rw_ret hQ (q_ireturn (by omega)) ?_
                  first
                    | exact ⟨rfl, rfl, rfl⟩
                    | (exfalso; omega)
                  
                · skip
                  refine rw_of (fun rr hrr => q_iconst (q_goto (t := 101) rfl hrr)) ?_
                  refine rw_blk lk_X10_isPlace_101 ?_
                  refine rw_ret hQ (q_ireturn (by omega)) ?_
                  first
                    | exact ⟨rfl, rfl, rfl⟩
                    | (exfalso; omega)
                  
      · skip
        refine rw_of (fun rr hrr => q_iload_n rfl (q_iconst hrr)) ?_
        refine rw_icmp_eq ⟨by omega, by omega⟩ ⟨by omega, by omega⟩ (t := 45) rfl (fun hc24 => ?_) (fun hc24 => ?_)
        · skip
          refine rw_blk lk_X10_isPlace_45 ?_
          refine rw_of (fun rr hrr => q_iconst (q_goto (t := 50) rfl hrr)) ?_
          refine rw_blk lk_X10_isPlace_50 ?_
          refine rw_of (fun rr hrr => q_istore (Nat.le_of_ble_eq_true rfl) rfl (q_iload_n rfl (q_iconst hrr))) ?_
          refine rw_icmp_eq ⟨by omega, by omega⟩ ⟨by omega, by omega⟩ (t := 79) rfl (fun hc25 => ?_) (fun hc25 => ?_)
          · skip
            refine rw_blk lk_X10_isPlace_79 ?_
            refine rw_of (fun rr hrr => q_iconst (q_goto (t := 84) rfl hrr)) ?_
            refine rw_blk lk_X10_isPlace_84 ?_
            refine rw_of (fun rr hrr => q_istore (Nat.le_of_ble_eq_true rfl) rfl (q_iload rfl hrr)) ?_
            refine rw_if_eq ⟨by omega, by omega⟩ (t := 100) rfl (fun hc26 => ?_) (fun hc26 => ?_)
            · skip
              refine rw_blk lk_X10_isPlace_100 ?_
              refine rw_of (fun rr hrr => q_iconst hrr) ?_
              refine rw_blk lk_X10_isPlace_101 ?_
              refine rw_ret hQ (q_ireturn (by omega)) ?_
              first
                | exact ⟨rfl, rfl, rfl⟩
                | (exfalso; omega)
              
            · skip
              refine rw_of (fun rr hrr => q_iload rfl hrr) ?_
              refine rw_if_eq ⟨by omega, by omega⟩ (t := 100) rfl (fun hc27 => ?_) (fun hc27 => ?_)
              · skip
                refine rw_blk lk_X10_isPlace_100 ?_
                refine rw_of (fun rr hrr => q_iconst hrr) ?_
                refine rw_blk lk_X10_isPlace_101 ?_
                refine rw_ret hQ (q_ireturn (by omega)) ?_
                first
                  | exact ⟨rfl, rfl, rfl⟩
                  | (exfalso; omega)
                
              · skip
                refine rw_of (fun rr hrr => q_iconst (q_goto (t := 101) rfl hrr)) ?_
                refine rw_blk lk_X10_isPlace_101 ?_
                refine rw_ret hQ (q_ireturn (by omega)) ?_
                first
                  | exact ⟨rfl, rfl, rfl⟩
                  | (exfalso; omega)
                
          · skip
            refine rw_of (fun rr hrr => q_iload_n rfl (q_iconst hrr)) ?_
            refine rw_icmp_eq ⟨by omega, by omega⟩ ⟨by omega, by omega⟩ (t := 79) rfl (fun hc28 => ?_) (fun hc28 => ?_)
            · skip
              refine rw_blk lk_X10_isPlace_79 ?_
              refine rw_of (fun rr hrr => q_iconst (q_goto (t := 84) rfl hrr)) ?_
              refine rw_blk lk_X10_isPlace_84 ?_
              refine rw_of (fun rr hrr => q_istore (Nat.le_of_ble_eq_true rfl) rfl (q_iload rfl hrr)) ?_
              refine rw_if_eq ⟨by omega, by omega⟩ (t := 100) rfl (fun hc29 => ?_) (fun hc29 => ?_)
              · skip
                refine rw_blk lk_X10_isPlace_100 ?_
                refine rw_of (fun rr hrr => q_iconst hrr) ?_
                refine rw_blk lk_X10_isPlace_101 ?_
                refine rw_ret hQ (q_ireturn (by omega)) ?_
                first
                  | exact ⟨rfl, rfl, rfl⟩
                  | (exfalso; omega)
                
              · skip
                refine rw_of (fun rr hrr => q_iload rfl hrr) ?_
                refine rw_if_eq ⟨by omega, by omega⟩ (t := 100) rfl (fun hc30 => ?_) (fun hc30 => ?_)
                · skip
                  refine rw_blk lk_X10_isPlace_100 ?_
                  refine rw_of (fun rr hrr => q_iconst hrr) ?_
                  refine rw_blk lk_X10_isPlace_101 ?_
                  refine rw_ret hQ (q_ireturn (by omega)) ?_
                  first
                    | exact ⟨rfl, rfl, rfl⟩
                    | (exfalso; omega)
                  
                · skip
                  refine rw_of (fun rr hrr => q_iconst (q_goto (t := 101) rfl hrr)) ?_
                  refine rw_blk lk_X10_isPlace_101 ?_
                  refine rw_ret hQ (q_ireturn (by omega)) ?_
                  first
                    | exact ⟨rfl, rfl, rfl⟩
                    | (exfalso; omega)
                  
            · skip
              refine rw_of (fun rr hrr => q_iload rfl (q_iconst (q_aload_n rfl (q_getR (show SH 261 = (18, 0) from rfl) rfl (pt_261_1 hP) (q_iload_n rfl (q_iald (j := s) (show SH 262 = (1, 13) from rfl) rfl (by omega) (ki rfl hm (by omega)) (q_iconst (q_isub hrr)))))))) ?_
              obtain ⟨_, mm31, pp32, hV33, rfl, rfl, rfl⟩ := c_X10_isIn1 (S := S) (fz := fz) (m := m) (p := p) (d := d) (by omega) (j) (0) ((((n : Nat) : Int) - 1)) (by omega) (by omega) (by omega)
              refine rw_of (fun rr hrr => q_invS hV33 rfl rfl (okar_cons rfl (okar_cons rfl (okar_cons rfl okar_nil))) (Nat.le_of_ble_eq_true rfl) hrr) ?_
              refine rw_if_eq ⟨by omega, by omega⟩ (t := 83) rfl (fun hc34 => ?_) (fun hc34 => ?_)
              · skip
                refine rw_blk lk_X10_isPlace_83 ?_
                refine rw_of (fun rr hrr => q_iconst hrr) ?_
                refine rw_blk lk_X10_isPlace_84 ?_
                refine rw_of (fun rr hrr => q_istore (Nat.le_of_ble_eq_true rfl) rfl (q_iload rfl hrr)) ?_
                refine rw_if_eq ⟨by omega, by omega⟩ (t := 100) rfl (fun hc35 => ?_) (fun hc35 => ?_)
                · skip
                  refine rw_blk lk_X10_isPlace_100 ?_
                  refine rw_of (fun rr hrr => q_iconst hrr) ?_
                  refine rw_blk lk_X10_isPlace_101 ?_
                  refine rw_ret hQ (q_ireturn (by omega)) ?_
                  first
                    | exact ⟨rfl, rfl, rfl⟩
                    | (exfalso; omega)
                  
                · skip
                  refine rw_of (fun rr hrr => q_iload rfl hrr) ?_
                  refine rw_if_eq ⟨by omega, by omega⟩ (t := 100) rfl (fun hc36 => ?_) (fun hc36 => ?_)
                  · skip
                    refine rw_blk lk_X10_isPlace_100 ?_
                    refine rw_of (fun rr hrr => q_iconst hrr) ?_
                    refine rw_blk lk_X10_isPlace_101 ?_
                    refine rw_ret hQ (q_ireturn (by omega)) ?_
                    first
                      | exact ⟨rfl, rfl, rfl⟩
                      | (exfalso; omega)
                    
                  · skip
                    refine rw_of (fun rr hrr => q_iconst (q_goto (t := 101) rfl hrr)) ?_
                    refine rw_blk lk_X10_isPlace_101 ?_
                    refine rw_ret hQ (q_ireturn (by omega)) ?_
                    first
                      | exact ⟨rfl, rfl, rfl⟩
                      | (exfalso; omega)
                    
              · skip
                refine rw_blk lk_X10_isPlace_79 ?_
                refine rw_of (fun rr hrr => q_iconst (q_goto (t := 84) rfl hrr)) ?_
                refine rw_blk lk_X10_isPlace_84 ?_
                refine rw_of (fun rr hrr => q_istore (Nat.le_of_ble_eq_true rfl) rfl (q_iload rfl hrr)) ?_
                refine rw_if_eq ⟨by omega, by omega⟩ (t := 100) rfl (fun hc37 => ?_) (fun hc37 => ?_)
                · skip
                  refine rw_blk lk_X10_isPlace_100 ?_
                  refine rw_of (fun rr hrr => q_iconst hrr) ?_
                  refine rw_blk lk_X10_isPlace_101 ?_
                  refine rw_ret hQ (q_ireturn (by omega)) ?_
                  first
                    | exact ⟨rfl, rfl, rfl⟩
                    | (exfalso; omega)
                  
                · skip
                  refine rw_of (fun rr hrr => q_iload rfl hrr) ?_
                  refine rw_if_eq ⟨by omega, by omega⟩ (t := 100) rfl (fun hc38 => ?_) (fun hc38 => ?_)
                  · skip
                    refine rw_blk lk_X10_isPlace_100 ?_
                    refine rw_of (fun rr hrr => q_iconst hrr) ?_
                    refine rw_blk lk_X10_isPlace_101 ?_
                    refine rw_ret hQ (q_ireturn (by omega)) ?_
                    first
                      | exact ⟨rfl, rfl, rfl⟩
                      | (exfalso; omega)
                    
                  · skip
                    refine rw_of (fun rr hrr => q_iconst (q_goto (t := 101) rfl hrr)) ?_
                    refine rw_blk lk_X10_isPlace_101 ?_
                    refine rw_ret hQ (q_ireturn (by omega)) ?_
                    first
                      | exact ⟨rfl, rfl, rfl⟩
                      | (exfalso; omega)
                    
        · skip
          refine rw_of (fun rr hrr => q_iload_n rfl (q_iconst (q_aload_n rfl (q_getR (show SH 261 = (18, 0) from rfl) rfl (pt_261_1 hP) (q_iload_n rfl (q_iald (j := s) (show SH 262 = (1, 13) from rfl) rfl (by omega) (ki rfl hm (by omega)) (q_iconst (q_isub hrr)))))))) ?_
          obtain ⟨_, mm39, pp40, hV41, rfl, rfl, rfl⟩ := c_X10_isIn1 (S := S) (fz := fz) (m := m) (p := p) (d := d) (by omega) (i) (0) ((((n : Nat) : Int) - 1)) (by omega) (by omega) (by omega)
          refine rw_of (fun rr hrr => q_invS hV41 rfl rfl (okar_cons rfl (okar_cons rfl (okar_cons rfl okar_nil))) (Nat.le_of_ble_eq_true rfl) hrr) ?_
          refine rw_if_eq ⟨by omega, by omega⟩ (t := 49) rfl (fun hc42 => ?_) (fun hc42 => ?_)
          · skip
            refine rw_blk lk_X10_isPlace_49 ?_
            refine rw_of (fun rr hrr => q_iconst hrr) ?_
            refine rw_blk lk_X10_isPlace_50 ?_
            refine rw_of (fun rr hrr => q_istore (Nat.le_of_ble_eq_true rfl) rfl (q_iload_n rfl (q_iconst hrr))) ?_
            refine rw_icmp_eq ⟨by omega, by omega⟩ ⟨by omega, by omega⟩ (t := 79) rfl (fun hc43 => ?_) (fun hc43 => ?_)
            · skip
              refine rw_blk lk_X10_isPlace_79 ?_
              refine rw_of (fun rr hrr => q_iconst (q_goto (t := 84) rfl hrr)) ?_
              refine rw_blk lk_X10_isPlace_84 ?_
              refine rw_of (fun rr hrr => q_istore (Nat.le_of_ble_eq_true rfl) rfl (q_iload rfl hrr)) ?_
              refine rw_if_eq ⟨by omega, by omega⟩ (t := 100) rfl (fun hc44 => ?_) (fun hc44 => ?_)
              · skip
                refine rw_blk lk_X10_isPlace_100 ?_
                refine rw_of (fun rr hrr => q_iconst hrr) ?_
                refine rw_blk lk_X10_isPlace_101 ?_
                refine rw_ret hQ (q_ireturn (by omega)) ?_
                first
                  | exact ⟨rfl, rfl, rfl⟩
                  | (exfalso; omega)
                
              · skip
                refine rw_of (fun rr hrr => q_iload rfl hrr) ?_
                refine rw_if_eq ⟨by omega, by omega⟩ (t := 100) rfl (fun hc45 => ?_) (fun hc45 => ?_)
                · skip
                  refine rw_blk lk_X10_isPlace_100 ?_
                  refine rw_of (fun rr hrr => q_iconst hrr) ?_
                  refine rw_blk lk_X10_isPlace_101 ?_
                  refine rw_ret hQ (q_ireturn (by omega)) ?_
                  first
                    | exact ⟨rfl, rfl, rfl⟩
                    | (exfalso; omega)
                  
                · skip
                  refine rw_of (fun rr hrr => q_iconst (q_goto (t := 101) rfl hrr)) ?_
                  refine rw_blk lk_X10_isPlace_101 ?_
                  refine rw_ret hQ (q_ireturn (by omega)) ?_
                  first
                    | exact ⟨rfl, rfl, rfl⟩
                    | (exfalso; omega)
                  
            · skip
              refine rw_of (fun rr hrr => q_iload_n rfl (q_iconst hrr)) ?_
              refine rw_icmp_eq ⟨by omega, by omega⟩ ⟨by omega, by omega⟩ (t := 79) rfl (fun hc46 => ?_) (fun hc46 => ?_)
              · skip
                refine rw_blk lk_X10_isPlace_79 ?_
                refine rw_of (fun rr hrr => q_iconst (q_goto (t := 84) rfl hrr)) ?_
                refine rw_blk lk_X10_isPlace_84 ?_
                refine rw_of (fun rr hrr => q_istore (Nat.le_of_ble_eq_true rfl) rfl (q_iload rfl hrr)) ?_
                refine rw_if_eq ⟨by omega, by omega⟩ (t := 100) rfl (fun hc47 => ?_) (fun hc47 => ?_)
                · skip
                  refine rw_blk lk_X10_isPlace_100 ?_
                  refine rw_of (fun rr hrr => q_iconst hrr) ?_
                  refine rw_blk lk_X10_isPlace_101 ?_
                  refine rw_ret hQ (q_ireturn (by omega)) ?_
                  first
                    | exact ⟨rfl, rfl, rfl⟩
                    | (exfalso; omega)
                  
                · skip
                  refine rw_of (fun rr hrr => q_iload rfl hrr) ?_
                  refine rw_if_eq ⟨by omega, by omega⟩ (t := 100) rfl (fun hc48 => ?_) (fun hc48 => ?_)
                  · skip
                    refine rw_blk lk_X10_isPlace_100 ?_
                    refine rw_of (fun rr hrr => q_iconst hrr) ?_
                    refine rw_blk lk_X10_isPlace_101 ?_
                    refine rw_ret hQ (q_ireturn (by omega)) ?_
                    first
                      | exact ⟨rfl, rfl, rfl⟩
                      | (exfalso; omega)
                    
                  · skip
                    refine rw_of (fun rr hrr => q_iconst (q_goto (t := 101) rfl hrr)) ?_
                    refine rw_blk lk_X10_isPlace_101 ?_
                    refine rw_ret hQ (q_ireturn (by omega)) ?_
                    first
                      | exact ⟨rfl, rfl, rfl⟩
                      | (exfalso; omega)
                    
              · skip
                refine rw_of (fun rr hrr => q_iload rfl (q_iconst (q_aload_n rfl (q_getR (show SH 261 = (18, 0) from rfl) rfl (pt_261_1 hP) (q_iload_n rfl (q_iald (j := s) (show SH 262 = (1, 13) from rfl) rfl (by omega) (ki rfl hm (by omega)) (q_iconst (q_isub hrr)))))))) ?_
                obtain ⟨_, mm49, pp50, hV51, rfl, rfl, rfl⟩ := c_X10_isIn1 (S := S) (fz := fz) (m := m) (p := p) (d := d) (by omega) (j) (0) ((((n : Nat) : Int) - 1)) (by omega) (by omega) (by omega)
                refine rw_of (fun rr hrr => q_invS hV51 rfl rfl (okar_cons rfl (okar_cons rfl (okar_cons rfl okar_nil))) (Nat.le_of_ble_eq_true rfl) hrr) ?_
                refine rw_if_eq ⟨by omega, by omega⟩ (t := 83) rfl (fun hc52 => ?_) (fun hc52 => ?_)
                · skip
                  refine rw_blk lk_X10_isPlace_83 ?_
                  refine rw_of (fun rr hrr => q_iconst hrr) ?_
                  refine rw_blk lk_X10_isPlace_84 ?_
                  refine rw_of (fun rr hrr => q_istore (Nat.le_of_ble_eq_true rfl) rfl (q_iload rfl hrr)) ?_
                  refine rw_if_eq ⟨by omega, by omega⟩ (t := 100) rfl (fun hc53 => ?_) (fun hc53 => ?_)
                  · skip
                    refine rw_blk lk_X10_isPlace_100 ?_
                    refine rw_of (fun rr hrr => q_iconst hrr) ?_
                    refine rw_blk lk_X10_isPlace_101 ?_
                    refine rw_ret hQ (q_ireturn (by omega)) ?_
                    first
                      | exact ⟨rfl, rfl, rfl⟩
                      | (exfalso; omega)
                    
                  · skip
                    refine rw_of (fun rr hrr => q_iload rfl hrr) ?_
                    refine rw_if_eq ⟨by omega, by omega⟩ (t := 100) rfl (fun hc54 => ?_) (fun hc54 => ?_)
                    · skip
                      refine rw_blk lk_X10_isPlace_100 ?_
                      refine rw_of (fun rr hrr => q_iconst hrr) ?_
                      refine rw_blk lk_X10_isPlace_101 ?_
                      refine rw_ret hQ (q_ireturn (by omega)) ?_
                      first
                        | exact ⟨rfl, rfl, rfl⟩
                        | (exfalso; omega)
                      
                    · skip
                      refine rw_of (fun rr hrr => q_iconst (q_goto (t := 101) rfl hrr)) ?_
                      refine rw_blk lk_X10_isPlace_101 ?_
                      refine rw_ret hQ (q_ireturn (by omega)) ?_
                      first
                        | exact ⟨rfl, rfl, rfl⟩
                        | (exfalso; omega)
                      
                · skip
                  refine rw_blk lk_X10_isPlace_79 ?_
                  refine rw_of (fun rr hrr => q_iconst (q_goto (t := 84) rfl hrr)) ?_
                  refine rw_blk lk_X10_isPlace_84 ?_
                  refine rw_of (fun rr hrr => q_istore (Nat.le_of_ble_eq_true rfl) rfl (q_iload rfl hrr)) ?_
                  refine rw_if_eq ⟨by omega, by omega⟩ (t := 100) rfl (fun hc55 => ?_) (fun hc55 => ?_)
                  · skip
                    refine rw_blk lk_X10_isPlace_100 ?_
                    refine rw_of (fun rr hrr => q_iconst hrr) ?_
                    refine rw_blk lk_X10_isPlace_101 ?_
                    refine rw_ret hQ (q_ireturn (by omega)) ?_
                    first
                      | exact ⟨rfl, rfl, rfl⟩
                      | (exfalso; omega)
                    
                  · skip
                    refine rw_of (fun rr hrr => q_iload rfl hrr) ?_
                    refine rw_if_eq ⟨by omega, by omega⟩ (t := 100) rfl (fun hc56 => ?_) (fun hc56 => ?_)
                    · skip
                      refine rw_blk lk_X10_isPlace_100 ?_
                      refine rw_of (fun rr hrr => q_iconst hrr) ?_
                      refine rw_blk lk_X10_isPlace_101 ?_
                      refine rw_ret hQ (q_ireturn (by omega)) ?_
                      first
                        | exact ⟨rfl, rfl, rfl⟩
                        | (exfalso; omega)
                      
                    · skip
                      refine rw_of (fun rr hrr => q_iconst (q_goto (t := 101) rfl hrr)) ?_
                      refine rw_blk lk_X10_isPlace_101 ?_
                      refine rw_ret hQ (q_ireturn (by omega)) ?_
                      first
                        | exact ⟨rfl, rfl, rfl⟩
                        | (exfalso; omega)
                      
          · skip
            refine rw_blk lk_X10_isPlace_45 ?_
            refine rw_of (fun rr hrr => q_iconst (q_goto (t := 50) rfl hrr)) ?_
            refine rw_blk lk_X10_isPlace_50 ?_
            refine rw_of (fun rr hrr => q_istore (Nat.le_of_ble_eq_true rfl) rfl (q_iload_n rfl (q_iconst hrr))) ?_
            refine rw_icmp_eq ⟨by omega, by omega⟩ ⟨by omega, by omega⟩ (t := 79) rfl (fun hc57 => ?_) (fun hc57 => ?_)
            · skip
              refine rw_blk lk_X10_isPlace_79 ?_
              refine rw_of (fun rr hrr => q_iconst (q_goto (t := 84) rfl hrr)) ?_
              refine rw_blk lk_X10_isPlace_84 ?_
              refine rw_of (fun rr hrr => q_istore (Nat.le_of_ble_eq_true rfl) rfl (q_iload rfl hrr)) ?_
              refine rw_if_eq ⟨by omega, by omega⟩ (t := 100) rfl (fun hc58 => ?_) (fun hc58 => ?_)
              · skip
                refine rw_blk lk_X10_isPlace_100 ?_
                refine rw_of (fun rr hrr => q_iconst hrr) ?_
                refine rw_blk lk_X10_isPlace_101 ?_
                refine rw_ret hQ (q_ireturn (by omega)) ?_
                first
                  | exact ⟨rfl, rfl, rfl⟩
                  | (exfalso; omega)
                
              · skip
                refine rw_of (fun rr hrr => q_iload rfl hrr) ?_
                refine rw_if_eq ⟨by omega, by omega⟩ (t := 100) rfl (fun hc59 => ?_) (fun hc59 => ?_)
                · skip
                  refine rw_blk lk_X10_isPlace_100 ?_
                  refine rw_of (fun rr hrr => q_iconst hrr) ?_
                  refine rw_blk lk_X10_isPlace_101 ?_
                  refine rw_ret hQ (q_ireturn (by omega)) ?_
                  first
                    | exact ⟨rfl, rfl, rfl⟩
                    | (exfalso; omega)
                  
                · skip
                  refine rw_of (fun rr hrr => q_iconst (q_goto (t := 101) rfl hrr)) ?_
                  refine rw_blk lk_X10_isPlace_101 ?_
                  refine rw_ret hQ (q_ireturn (by omega)) ?_
                  first
                    | exact ⟨rfl, rfl, rfl⟩
                    | (exfalso; omega)
                  
            · skip
              refine rw_of (fun rr hrr => q_iload_n rfl (q_iconst hrr)) ?_
              refine rw_icmp_eq ⟨by omega, by omega⟩ ⟨by omega, by omega⟩ (t := 79) rfl (fun hc60 => ?_) (fun hc60 => ?_)
              · skip
                refine rw_blk lk_X10_isPlace_79 ?_
                refine rw_of (fun rr hrr => q_iconst (q_goto (t := 84) rfl hrr)) ?_
                refine rw_blk lk_X10_isPlace_84 ?_
                refine rw_of (fun rr hrr => q_istore (Nat.le_of_ble_eq_true rfl) rfl (q_iload rfl hrr)) ?_
                refine rw_if_eq ⟨by omega, by omega⟩ (t := 100) rfl (fun hc61 => ?_) (fun hc61 => ?_)
                · skip
                  refine rw_blk lk_X10_isPlace_100 ?_
                  refine rw_of (fun rr hrr => q_iconst hrr) ?_
                  refine rw_blk lk_X10_isPlace_101 ?_
                  refine rw_ret hQ (q_ireturn (by omega)) ?_
                  first
                    | exact ⟨rfl, rfl, rfl⟩
                    | (exfalso; omega)
                  
                · skip
                  refine rw_of (fun rr hrr => q_iload rfl hrr) ?_
                  refine rw_if_eq ⟨by omega, by omega⟩ (t := 100) rfl (fun hc62 => ?_) (fun hc62 => ?_)
                  · skip
                    refine rw_blk lk_X10_isPlace_100 ?_
                    refine rw_of (fun rr hrr => q_iconst hrr) ?_
                    refine rw_blk lk_X10_isPlace_101 ?_
                    refine rw_ret hQ (q_ireturn (by omega)) ?_
                    first
                      | exact ⟨rfl, rfl, rfl⟩
                      | (exfalso; omega)
                    
                  · skip
                    refine rw_of (fun rr hrr => q_iconst (q_goto (t := 101) rfl hrr)) ?_
                    refine rw_blk lk_X10_isPlace_101 ?_
                    refine rw_ret hQ (q_ireturn (by omega)) ?_
                    first
                      | exact ⟨rfl, rfl, rfl⟩
                      | (exfalso; omega)
                    
              · skip
                refine rw_of (fun rr hrr => q_iload rfl (q_iconst (q_aload_n rfl (q_getR (show SH 261 = (18, 0) from rfl) rfl (pt_261_1 hP) (q_iload_n rfl (q_iald (j := s) (show SH 262 = (1, 13) from rfl) rfl (by omega) (ki rfl hm (by omega)) (q_iconst (q_isub hrr)))))))) ?_
                obtain ⟨_, mm63, pp64, hV65, rfl, rfl, rfl⟩ := c_X10_isIn1 (S := S) (fz := fz) (m := m) (p := p) (d := d) (by omega) (j) (0) ((((n : Nat) : Int) - 1)) (by omega) (by omega) (by omega)
                refine rw_of (fun rr hrr => q_invS hV65 rfl rfl (okar_cons rfl (okar_cons rfl (okar_cons rfl okar_nil))) (Nat.le_of_ble_eq_true rfl) hrr) ?_
                refine rw_if_eq ⟨by omega, by omega⟩ (t := 83) rfl (fun hc66 => ?_) (fun hc66 => ?_)
                · skip
                  refine rw_blk lk_X10_isPlace_83 ?_
                  refine rw_of (fun rr hrr => q_iconst hrr) ?_
                  refine rw_blk lk_X10_isPlace_84 ?_
                  refine rw_of (fun rr hrr => q_istore (Nat.le_of_ble_eq_true rfl) rfl (q_iload rfl hrr)) ?_
                  refine rw_if_eq ⟨by omega, by omega⟩ (t := 100) rfl (fun hc67 => ?_) (fun hc67 => ?_)
                  · skip
                    refine rw_blk lk_X10_isPlace_100 ?_
                    refine rw_of (fun rr hrr => q_iconst hrr) ?_
                    refine rw_blk lk_X10_isPlace_101 ?_
                    refine rw_ret hQ (q_ireturn (by omega)) ?_
                    first
                      | exact ⟨rfl, rfl, rfl⟩
                      | (exfalso; omega)
                    
                  · skip
                    refine rw_of (fun rr hrr => q_iload rfl hrr) ?_
                    refine rw_if_eq ⟨by omega, by omega⟩ (t := 100) rfl (fun hc68 => ?_) (fun hc68 => ?_)
                    · skip
                      refine rw_blk lk_X10_isPlace_100 ?_
                      refine rw_of (fun rr hrr => q_iconst hrr) ?_
                      refine rw_blk lk_X10_isPlace_101 ?_
                      refine rw_ret hQ (q_ireturn (by omega)) ?_
                      first
                        | exact ⟨rfl, rfl, rfl⟩
                        | (exfalso; omega)
                      
                    · skip
                      refine rw_of (fun rr hrr => q_iconst (q_goto (t := 101) rfl hrr)) ?_
                      refine rw_blk lk_X10_isPlace_101 ?_
                      refine rw_ret hQ (q_ireturn (by omega)) ?_
                      first
                        | exact ⟨rfl, rfl, rfl⟩
                        | (exfalso; omega)
                      
                · skip
                  refine rw_blk lk_X10_isPlace_79 ?_
                  refine rw_of (fun rr hrr => q_iconst (q_goto (t := 84) rfl hrr)) ?_
                  refine rw_blk lk_X10_isPlace_84 ?_
                  refine rw_of (fun rr hrr => q_istore (Nat.le_of_ble_eq_true rfl) rfl (q_iload rfl hrr)) ?_
                  refine rw_if_eq ⟨by omega, by omega⟩ (t := 100) rfl (fun hc69 => ?_) (fun hc69 => ?_)
                  · skip
                    refine rw_blk lk_X10_isPlace_100 ?_
                    refine rw_of (fun rr hrr => q_iconst hrr) ?_
                    refine rw_blk lk_X10_isPlace_101 ?_
                    refine rw_ret hQ (q_ireturn (by omega)) ?_
                    first
                      | exact ⟨rfl, rfl, rfl⟩
                      | (exfalso; omega)
                    
                  · skip
                    refine rw_of (fun rr hrr => q_iload rfl hrr) ?_
                    refine rw_if_eq ⟨by omega, by omega⟩ (t := 100) rfl (fun hc70 => ?_) (fun hc70 => ?_)
                    · skip
                      refine rw_blk lk_X10_isPlace_100 ?_
                      refine rw_of (fun rr hrr => q_iconst hrr) ?_
                      refine rw_blk lk_X10_isPlace_101 ?_
                      refine rw_ret hQ (q_ireturn (by omega)) ?_
                      first
                        | exact ⟨rfl, rfl, rfl⟩
                        | (exfalso; omega)
                      
                    · skip
                      refine rw_of (fun rr hrr => q_iconst (q_goto (t := 101) rfl hrr)) ?_
                      refine rw_blk lk_X10_isPlace_101 ?_
                      refine rw_ret hQ (q_ireturn (by omega)) ?_
                      first
                        | exact ⟨rfl, rfl, rfl⟩
                        | (exfalso; omega)
                      
    · skip
      refine rw_blk lk_X10_isPlace_17 ?_
      refine rw_of (fun rr hrr => q_iconst hrr) ?_
      refine rw_ret hQ (q_ireturn (by omega)) ?_
      first
        | exact ⟨rfl, rfl, rfl⟩
        | (exfalso; omega)
      
theorem c_X10_isPlaceW {d : Nat} {S : MC} {fz : Bool} {m : M1} {p : M2} (hd : 3 ≤ d) (s k n : Nat) (w i j : Int) (hP : PI p) (hk : m 261 0 = nF k) (hk12 : k ≤ 12) (hsk : s < k) (hm : m 262 s = nF n) (hn0 : 1 ≤ n) (hn : n ≤ 8) (hr : (-2147483648 ≤ w ∧ w < 2147483648)) (h : w < 0 ∨ 3 < w) : Ct d k_X10_isPlace S fz [.ref (261), .int (iI (((s : Nat) : Int))), .int (iI (w)), .int (iI (i)), .int (iI (j))] m p (fun v m' p' => v = some (.int (iI (0))) ∧ m = m' ∧ p = p') := by
  obtain ⟨d, rfl⟩ : ∃ e, d = e + 1 := ⟨d - 1, by omega⟩
  refine ct_go (lv := [some (.ref (261)), some (.int (iI (((s : Nat) : Int)))), some (.int (iI (w))), some (.int (iI (i))), some (.int (iI (j))), none, none]) (Nat.le_of_ble_eq_true rfl) (okar_cons rfl (okar_cons rfl (okar_cons rfl (okar_cons rfl (okar_cons rfl okar_nil))))) rfl (fun Qr hQ => ?_)
  refine rw_blk lk_X10_isPlace_0 ?_
  refine rw_of (fun rr hrr => q_aload_n rfl (q_iload_n rfl hrr)) ?_
  obtain ⟨_, mm1, pp2, hV3, rfl, rfl, rfl⟩ := c_X10_isSystem1 (S := S) (fz := fz) (m := m) (p := p) (d := d) (by omega) (((s : Nat) : Int)) (k) hP hk (by omega) (by omega) (by omega)
  refine rw_of (fun rr hrr => q_invV hV3 (show SH 261 = (18, 0) from rfl) rfl rfl (okar_cons rfl okar_nil) (Nat.le_of_ble_eq_true rfl) hrr) ?_
  refine rw_if_eq ⟨by omega, by omega⟩ (t := 17) rfl (fun hc4 => ?_) (fun hc4 => ?_)
  · exfalso; omega
  · skip
    refine rw_of (fun rr hrr => q_iload_n rfl (q_iconst (q_iconst hrr))) ?_
    obtain ⟨_, mm5, pp6, hV7, rfl, rfl, rfl⟩ := c_X10_isIn0 (S := S) (fz := fz) (m := m) (p := p) (d := d) (by omega) (w) (0) (3) (by omega) (by omega) (by omega)
    refine rw_of (fun rr hrr => q_invS hV7 rfl rfl (okar_cons rfl (okar_cons rfl (okar_cons rfl okar_nil))) (Nat.le_of_ble_eq_true rfl) hrr) ?_
    refine rw_if_ne ⟨by omega, by omega⟩ (t := 19) rfl (fun hc8 => ?_) (fun hc8 => ?_)
    · exfalso; omega
    · skip
      refine rw_blk lk_X10_isPlace_17 ?_
      refine rw_of (fun rr hrr => q_iconst hrr) ?_
      refine rw_ret hQ (q_ireturn (by omega)) ?_
      first
        | exact ⟨rfl, rfl, rfl⟩
        | (exfalso; omega)
      
theorem c_X10_isPlaceS {d : Nat} {S : MC} {fz : Bool} {m : M1} {p : M2} (hd : 3 ≤ d) (s : Int) (k : Nat) (w i j : Int) (hP : PI p) (hk : m 261 0 = nF k) (hk12 : k ≤ 12) (hr : (-2147483648 ≤ s ∧ s < 2147483648)) (h : ¬ (0 ≤ s ∧ s < k)) : Ct d k_X10_isPlace S fz [.ref (261), .int (iI (s)), .int (iI (w)), .int (iI (i)), .int (iI (j))] m p (fun v m' p' => v = some (.int (iI (0))) ∧ m = m' ∧ p = p') := by
  obtain ⟨d, rfl⟩ : ∃ e, d = e + 1 := ⟨d - 1, by omega⟩
  refine ct_go (lv := [some (.ref (261)), some (.int (iI (s))), some (.int (iI (w))), some (.int (iI (i))), some (.int (iI (j))), none, none]) (Nat.le_of_ble_eq_true rfl) (okar_cons rfl (okar_cons rfl (okar_cons rfl (okar_cons rfl (okar_cons rfl okar_nil))))) rfl (fun Qr hQ => ?_)
  refine rw_blk lk_X10_isPlace_0 ?_
  refine rw_of (fun rr hrr => q_aload_n rfl (q_iload_n rfl hrr)) ?_
  obtain ⟨_, mm1, pp2, hV3, rfl, rfl, rfl⟩ := c_X10_isSystem0 (S := S) (fz := fz) (m := m) (p := p) (d := d) (by omega) (s) (k) hP hk (by omega) (by omega) (by omega)
  refine rw_of (fun rr hrr => q_invV hV3 (show SH 261 = (18, 0) from rfl) rfl rfl (okar_cons rfl okar_nil) (Nat.le_of_ble_eq_true rfl) hrr) ?_
  refine rw_if_eq ⟨by omega, by omega⟩ (t := 17) rfl (fun hc4 => ?_) (fun hc4 => ?_)
  · skip
    refine rw_blk lk_X10_isPlace_17 ?_
    refine rw_of (fun rr hrr => q_iconst hrr) ?_
    refine rw_ret hQ (q_ireturn (by omega)) ?_
    first
      | exact ⟨rfl, rfl, rfl⟩
      | (exfalso; omega)
    
  · exfalso; omega
