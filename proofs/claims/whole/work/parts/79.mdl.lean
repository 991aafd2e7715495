theorem c_X10_clear {d : Nat} {S : MC} {fz : Bool} {m : M1} {p : M2} (hd : 1 ≤ d) (cp ci : Nat) (hP : PI p) (hcp : m 261 6 = nF cp) (hcpl : cp ≤ 16) (hci : m 261 8 = nF ci) (hcil : ci ≤ 20) : Ct d k_X10_clear S fz [.ref (261)] m p (fun v m' p' => v = some (.int (iI ((cp + ci : Nat) : Int))) ∧ p = p' ∧ w1 (w1 (w1 m 261 21 0) 261 6 0) 261 8 0 = m') := by
  obtain ⟨d, rfl⟩ : ∃ e, d = e + 1 := ⟨d - 1, by omega⟩
  refine ct_go (lv := [some (.ref (261)), none]) (Nat.le_of_ble_eq_true rfl) (okar_cons rfl okar_nil) rfl (fun Qr hQ => ?_)
  refine rw_blk lk_X10_clear_0 ?_
  refine rw_of (fun rr hrr => q_aload_n rfl (q_iconst (q_putI (xx := 0) (show SH 261 = (18, 0) from rfl) rfl rfl rfl hrr))) ?_
  generalize hm2 : w1 m 261 21 0 = mm1
  refine rw_of (fun rr hrr => q_aload_n rfl (q_getI (show SH 261 = (18, 0) from rfl) rfl (by rw [(show mm1 261 6 = m 261 6 from by rw [← hm2, w1_ne (by omega)]), hcp, vF_nF (by omega)]) (q_aload_n rfl (q_getI (show SH 261 = (18, 0) from rfl) rfl (by rw [(show mm1 261 8 = m 261 8 from by rw [← hm2, w1_ne (by omega)]), hci, vF_nF (by omega)]) (q_iadd (q_istore_n (Nat.le_of_ble_eq_true rfl) rfl (q_aload_n rfl (q_iconst (q_putI (xx := 0) (show SH 261 = (18, 0) from rfl) rfl rfl rfl hrr))))))))) ?_
  generalize hm4 : w1 mm1 261 6 0 = mm3
  refine rw_of (fun rr hrr => q_aload_n rfl (q_iconst (q_putI (xx := 0) (show SH 261 = (18, 0) from rfl) rfl rfl rfl hrr))) ?_
  generalize hm6 : w1 mm3 261 8 0 = mm5
  refine rw_of (fun rr hrr => q_iload_n rfl hrr) ?_
  exact rw_ret hQ (q_ireturn (Or.inl rfl)) (by exact ⟨rfl, rfl, by rw [hm2, hm4, hm6]⟩)
