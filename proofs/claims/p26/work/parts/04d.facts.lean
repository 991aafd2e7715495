theorem lwc {k : Nat} (i : Nat) (hh : m_hh k = []) (h : (lw_tbl[i]?).any (fun w => match w with
  | .code y b L r => decide (y = m_y k) && (b.data.toList == (m_b k).data.toList) && decide (L = m_L k) && decide (r = m_ret k)
  | _ => false) = true) (g : goodWord (.code (m_y k) (m_b k) (m_L k) (m_ret k)) = true) : m_cw k ∈ lwg := by
  have e : m_cw k = .code (m_y k) (m_b k) (m_L k) (m_ret k) := by
    unfold m_cw
    rw [hh]
  rw [e]
  cases q : lw_tbl[i]? with
  | none => rw [q] at h; cases h
  | some w =>
    rw [q] at h
    refine List.mem_filter.mpr ⟨List.mem_of_getElem? (i := i) ?_, g⟩
    rw [q]
    simp only [Option.any_some] at h
    split at h
    · next y b L r =>
      simp only [Bool.and_eq_true, decide_eq_true_eq, beq_iff_eq] at h
      obtain ⟨⟨⟨h1, h2⟩, h3⟩, h4⟩ := h
      have h5 : b = m_b k := by
        cases b with
        | mk bd =>
          cases hb : m_b k with
          | mk kd =>
            rw [hb] at h2
            exact congrArg ByteArray.mk (Array.toList_inj.mp h2)
      rw [h1, h5, h3, h4]
    · cases h
theorem mp_107 : mP 107 := ⟨⟨by decide +kernel, by decide +kernel, by decide +kernel, by decide +kernel⟩, ⟨lwc 682 rfl (by decide +kernel) (by decide +kernel), lwi 18 (by decide +kernel) (by decide +kernel)⟩, fun _ => lwi 681 (by decide +kernel) (by decide +kernel), fun h => absurd h (by decide), fun h => absurd h (by decide), ⟨by decide, by decide +kernel⟩, bl_107⟩
