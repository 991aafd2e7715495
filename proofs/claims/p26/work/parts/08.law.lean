theorem blw_0 : okB (m_b 111) (m_cn 111) (m_kd 111) (rkf (m_ret 111)) 0 s_L_law_0 = true := by decide +kernel
theorem blw_119 : okB (m_b 111) (m_cn 111) (m_kd 111) (rkf (m_ret 111)) 119 s_L_law_119 = true := by decide +kernel
theorem blw_120 : okB (m_b 111) (m_cn 111) (m_kd 111) (rkf (m_ret 111)) 120 s_L_law_120 = true := by decide +kernel
theorem blw_125 : okB (m_b 111) (m_cn 111) (m_kd 111) (rkf (m_ret 111)) 125 s_L_law_125 = true := by decide +kernel
theorem blw_147 : okB (m_b 111) (m_cn 111) (m_kd 111) (rkf (m_ret 111)) 147 s_L_law_147 = true := by decide +kernel
theorem blw_159 : okB (m_b 111) (m_cn 111) (m_kd 111) (rkf (m_ret 111)) 159 s_L_law_159 = true := by decide +kernel
theorem blw_170 : okB (m_b 111) (m_cn 111) (m_kd 111) (rkf (m_ret 111)) 170 s_L_law_170 = true := by decide +kernel
theorem blw_181 : okB (m_b 111) (m_cn 111) (m_kd 111) (rkf (m_ret 111)) 181 s_L_law_181 = true := by decide +kernel
theorem blw_191 : okB (m_b 111) (m_cn 111) (m_kd 111) (rkf (m_ret 111)) 191 s_L_law_191 = true := by decide +kernel
theorem blw_225 : okB (m_b 111) (m_cn 111) (m_kd 111) (rkf (m_ret 111)) 225 s_L_law_225 = true := by decide +kernel
theorem blw_237 : okB (m_b 111) (m_cn 111) (m_kd 111) (rkf (m_ret 111)) 237 s_L_law_237 = true := by decide +kernel
theorem blw_256 : okB (m_b 111) (m_cn 111) (m_kd 111) (rkf (m_ret 111)) 256 s_L_law_256 = true := by decide +kernel
theorem blw_268 : okB (m_b 111) (m_cn 111) (m_kd 111) (rkf (m_ret 111)) 268 s_L_law_268 = true := by decide +kernel
theorem blw_280 : okB (m_b 111) (m_cn 111) (m_kd 111) (rkf (m_ret 111)) 280 s_L_law_280 = true := by decide +kernel
theorem blw_282 : okB (m_b 111) (m_cn 111) (m_kd 111) (rkf (m_ret 111)) 282 s_L_law_282 = true := by decide +kernel
theorem blw_342 : okB (m_b 111) (m_cn 111) (m_kd 111) (rkf (m_ret 111)) 342 s_L_law_342 = true := by decide +kernel
theorem blw_346 : okB (m_b 111) (m_cn 111) (m_kd 111) (rkf (m_ret 111)) 346 s_L_law_346 = true := by decide +kernel
theorem blw_347 : okB (m_b 111) (m_cn 111) (m_kd 111) (rkf (m_ret 111)) 347 s_L_law_347 = true := by decide +kernel
theorem blw_355 : okB (m_b 111) (m_cn 111) (m_kd 111) (rkf (m_ret 111)) 355 s_L_law_355 = true := by decide +kernel
set_option maxRecDepth 100000 in
theorem bl_law : blP 111 := by
  show ∀ q ∈ m_bl 111, okB (m_b 111) (m_cn 111) (m_kd 111) (rkf (m_ret 111)) q.1 q.2 = true
  exact List.forall_mem_cons.mpr ⟨blw_0, List.forall_mem_cons.mpr ⟨blw_119, List.forall_mem_cons.mpr ⟨blw_120, List.forall_mem_cons.mpr ⟨blw_125, List.forall_mem_cons.mpr ⟨blw_147, List.forall_mem_cons.mpr ⟨blw_159, List.forall_mem_cons.mpr ⟨blw_170, List.forall_mem_cons.mpr ⟨blw_181, List.forall_mem_cons.mpr ⟨blw_191, List.forall_mem_cons.mpr ⟨blw_225, List.forall_mem_cons.mpr ⟨blw_237, List.forall_mem_cons.mpr ⟨blw_256, List.forall_mem_cons.mpr ⟨blw_268, List.forall_mem_cons.mpr ⟨blw_280, List.forall_mem_cons.mpr ⟨blw_282, List.forall_mem_cons.mpr ⟨blw_342, List.forall_mem_cons.mpr ⟨blw_346, List.forall_mem_cons.mpr ⟨blw_347, List.forall_mem_cons.mpr ⟨blw_355, fun _ h => absurd h List.not_mem_nil⟩⟩⟩⟩⟩⟩⟩⟩⟩⟩⟩⟩⟩⟩⟩⟩⟩⟩⟩
