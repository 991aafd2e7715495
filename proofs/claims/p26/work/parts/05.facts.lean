theorem bw_109_0 : okB (m_b 109) (m_cn 109) (m_kd 109) (rkf (m_ret 109)) 0 s_L_arePlaced_0 = true := by decide +kernel
theorem bw_109_65 : okB (m_b 109) (m_cn 109) (m_kd 109) (rkf (m_ret 109)) 65 s_L_arePlaced_65 = true := by decide +kernel
theorem bw_109_67 : okB (m_b 109) (m_cn 109) (m_kd 109) (rkf (m_ret 109)) 67 s_L_arePlaced_67 = true := by decide +kernel
theorem bw_109_87 : okB (m_b 109) (m_cn 109) (m_kd 109) (rkf (m_ret 109)) 87 s_L_arePlaced_87 = true := by decide +kernel
theorem bw_109_88 : okB (m_b 109) (m_cn 109) (m_kd 109) (rkf (m_ret 109)) 88 s_L_arePlaced_88 = true := by decide +kernel
theorem bw_109_93 : okB (m_b 109) (m_cn 109) (m_kd 109) (rkf (m_ret 109)) 93 s_L_arePlaced_93 = true := by decide +kernel
theorem bw_109_171 : okB (m_b 109) (m_cn 109) (m_kd 109) (rkf (m_ret 109)) 171 s_L_arePlaced_171 = true := by decide +kernel
theorem bw_109_175 : okB (m_b 109) (m_cn 109) (m_kd 109) (rkf (m_ret 109)) 175 s_L_arePlaced_175 = true := by decide +kernel
theorem bw_109_176 : okB (m_b 109) (m_cn 109) (m_kd 109) (rkf (m_ret 109)) 176 s_L_arePlaced_176 = true := by decide +kernel
theorem bw_109_181 : okB (m_b 109) (m_cn 109) (m_kd 109) (rkf (m_ret 109)) 181 s_L_arePlaced_181 = true := by decide +kernel
theorem bw_109_349 : okB (m_b 109) (m_cn 109) (m_kd 109) (rkf (m_ret 109)) 349 s_L_arePlaced_349 = true := by decide +kernel
theorem bw_109_350 : okB (m_b 109) (m_cn 109) (m_kd 109) (rkf (m_ret 109)) 350 s_L_arePlaced_350 = true := by decide +kernel
theorem bw_109_355 : okB (m_b 109) (m_cn 109) (m_kd 109) (rkf (m_ret 109)) 355 s_L_arePlaced_355 = true := by decide +kernel
theorem bw_109_390 : okB (m_b 109) (m_cn 109) (m_kd 109) (rkf (m_ret 109)) 390 s_L_arePlaced_390 = true := by decide +kernel
theorem bw_109_391 : okB (m_b 109) (m_cn 109) (m_kd 109) (rkf (m_ret 109)) 391 s_L_arePlaced_391 = true := by decide +kernel
theorem bw_109_393 : okB (m_b 109) (m_cn 109) (m_kd 109) (rkf (m_ret 109)) 393 s_L_arePlaced_393 = true := by decide +kernel
theorem bw_109_399 : okB (m_b 109) (m_cn 109) (m_kd 109) (rkf (m_ret 109)) 399 s_L_arePlaced_399 = true := by decide +kernel
theorem bw_109_405 : okB (m_b 109) (m_cn 109) (m_kd 109) (rkf (m_ret 109)) 405 s_L_arePlaced_405 = true := by decide +kernel
set_option maxRecDepth 100000 in
theorem bl_109 : blP 109 := by
  show ∀ q ∈ m_bl 109, okB (m_b 109) (m_cn 109) (m_kd 109) (rkf (m_ret 109)) q.1 q.2 = true
  exact List.forall_mem_cons.mpr ⟨bw_109_0, List.forall_mem_cons.mpr ⟨bw_109_65, List.forall_mem_cons.mpr ⟨bw_109_67, List.forall_mem_cons.mpr ⟨bw_109_87, List.forall_mem_cons.mpr ⟨bw_109_88, List.forall_mem_cons.mpr ⟨bw_109_93, List.forall_mem_cons.mpr ⟨bw_109_171, List.forall_mem_cons.mpr ⟨bw_109_175, List.forall_mem_cons.mpr ⟨bw_109_176, List.forall_mem_cons.mpr ⟨bw_109_181, List.forall_mem_cons.mpr ⟨bw_109_349, List.forall_mem_cons.mpr ⟨bw_109_350, List.forall_mem_cons.mpr ⟨bw_109_355, List.forall_mem_cons.mpr ⟨bw_109_390, List.forall_mem_cons.mpr ⟨bw_109_391, List.forall_mem_cons.mpr ⟨bw_109_393, List.forall_mem_cons.mpr ⟨bw_109_399, List.forall_mem_cons.mpr ⟨bw_109_405, fun _ h => absurd h List.not_mem_nil⟩⟩⟩⟩⟩⟩⟩⟩⟩⟩⟩⟩⟩⟩⟩⟩⟩⟩
