theorem bw_107_0 : okB (m_b 107) (m_cn 107) (m_kd 107) (rkf (m_ret 107)) 0 s_L_isSo_0 = true := by decide +kernel
theorem bw_107_149 : okB (m_b 107) (m_cn 107) (m_kd 107) (rkf (m_ret 107)) 149 s_L_isSo_149 = true := by decide +kernel
theorem bw_107_150 : okB (m_b 107) (m_cn 107) (m_kd 107) (rkf (m_ret 107)) 150 s_L_isSo_150 = true := by decide +kernel
theorem bw_107_167 : okB (m_b 107) (m_cn 107) (m_kd 107) (rkf (m_ret 107)) 167 s_L_isSo_167 = true := by decide +kernel
theorem bw_107_249 : okB (m_b 107) (m_cn 107) (m_kd 107) (rkf (m_ret 107)) 249 s_L_isSo_249 = true := by decide +kernel
theorem bw_107_250 : okB (m_b 107) (m_cn 107) (m_kd 107) (rkf (m_ret 107)) 250 s_L_isSo_250 = true := by decide +kernel
theorem bw_107_258 : okB (m_b 107) (m_cn 107) (m_kd 107) (rkf (m_ret 107)) 258 s_L_isSo_258 = true := by decide +kernel
theorem bw_107_261 : okB (m_b 107) (m_cn 107) (m_kd 107) (rkf (m_ret 107)) 261 s_L_isSo_261 = true := by decide +kernel
theorem bw_107_331 : okB (m_b 107) (m_cn 107) (m_kd 107) (rkf (m_ret 107)) 331 s_L_isSo_331 = true := by decide +kernel
theorem bw_107_332 : okB (m_b 107) (m_cn 107) (m_kd 107) (rkf (m_ret 107)) 332 s_L_isSo_332 = true := by decide +kernel
theorem bw_107_340 : okB (m_b 107) (m_cn 107) (m_kd 107) (rkf (m_ret 107)) 340 s_L_isSo_340 = true := by decide +kernel
theorem bw_107_346 : okB (m_b 107) (m_cn 107) (m_kd 107) (rkf (m_ret 107)) 346 s_L_isSo_346 = true := by decide +kernel
theorem bw_107_364 : okB (m_b 107) (m_cn 107) (m_kd 107) (rkf (m_ret 107)) 364 s_L_isSo_364 = true := by decide +kernel
theorem bw_107_399 : okB (m_b 107) (m_cn 107) (m_kd 107) (rkf (m_ret 107)) 399 s_L_isSo_399 = true := by decide +kernel
theorem bw_107_400 : okB (m_b 107) (m_cn 107) (m_kd 107) (rkf (m_ret 107)) 400 s_L_isSo_400 = true := by decide +kernel
theorem bw_107_414 : okB (m_b 107) (m_cn 107) (m_kd 107) (rkf (m_ret 107)) 414 s_L_isSo_414 = true := by decide +kernel
theorem bw_107_463 : okB (m_b 107) (m_cn 107) (m_kd 107) (rkf (m_ret 107)) 463 s_L_isSo_463 = true := by decide +kernel
theorem bw_107_467 : okB (m_b 107) (m_cn 107) (m_kd 107) (rkf (m_ret 107)) 467 s_L_isSo_467 = true := by decide +kernel
theorem bw_107_468 : okB (m_b 107) (m_cn 107) (m_kd 107) (rkf (m_ret 107)) 468 s_L_isSo_468 = true := by decide +kernel
theorem bw_107_476 : okB (m_b 107) (m_cn 107) (m_kd 107) (rkf (m_ret 107)) 476 s_L_isSo_476 = true := by decide +kernel
theorem bw_107_485 : okB (m_b 107) (m_cn 107) (m_kd 107) (rkf (m_ret 107)) 485 s_L_isSo_485 = true := by decide +kernel
theorem bw_107_495 : okB (m_b 107) (m_cn 107) (m_kd 107) (rkf (m_ret 107)) 495 s_L_isSo_495 = true := by decide +kernel
theorem bw_107_529 : okB (m_b 107) (m_cn 107) (m_kd 107) (rkf (m_ret 107)) 529 s_L_isSo_529 = true := by decide +kernel
theorem bw_107_535 : okB (m_b 107) (m_cn 107) (m_kd 107) (rkf (m_ret 107)) 535 s_L_isSo_535 = true := by decide +kernel
theorem bw_107_555 : okB (m_b 107) (m_cn 107) (m_kd 107) (rkf (m_ret 107)) 555 s_L_isSo_555 = true := by decide +kernel
theorem bw_107_561 : okB (m_b 107) (m_cn 107) (m_kd 107) (rkf (m_ret 107)) 561 s_L_isSo_561 = true := by decide +kernel
theorem bw_107_574 : okB (m_b 107) (m_cn 107) (m_kd 107) (rkf (m_ret 107)) 574 s_L_isSo_574 = true := by decide +kernel
theorem bw_107_580 : okB (m_b 107) (m_cn 107) (m_kd 107) (rkf (m_ret 107)) 580 s_L_isSo_580 = true := by decide +kernel
theorem bw_107_692 : okB (m_b 107) (m_cn 107) (m_kd 107) (rkf (m_ret 107)) 692 s_L_isSo_692 = true := by decide +kernel
theorem bw_107_693 : okB (m_b 107) (m_cn 107) (m_kd 107) (rkf (m_ret 107)) 693 s_L_isSo_693 = true := by decide +kernel
set_option maxRecDepth 100000 in
theorem bl_107 : blP 107 := by
  show ∀ q ∈ m_bl 107, okB (m_b 107) (m_cn 107) (m_kd 107) (rkf (m_ret 107)) q.1 q.2 = true
  exact List.forall_mem_cons.mpr ⟨bw_107_0, List.forall_mem_cons.mpr ⟨bw_107_149, List.forall_mem_cons.mpr ⟨bw_107_150, List.forall_mem_cons.mpr ⟨bw_107_167, List.forall_mem_cons.mpr ⟨bw_107_249, List.forall_mem_cons.mpr ⟨bw_107_250, List.forall_mem_cons.mpr ⟨bw_107_258, List.forall_mem_cons.mpr ⟨bw_107_261, List.forall_mem_cons.mpr ⟨bw_107_331, List.forall_mem_cons.mpr ⟨bw_107_332, List.forall_mem_cons.mpr ⟨bw_107_340, List.forall_mem_cons.mpr ⟨bw_107_346, List.forall_mem_cons.mpr ⟨bw_107_364, List.forall_mem_cons.mpr ⟨bw_107_399, List.forall_mem_cons.mpr ⟨bw_107_400, List.forall_mem_cons.mpr ⟨bw_107_414, List.forall_mem_cons.mpr ⟨bw_107_463, List.forall_mem_cons.mpr ⟨bw_107_467, List.forall_mem_cons.mpr ⟨bw_107_468, List.forall_mem_cons.mpr ⟨bw_107_476, List.forall_mem_cons.mpr ⟨bw_107_485, List.forall_mem_cons.mpr ⟨bw_107_495, List.forall_mem_cons.mpr ⟨bw_107_529, List.forall_mem_cons.mpr ⟨bw_107_535, List.forall_mem_cons.mpr ⟨bw_107_555, List.forall_mem_cons.mpr ⟨bw_107_561, List.forall_mem_cons.mpr ⟨bw_107_574, List.forall_mem_cons.mpr ⟨bw_107_580, List.forall_mem_cons.mpr ⟨bw_107_692, List.forall_mem_cons.mpr ⟨bw_107_693, fun _ h => absurd h List.not_mem_nil⟩⟩⟩⟩⟩⟩⟩⟩⟩⟩⟩⟩⟩⟩⟩⟩⟩⟩⟩⟩⟩⟩⟩⟩⟩⟩⟩⟩⟩⟩
