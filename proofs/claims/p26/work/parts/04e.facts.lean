theorem bw_108_0 : okB (m_b 108) (m_cn 108) (m_kd 108) (rkf (m_ret 108)) 0 s_L_isMade_0 = true := by decide +kernel
theorem bw_108_128 : okB (m_b 108) (m_cn 108) (m_kd 108) (rkf (m_ret 108)) 128 s_L_isMade_128 = true := by decide +kernel
theorem bw_108_129 : okB (m_b 108) (m_cn 108) (m_kd 108) (rkf (m_ret 108)) 129 s_L_isMade_129 = true := by decide +kernel
theorem bw_108_134 : okB (m_b 108) (m_cn 108) (m_kd 108) (rkf (m_ret 108)) 134 s_L_isMade_134 = true := by decide +kernel
theorem bw_108_196 : okB (m_b 108) (m_cn 108) (m_kd 108) (rkf (m_ret 108)) 196 s_L_isMade_196 = true := by decide +kernel
theorem bw_108_197 : okB (m_b 108) (m_cn 108) (m_kd 108) (rkf (m_ret 108)) 197 s_L_isMade_197 = true := by decide +kernel
theorem bw_108_202 : okB (m_b 108) (m_cn 108) (m_kd 108) (rkf (m_ret 108)) 202 s_L_isMade_202 = true := by decide +kernel
theorem bw_108_282 : okB (m_b 108) (m_cn 108) (m_kd 108) (rkf (m_ret 108)) 282 s_L_isMade_282 = true := by decide +kernel
theorem bw_108_283 : okB (m_b 108) (m_cn 108) (m_kd 108) (rkf (m_ret 108)) 283 s_L_isMade_283 = true := by decide +kernel
theorem bw_108_291 : okB (m_b 108) (m_cn 108) (m_kd 108) (rkf (m_ret 108)) 291 s_L_isMade_291 = true := by decide +kernel
theorem bw_108_297 : okB (m_b 108) (m_cn 108) (m_kd 108) (rkf (m_ret 108)) 297 s_L_isMade_297 = true := by decide +kernel
theorem bw_108_300 : okB (m_b 108) (m_cn 108) (m_kd 108) (rkf (m_ret 108)) 300 s_L_isMade_300 = true := by decide +kernel
theorem bw_108_310 : okB (m_b 108) (m_cn 108) (m_kd 108) (rkf (m_ret 108)) 310 s_L_isMade_310 = true := by decide +kernel
theorem bw_108_311 : okB (m_b 108) (m_cn 108) (m_kd 108) (rkf (m_ret 108)) 311 s_L_isMade_311 = true := by decide +kernel
theorem bw_108_357 : okB (m_b 108) (m_cn 108) (m_kd 108) (rkf (m_ret 108)) 357 s_L_isMade_357 = true := by decide +kernel
theorem bw_108_372 : okB (m_b 108) (m_cn 108) (m_kd 108) (rkf (m_ret 108)) 372 s_L_isMade_372 = true := by decide +kernel
theorem bw_108_379 : okB (m_b 108) (m_cn 108) (m_kd 108) (rkf (m_ret 108)) 379 s_L_isMade_379 = true := by decide +kernel
theorem bw_108_380 : okB (m_b 108) (m_cn 108) (m_kd 108) (rkf (m_ret 108)) 380 s_L_isMade_380 = true := by decide +kernel
theorem bw_108_385 : okB (m_b 108) (m_cn 108) (m_kd 108) (rkf (m_ret 108)) 385 s_L_isMade_385 = true := by decide +kernel
theorem bw_108_406 : okB (m_b 108) (m_cn 108) (m_kd 108) (rkf (m_ret 108)) 406 s_L_isMade_406 = true := by decide +kernel
theorem bw_108_407 : okB (m_b 108) (m_cn 108) (m_kd 108) (rkf (m_ret 108)) 407 s_L_isMade_407 = true := by decide +kernel
theorem bw_108_432 : okB (m_b 108) (m_cn 108) (m_kd 108) (rkf (m_ret 108)) 432 s_L_isMade_432 = true := by decide +kernel
theorem bw_108_453 : okB (m_b 108) (m_cn 108) (m_kd 108) (rkf (m_ret 108)) 453 s_L_isMade_453 = true := by decide +kernel
theorem bw_108_454 : okB (m_b 108) (m_cn 108) (m_kd 108) (rkf (m_ret 108)) 454 s_L_isMade_454 = true := by decide +kernel
theorem bw_108_459 : okB (m_b 108) (m_cn 108) (m_kd 108) (rkf (m_ret 108)) 459 s_L_isMade_459 = true := by decide +kernel
theorem bw_108_496 : okB (m_b 108) (m_cn 108) (m_kd 108) (rkf (m_ret 108)) 496 s_L_isMade_496 = true := by decide +kernel
theorem bw_108_497 : okB (m_b 108) (m_cn 108) (m_kd 108) (rkf (m_ret 108)) 497 s_L_isMade_497 = true := by decide +kernel
theorem bw_108_505 : okB (m_b 108) (m_cn 108) (m_kd 108) (rkf (m_ret 108)) 505 s_L_isMade_505 = true := by decide +kernel
theorem bw_108_516 : okB (m_b 108) (m_cn 108) (m_kd 108) (rkf (m_ret 108)) 516 s_L_isMade_516 = true := by decide +kernel
theorem bw_108_523 : okB (m_b 108) (m_cn 108) (m_kd 108) (rkf (m_ret 108)) 523 s_L_isMade_523 = true := by decide +kernel
theorem bw_108_524 : okB (m_b 108) (m_cn 108) (m_kd 108) (rkf (m_ret 108)) 524 s_L_isMade_524 = true := by decide +kernel
theorem bw_108_529 : okB (m_b 108) (m_cn 108) (m_kd 108) (rkf (m_ret 108)) 529 s_L_isMade_529 = true := by decide +kernel
theorem bw_108_565 : okB (m_b 108) (m_cn 108) (m_kd 108) (rkf (m_ret 108)) 565 s_L_isMade_565 = true := by decide +kernel
theorem bw_108_569 : okB (m_b 108) (m_cn 108) (m_kd 108) (rkf (m_ret 108)) 569 s_L_isMade_569 = true := by decide +kernel
theorem bw_108_596 : okB (m_b 108) (m_cn 108) (m_kd 108) (rkf (m_ret 108)) 596 s_L_isMade_596 = true := by decide +kernel
theorem bw_108_625 : okB (m_b 108) (m_cn 108) (m_kd 108) (rkf (m_ret 108)) 625 s_L_isMade_625 = true := by decide +kernel
theorem bw_108_626 : okB (m_b 108) (m_cn 108) (m_kd 108) (rkf (m_ret 108)) 626 s_L_isMade_626 = true := by decide +kernel
theorem bw_108_653 : okB (m_b 108) (m_cn 108) (m_kd 108) (rkf (m_ret 108)) 653 s_L_isMade_653 = true := by decide +kernel
theorem bw_108_654 : okB (m_b 108) (m_cn 108) (m_kd 108) (rkf (m_ret 108)) 654 s_L_isMade_654 = true := by decide +kernel
theorem bw_108_662 : okB (m_b 108) (m_cn 108) (m_kd 108) (rkf (m_ret 108)) 662 s_L_isMade_662 = true := by decide +kernel
theorem bw_108_668 : okB (m_b 108) (m_cn 108) (m_kd 108) (rkf (m_ret 108)) 668 s_L_isMade_668 = true := by decide +kernel
set_option maxRecDepth 100000 in
theorem bl_108 : blP 108 := by
  show ∀ q ∈ m_bl 108, okB (m_b 108) (m_cn 108) (m_kd 108) (rkf (m_ret 108)) q.1 q.2 = true
  exact List.forall_mem_cons.mpr ⟨bw_108_0, List.forall_mem_cons.mpr ⟨bw_108_128, List.forall_mem_cons.mpr ⟨bw_108_129, List.forall_mem_cons.mpr ⟨bw_108_134, List.forall_mem_cons.mpr ⟨bw_108_196, List.forall_mem_cons.mpr ⟨bw_108_197, List.forall_mem_cons.mpr ⟨bw_108_202, List.forall_mem_cons.mpr ⟨bw_108_282, List.forall_mem_cons.mpr ⟨bw_108_283, List.forall_mem_cons.mpr ⟨bw_108_291, List.forall_mem_cons.mpr ⟨bw_108_297, List.forall_mem_cons.mpr ⟨bw_108_300, List.forall_mem_cons.mpr ⟨bw_108_310, List.forall_mem_cons.mpr ⟨bw_108_311, List.forall_mem_cons.mpr ⟨bw_108_357, List.forall_mem_cons.mpr ⟨bw_108_372, List.forall_mem_cons.mpr ⟨bw_108_379, List.forall_mem_cons.mpr ⟨bw_108_380, List.forall_mem_cons.mpr ⟨bw_108_385, List.forall_mem_cons.mpr ⟨bw_108_406, List.forall_mem_cons.mpr ⟨bw_108_407, List.forall_mem_cons.mpr ⟨bw_108_432, List.forall_mem_cons.mpr ⟨bw_108_453, List.forall_mem_cons.mpr ⟨bw_108_454, List.forall_mem_cons.mpr ⟨bw_108_459, List.forall_mem_cons.mpr ⟨bw_108_496, List.forall_mem_cons.mpr ⟨bw_108_497, List.forall_mem_cons.mpr ⟨bw_108_505, List.forall_mem_cons.mpr ⟨bw_108_516, List.forall_mem_cons.mpr ⟨bw_108_523, List.forall_mem_cons.mpr ⟨bw_108_524, List.forall_mem_cons.mpr ⟨bw_108_529, List.forall_mem_cons.mpr ⟨bw_108_565, List.forall_mem_cons.mpr ⟨bw_108_569, List.forall_mem_cons.mpr ⟨bw_108_596, List.forall_mem_cons.mpr ⟨bw_108_625, List.forall_mem_cons.mpr ⟨bw_108_626, List.forall_mem_cons.mpr ⟨bw_108_653, List.forall_mem_cons.mpr ⟨bw_108_654, List.forall_mem_cons.mpr ⟨bw_108_662, List.forall_mem_cons.mpr ⟨bw_108_668, fun _ h => absurd h List.not_mem_nil⟩⟩⟩⟩⟩⟩⟩⟩⟩⟩⟩⟩⟩⟩⟩⟩⟩⟩⟩⟩⟩⟩⟩⟩⟩⟩⟩⟩⟩⟩⟩⟩⟩⟩⟩⟩⟩⟩⟩⟩⟩
