theorem bw_105_0 : okB (m_b 105) (m_cn 105) (m_kd 105) (rkf (m_ret 105)) 0 s_L_areGains_0 = true := by decide +kernel
theorem bw_105_30 : okB (m_b 105) (m_cn 105) (m_kd 105) (rkf (m_ret 105)) 30 s_L_areGains_30 = true := by decide +kernel
theorem bw_105_31 : okB (m_b 105) (m_cn 105) (m_kd 105) (rkf (m_ret 105)) 31 s_L_areGains_31 = true := by decide +kernel
theorem bw_105_59 : okB (m_b 105) (m_cn 105) (m_kd 105) (rkf (m_ret 105)) 59 s_L_areGains_59 = true := by decide +kernel
theorem bw_105_60 : okB (m_b 105) (m_cn 105) (m_kd 105) (rkf (m_ret 105)) 60 s_L_areGains_60 = true := by decide +kernel
theorem bw_105_103 : okB (m_b 105) (m_cn 105) (m_kd 105) (rkf (m_ret 105)) 103 s_L_areGains_103 = true := by decide +kernel
theorem bw_105_104 : okB (m_b 105) (m_cn 105) (m_kd 105) (rkf (m_ret 105)) 104 s_L_areGains_104 = true := by decide +kernel
theorem bw_105_121 : okB (m_b 105) (m_cn 105) (m_kd 105) (rkf (m_ret 105)) 121 s_L_areGains_121 = true := by decide +kernel
theorem bw_105_239 : okB (m_b 105) (m_cn 105) (m_kd 105) (rkf (m_ret 105)) 239 s_L_areGains_239 = true := by decide +kernel
theorem bw_105_253 : okB (m_b 105) (m_cn 105) (m_kd 105) (rkf (m_ret 105)) 253 s_L_areGains_253 = true := by decide +kernel
theorem bw_105_269 : okB (m_b 105) (m_cn 105) (m_kd 105) (rkf (m_ret 105)) 269 s_L_areGains_269 = true := by decide +kernel
theorem bw_105_280 : okB (m_b 105) (m_cn 105) (m_kd 105) (rkf (m_ret 105)) 280 s_L_areGains_280 = true := by decide +kernel
theorem bw_105_284 : okB (m_b 105) (m_cn 105) (m_kd 105) (rkf (m_ret 105)) 284 s_L_areGains_284 = true := by decide +kernel
theorem bw_105_285 : okB (m_b 105) (m_cn 105) (m_kd 105) (rkf (m_ret 105)) 285 s_L_areGains_285 = true := by decide +kernel
theorem bw_105_293 : okB (m_b 105) (m_cn 105) (m_kd 105) (rkf (m_ret 105)) 293 s_L_areGains_293 = true := by decide +kernel
theorem bw_105_310 : okB (m_b 105) (m_cn 105) (m_kd 105) (rkf (m_ret 105)) 310 s_L_areGains_310 = true := by decide +kernel
theorem bw_105_331 : okB (m_b 105) (m_cn 105) (m_kd 105) (rkf (m_ret 105)) 331 s_L_areGains_331 = true := by decide +kernel
theorem bw_105_385 : okB (m_b 105) (m_cn 105) (m_kd 105) (rkf (m_ret 105)) 385 s_L_areGains_385 = true := by decide +kernel
theorem bw_105_404 : okB (m_b 105) (m_cn 105) (m_kd 105) (rkf (m_ret 105)) 404 s_L_areGains_404 = true := by decide +kernel
theorem bw_105_423 : okB (m_b 105) (m_cn 105) (m_kd 105) (rkf (m_ret 105)) 423 s_L_areGains_423 = true := by decide +kernel
theorem bw_105_427 : okB (m_b 105) (m_cn 105) (m_kd 105) (rkf (m_ret 105)) 427 s_L_areGains_427 = true := by decide +kernel
theorem bw_105_428 : okB (m_b 105) (m_cn 105) (m_kd 105) (rkf (m_ret 105)) 428 s_L_areGains_428 = true := by decide +kernel
theorem bw_105_436 : okB (m_b 105) (m_cn 105) (m_kd 105) (rkf (m_ret 105)) 436 s_L_areGains_436 = true := by decide +kernel
set_option maxRecDepth 100000 in
theorem bl_105 : blP 105 := by
  show ∀ q ∈ m_bl 105, okB (m_b 105) (m_cn 105) (m_kd 105) (rkf (m_ret 105)) q.1 q.2 = true
  exact List.forall_mem_cons.mpr ⟨bw_105_0, List.forall_mem_cons.mpr ⟨bw_105_30, List.forall_mem_cons.mpr ⟨bw_105_31, List.forall_mem_cons.mpr ⟨bw_105_59, List.forall_mem_cons.mpr ⟨bw_105_60, List.forall_mem_cons.mpr ⟨bw_105_103, List.forall_mem_cons.mpr ⟨bw_105_104, List.forall_mem_cons.mpr ⟨bw_105_121, List.forall_mem_cons.mpr ⟨bw_105_239, List.forall_mem_cons.mpr ⟨bw_105_253, List.forall_mem_cons.mpr ⟨bw_105_269, List.forall_mem_cons.mpr ⟨bw_105_280, List.forall_mem_cons.mpr ⟨bw_105_284, List.forall_mem_cons.mpr ⟨bw_105_285, List.forall_mem_cons.mpr ⟨bw_105_293, List.forall_mem_cons.mpr ⟨bw_105_310, List.forall_mem_cons.mpr ⟨bw_105_331, List.forall_mem_cons.mpr ⟨bw_105_385, List.forall_mem_cons.mpr ⟨bw_105_404, List.forall_mem_cons.mpr ⟨bw_105_423, List.forall_mem_cons.mpr ⟨bw_105_427, List.forall_mem_cons.mpr ⟨bw_105_428, List.forall_mem_cons.mpr ⟨bw_105_436, fun _ h => absurd h List.not_mem_nil⟩⟩⟩⟩⟩⟩⟩⟩⟩⟩⟩⟩⟩⟩⟩⟩⟩⟩⟩⟩⟩⟩⟩
theorem mp_105 : mP 105 := ⟨⟨by decide +kernel, by decide +kernel, by decide +kernel, by decide +kernel⟩, ⟨lwi 774 (by decide +kernel) (by decide +kernel), lwi 18 (by decide +kernel) (by decide +kernel)⟩, fun _ => lwi 773 (by decide +kernel) (by decide +kernel), fun h => absurd h (by decide), fun h => absurd h (by decide), ⟨by decide, by decide +kernel⟩, bl_105⟩
theorem bw_106_0 : okB (m_b 106) (m_cn 106) (m_kd 106) (rkf (m_ret 106)) 0 s_L_costs_0 = true := by decide +kernel
theorem bw_106_33 : okB (m_b 106) (m_cn 106) (m_kd 106) (rkf (m_ret 106)) 33 s_L_costs_33 = true := by decide +kernel
theorem bw_106_46 : okB (m_b 106) (m_cn 106) (m_kd 106) (rkf (m_ret 106)) 46 s_L_costs_46 = true := by decide +kernel
theorem bw_106_67 : okB (m_b 106) (m_cn 106) (m_kd 106) (rkf (m_ret 106)) 67 s_L_costs_67 = true := by decide +kernel
theorem bw_106_111 : okB (m_b 106) (m_cn 106) (m_kd 106) (rkf (m_ret 106)) 111 s_L_costs_111 = true := by decide +kernel
theorem bw_106_136 : okB (m_b 106) (m_cn 106) (m_kd 106) (rkf (m_ret 106)) 136 s_L_costs_136 = true := by decide +kernel
theorem bw_106_150 : okB (m_b 106) (m_cn 106) (m_kd 106) (rkf (m_ret 106)) 150 s_L_costs_150 = true := by decide +kernel
theorem bw_106_153 : okB (m_b 106) (m_cn 106) (m_kd 106) (rkf (m_ret 106)) 153 s_L_costs_153 = true := by decide +kernel
theorem bw_106_169 : okB (m_b 106) (m_cn 106) (m_kd 106) (rkf (m_ret 106)) 169 s_L_costs_169 = true := by decide +kernel
theorem bw_106_222 : okB (m_b 106) (m_cn 106) (m_kd 106) (rkf (m_ret 106)) 222 s_L_costs_222 = true := by decide +kernel
theorem bw_106_284 : okB (m_b 106) (m_cn 106) (m_kd 106) (rkf (m_ret 106)) 284 s_L_costs_284 = true := by decide +kernel
theorem bw_106_290 : okB (m_b 106) (m_cn 106) (m_kd 106) (rkf (m_ret 106)) 290 s_L_costs_290 = true := by decide +kernel
theorem bw_106_296 : okB (m_b 106) (m_cn 106) (m_kd 106) (rkf (m_ret 106)) 296 s_L_costs_296 = true := by decide +kernel
theorem bw_106_309 : okB (m_b 106) (m_cn 106) (m_kd 106) (rkf (m_ret 106)) 309 s_L_costs_309 = true := by decide +kernel
theorem bw_106_310 : okB (m_b 106) (m_cn 106) (m_kd 106) (rkf (m_ret 106)) 310 s_L_costs_310 = true := by decide +kernel
theorem bw_106_315 : okB (m_b 106) (m_cn 106) (m_kd 106) (rkf (m_ret 106)) 315 s_L_costs_315 = true := by decide +kernel
theorem bw_106_325 : okB (m_b 106) (m_cn 106) (m_kd 106) (rkf (m_ret 106)) 325 s_L_costs_325 = true := by decide +kernel
theorem bw_106_362 : okB (m_b 106) (m_cn 106) (m_kd 106) (rkf (m_ret 106)) 362 s_L_costs_362 = true := by decide +kernel
theorem bw_106_411 : okB (m_b 106) (m_cn 106) (m_kd 106) (rkf (m_ret 106)) 411 s_L_costs_411 = true := by decide +kernel
theorem bw_106_456 : okB (m_b 106) (m_cn 106) (m_kd 106) (rkf (m_ret 106)) 456 s_L_costs_456 = true := by decide +kernel
theorem bw_106_462 : okB (m_b 106) (m_cn 106) (m_kd 106) (rkf (m_ret 106)) 462 s_L_costs_462 = true := by decide +kernel
theorem bw_106_468 : okB (m_b 106) (m_cn 106) (m_kd 106) (rkf (m_ret 106)) 468 s_L_costs_468 = true := by decide +kernel
theorem bw_106_474 : okB (m_b 106) (m_cn 106) (m_kd 106) (rkf (m_ret 106)) 474 s_L_costs_474 = true := by decide +kernel
theorem bw_106_497 : okB (m_b 106) (m_cn 106) (m_kd 106) (rkf (m_ret 106)) 497 s_L_costs_497 = true := by decide +kernel
set_option maxRecDepth 100000 in
theorem bl_106 : blP 106 := by
  show ∀ q ∈ m_bl 106, okB (m_b 106) (m_cn 106) (m_kd 106) (rkf (m_ret 106)) q.1 q.2 = true
  exact List.forall_mem_cons.mpr ⟨bw_106_0, List.forall_mem_cons.mpr ⟨bw_106_33, List.forall_mem_cons.mpr ⟨bw_106_46, List.forall_mem_cons.mpr ⟨bw_106_67, List.forall_mem_cons.mpr ⟨bw_106_111, List.forall_mem_cons.mpr ⟨bw_106_136, List.forall_mem_cons.mpr ⟨bw_106_150, List.forall_mem_cons.mpr ⟨bw_106_153, List.forall_mem_cons.mpr ⟨bw_106_169, List.forall_mem_cons.mpr ⟨bw_106_222, List.forall_mem_cons.mpr ⟨bw_106_284, List.forall_mem_cons.mpr ⟨bw_106_290, List.forall_mem_cons.mpr ⟨bw_106_296, List.forall_mem_cons.mpr ⟨bw_106_309, List.forall_mem_cons.mpr ⟨bw_106_310, List.forall_mem_cons.mpr ⟨bw_106_315, List.forall_mem_cons.mpr ⟨bw_106_325, List.forall_mem_cons.mpr ⟨bw_106_362, List.forall_mem_cons.mpr ⟨bw_106_411, List.forall_mem_cons.mpr ⟨bw_106_456, List.forall_mem_cons.mpr ⟨bw_106_462, List.forall_mem_cons.mpr ⟨bw_106_468, List.forall_mem_cons.mpr ⟨bw_106_474, List.forall_mem_cons.mpr ⟨bw_106_497, fun _ h => absurd h List.not_mem_nil⟩⟩⟩⟩⟩⟩⟩⟩⟩⟩⟩⟩⟩⟩⟩⟩⟩⟩⟩⟩⟩⟩⟩⟩
theorem mp_106 : mP 106 := ⟨⟨by decide +kernel, by decide +kernel, by decide +kernel, by decide +kernel⟩, ⟨lwi 744 (by decide +kernel) (by decide +kernel), lwi 18 (by decide +kernel) (by decide +kernel)⟩, fun _ => lwi 743 (by decide +kernel) (by decide +kernel), fun h => absurd h (by decide), fun h => absurd h (by decide), ⟨by decide, by decide +kernel⟩, bl_106⟩
