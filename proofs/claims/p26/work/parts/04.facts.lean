theorem bl_93 : blP 93 := by unfold blP; decide +kernel
theorem mp_93 : mP 93 := ⟨⟨by decide +kernel, by decide +kernel, by decide +kernel, by decide +kernel⟩, ⟨lwi 259 (by decide +kernel) (by decide +kernel), lwi 18 (by decide +kernel) (by decide +kernel)⟩, fun _ => lwi 258 (by decide +kernel) (by decide +kernel), fun h => absurd h (by decide), fun h => absurd h (by decide), ⟨by decide, by decide +kernel⟩, bl_93⟩
theorem bw_94_0 : okB (m_b 94) (m_cn 94) (m_kd 94) (rkf (m_ret 94)) 0 s_L_does_0 = true := by decide +kernel
theorem bw_94_12 : okB (m_b 94) (m_cn 94) (m_kd 94) (rkf (m_ret 94)) 12 s_L_does_12 = true := by decide +kernel
theorem bw_94_32 : okB (m_b 94) (m_cn 94) (m_kd 94) (rkf (m_ret 94)) 32 s_L_does_32 = true := by decide +kernel
theorem bw_94_50 : okB (m_b 94) (m_cn 94) (m_kd 94) (rkf (m_ret 94)) 50 s_L_does_50 = true := by decide +kernel
theorem bw_94_51 : okB (m_b 94) (m_cn 94) (m_kd 94) (rkf (m_ret 94)) 51 s_L_does_51 = true := by decide +kernel
theorem bw_94_57 : okB (m_b 94) (m_cn 94) (m_kd 94) (rkf (m_ret 94)) 57 s_L_does_57 = true := by decide +kernel
theorem bw_94_71 : okB (m_b 94) (m_cn 94) (m_kd 94) (rkf (m_ret 94)) 71 s_L_does_71 = true := by decide +kernel
theorem bw_94_84 : okB (m_b 94) (m_cn 94) (m_kd 94) (rkf (m_ret 94)) 84 s_L_does_84 = true := by decide +kernel
theorem bw_94_97 : okB (m_b 94) (m_cn 94) (m_kd 94) (rkf (m_ret 94)) 97 s_L_does_97 = true := by decide +kernel
theorem bw_94_111 : okB (m_b 94) (m_cn 94) (m_kd 94) (rkf (m_ret 94)) 111 s_L_does_111 = true := by decide +kernel
theorem bw_94_125 : okB (m_b 94) (m_cn 94) (m_kd 94) (rkf (m_ret 94)) 125 s_L_does_125 = true := by decide +kernel
theorem bw_94_144 : okB (m_b 94) (m_cn 94) (m_kd 94) (rkf (m_ret 94)) 144 s_L_does_144 = true := by decide +kernel
theorem bw_94_163 : okB (m_b 94) (m_cn 94) (m_kd 94) (rkf (m_ret 94)) 163 s_L_does_163 = true := by decide +kernel
theorem bw_94_164 : okB (m_b 94) (m_cn 94) (m_kd 94) (rkf (m_ret 94)) 164 s_L_does_164 = true := by decide +kernel
theorem bw_94_170 : okB (m_b 94) (m_cn 94) (m_kd 94) (rkf (m_ret 94)) 170 s_L_does_170 = true := by decide +kernel
theorem bw_94_185 : okB (m_b 94) (m_cn 94) (m_kd 94) (rkf (m_ret 94)) 185 s_L_does_185 = true := by decide +kernel
theorem bw_94_200 : okB (m_b 94) (m_cn 94) (m_kd 94) (rkf (m_ret 94)) 200 s_L_does_200 = true := by decide +kernel
theorem bw_94_215 : okB (m_b 94) (m_cn 94) (m_kd 94) (rkf (m_ret 94)) 215 s_L_does_215 = true := by decide +kernel
theorem bw_94_234 : okB (m_b 94) (m_cn 94) (m_kd 94) (rkf (m_ret 94)) 234 s_L_does_234 = true := by decide +kernel
theorem bw_94_253 : okB (m_b 94) (m_cn 94) (m_kd 94) (rkf (m_ret 94)) 253 s_L_does_253 = true := by decide +kernel
theorem bw_94_268 : okB (m_b 94) (m_cn 94) (m_kd 94) (rkf (m_ret 94)) 268 s_L_does_268 = true := by decide +kernel
theorem bw_94_273 : okB (m_b 94) (m_cn 94) (m_kd 94) (rkf (m_ret 94)) 273 s_L_does_273 = true := by decide +kernel
theorem bw_94_274 : okB (m_b 94) (m_cn 94) (m_kd 94) (rkf (m_ret 94)) 274 s_L_does_274 = true := by decide +kernel
theorem bw_94_280 : okB (m_b 94) (m_cn 94) (m_kd 94) (rkf (m_ret 94)) 280 s_L_does_280 = true := by decide +kernel
theorem bw_94_286 : okB (m_b 94) (m_cn 94) (m_kd 94) (rkf (m_ret 94)) 286 s_L_does_286 = true := by decide +kernel
set_option maxRecDepth 100000 in
theorem bl_94 : blP 94 := by
  show ∀ q ∈ m_bl 94, okB (m_b 94) (m_cn 94) (m_kd 94) (rkf (m_ret 94)) q.1 q.2 = true
  exact List.forall_mem_cons.mpr ⟨bw_94_0, List.forall_mem_cons.mpr ⟨bw_94_12, List.forall_mem_cons.mpr ⟨bw_94_32, List.forall_mem_cons.mpr ⟨bw_94_50, List.forall_mem_cons.mpr ⟨bw_94_51, List.forall_mem_cons.mpr ⟨bw_94_57, List.forall_mem_cons.mpr ⟨bw_94_71, List.forall_mem_cons.mpr ⟨bw_94_84, List.forall_mem_cons.mpr ⟨bw_94_97, List.forall_mem_cons.mpr ⟨bw_94_111, List.forall_mem_cons.mpr ⟨bw_94_125, List.forall_mem_cons.mpr ⟨bw_94_144, List.forall_mem_cons.mpr ⟨bw_94_163, List.forall_mem_cons.mpr ⟨bw_94_164, List.forall_mem_cons.mpr ⟨bw_94_170, List.forall_mem_cons.mpr ⟨bw_94_185, List.forall_mem_cons.mpr ⟨bw_94_200, List.forall_mem_cons.mpr ⟨bw_94_215, List.forall_mem_cons.mpr ⟨bw_94_234, List.forall_mem_cons.mpr ⟨bw_94_253, List.forall_mem_cons.mpr ⟨bw_94_268, List.forall_mem_cons.mpr ⟨bw_94_273, List.forall_mem_cons.mpr ⟨bw_94_274, List.forall_mem_cons.mpr ⟨bw_94_280, List.forall_mem_cons.mpr ⟨bw_94_286, fun _ h => absurd h List.not_mem_nil⟩⟩⟩⟩⟩⟩⟩⟩⟩⟩⟩⟩⟩⟩⟩⟩⟩⟩⟩⟩⟩⟩⟩⟩⟩
theorem mp_94 : mP 94 := ⟨⟨by decide +kernel, by decide +kernel, by decide +kernel, by decide +kernel⟩, ⟨lwi 263 (by decide +kernel) (by decide +kernel), lwi 18 (by decide +kernel) (by decide +kernel)⟩, fun _ => lwi 262 (by decide +kernel) (by decide +kernel), fun h => absurd h (by decide), fun h => absurd h (by decide), ⟨by decide, by decide +kernel⟩, bl_94⟩
theorem bl_95 : blP 95 := by unfold blP; decide +kernel
theorem mp_95 : mP 95 := ⟨⟨by decide +kernel, by decide +kernel, by decide +kernel, by decide +kernel⟩, ⟨lwi 708 (by decide +kernel) (by decide +kernel), lwi 18 (by decide +kernel) (by decide +kernel)⟩, fun _ => lwi 707 (by decide +kernel) (by decide +kernel), fun h => absurd h (by decide), fun h => absurd h (by decide), ⟨by decide, by decide +kernel⟩, bl_95⟩
theorem bl_96 : blP 96 := by unfold blP; decide +kernel
theorem mp_96 : mP 96 := ⟨⟨by decide +kernel, by decide +kernel, by decide +kernel, by decide +kernel⟩, ⟨lwi 711 (by decide +kernel) (by decide +kernel), lwi 18 (by decide +kernel) (by decide +kernel)⟩, fun _ => lwi 710 (by decide +kernel) (by decide +kernel), fun h => absurd h (by decide), fun h => absurd h (by decide), ⟨by decide, by decide +kernel⟩, bl_96⟩
theorem bl_97 : blP 97 := by unfold blP; decide +kernel
theorem mp_97 : mP 97 := ⟨⟨by decide +kernel, by decide +kernel, by decide +kernel, by decide +kernel⟩, ⟨lwi 685 (by decide +kernel) (by decide +kernel), lwi 18 (by decide +kernel) (by decide +kernel)⟩, fun _ => lwi 684 (by decide +kernel) (by decide +kernel), fun h => absurd h (by decide), fun h => absurd h (by decide), ⟨by decide, by decide +kernel⟩, bl_97⟩
theorem bw_98_0 : okB (m_b 98) (m_cn 98) (m_kd 98) (rkf (m_ret 98)) 0 s_L_determinant_0 = true := by decide +kernel
theorem bw_98_7 : okB (m_b 98) (m_cn 98) (m_kd 98) (rkf (m_ret 98)) 7 s_L_determinant_7 = true := by decide +kernel
theorem bw_98_16 : okB (m_b 98) (m_cn 98) (m_kd 98) (rkf (m_ret 98)) 16 s_L_determinant_16 = true := by decide +kernel
theorem bw_98_41 : okB (m_b 98) (m_cn 98) (m_kd 98) (rkf (m_ret 98)) 41 s_L_determinant_41 = true := by decide +kernel
theorem bw_98_52 : okB (m_b 98) (m_cn 98) (m_kd 98) (rkf (m_ret 98)) 52 s_L_determinant_52 = true := by decide +kernel
theorem bw_98_55 : okB (m_b 98) (m_cn 98) (m_kd 98) (rkf (m_ret 98)) 55 s_L_determinant_55 = true := by decide +kernel
theorem bw_98_119 : okB (m_b 98) (m_cn 98) (m_kd 98) (rkf (m_ret 98)) 119 s_L_determinant_119 = true := by decide +kernel
theorem bw_98_154 : okB (m_b 98) (m_cn 98) (m_kd 98) (rkf (m_ret 98)) 154 s_L_determinant_154 = true := by decide +kernel
theorem bw_98_182 : okB (m_b 98) (m_cn 98) (m_kd 98) (rkf (m_ret 98)) 182 s_L_determinant_182 = true := by decide +kernel
theorem bw_98_234 : okB (m_b 98) (m_cn 98) (m_kd 98) (rkf (m_ret 98)) 234 s_L_determinant_234 = true := by decide +kernel
theorem bw_98_240 : okB (m_b 98) (m_cn 98) (m_kd 98) (rkf (m_ret 98)) 240 s_L_determinant_240 = true := by decide +kernel
theorem bw_98_243 : okB (m_b 98) (m_cn 98) (m_kd 98) (rkf (m_ret 98)) 243 s_L_determinant_243 = true := by decide +kernel
theorem bw_98_249 : okB (m_b 98) (m_cn 98) (m_kd 98) (rkf (m_ret 98)) 249 s_L_determinant_249 = true := by decide +kernel
theorem bw_98_258 : okB (m_b 98) (m_cn 98) (m_kd 98) (rkf (m_ret 98)) 258 s_L_determinant_258 = true := by decide +kernel
theorem bw_98_262 : okB (m_b 98) (m_cn 98) (m_kd 98) (rkf (m_ret 98)) 262 s_L_determinant_262 = true := by decide +kernel
set_option maxRecDepth 100000 in
theorem bl_98 : blP 98 := by
  show ∀ q ∈ m_bl 98, okB (m_b 98) (m_cn 98) (m_kd 98) (rkf (m_ret 98)) q.1 q.2 = true
  exact List.forall_mem_cons.mpr ⟨bw_98_0, List.forall_mem_cons.mpr ⟨bw_98_7, List.forall_mem_cons.mpr ⟨bw_98_16, List.forall_mem_cons.mpr ⟨bw_98_41, List.forall_mem_cons.mpr ⟨bw_98_52, List.forall_mem_cons.mpr ⟨bw_98_55, List.forall_mem_cons.mpr ⟨bw_98_119, List.forall_mem_cons.mpr ⟨bw_98_154, List.forall_mem_cons.mpr ⟨bw_98_182, List.forall_mem_cons.mpr ⟨bw_98_234, List.forall_mem_cons.mpr ⟨bw_98_240, List.forall_mem_cons.mpr ⟨bw_98_243, List.forall_mem_cons.mpr ⟨bw_98_249, List.forall_mem_cons.mpr ⟨bw_98_258, List.forall_mem_cons.mpr ⟨bw_98_262, fun _ h => absurd h List.not_mem_nil⟩⟩⟩⟩⟩⟩⟩⟩⟩⟩⟩⟩⟩⟩⟩
theorem mp_98 : mP 98 := ⟨⟨by decide +kernel, by decide +kernel, by decide +kernel, by decide +kernel⟩, ⟨lwi 705 (by decide +kernel) (by decide +kernel), lwi 18 (by decide +kernel) (by decide +kernel)⟩, fun _ => lwi 704 (by decide +kernel) (by decide +kernel), fun h => absurd h (by decide), fun h => absurd h (by decide), ⟨by decide, by decide +kernel⟩, bl_98⟩
theorem bl_99 : blP 99 := by unfold blP; decide +kernel
theorem mp_99 : mP 99 := ⟨⟨by decide +kernel, by decide +kernel, by decide +kernel, by decide +kernel⟩, ⟨lwi 702 (by decide +kernel) (by decide +kernel), lwi 18 (by decide +kernel) (by decide +kernel)⟩, fun _ => lwi 701 (by decide +kernel) (by decide +kernel), fun h => absurd h (by decide), fun h => absurd h (by decide), ⟨by decide, by decide +kernel⟩, bl_99⟩
theorem bl_100 : blP 100 := by unfold blP; decide +kernel
theorem mp_100 : mP 100 := ⟨⟨by decide +kernel, by decide +kernel, by decide +kernel, by decide +kernel⟩, ⟨lwi 718 (by decide +kernel) (by decide +kernel), lwi 18 (by decide +kernel) (by decide +kernel)⟩, fun _ => lwi 717 (by decide +kernel) (by decide +kernel), fun h => absurd h (by decide), fun h => absurd h (by decide), ⟨by decide, by decide +kernel⟩, bl_100⟩
theorem bl_101 : blP 101 := by unfold blP; decide +kernel
theorem mp_101 : mP 101 := ⟨⟨by decide +kernel, by decide +kernel, by decide +kernel, by decide +kernel⟩, ⟨lwi 715 (by decide +kernel) (by decide +kernel), lwi 18 (by decide +kernel) (by decide +kernel)⟩, fun _ => lwi 714 (by decide +kernel) (by decide +kernel), fun h => absurd h (by decide), fun h => absurd h (by decide), ⟨by decide, by decide +kernel⟩, bl_101⟩
theorem bl_102 : blP 102 := by unfold blP; decide +kernel
theorem mp_102 : mP 102 := ⟨⟨by decide +kernel, by decide +kernel, by decide +kernel, by decide +kernel⟩, ⟨lwi 691 (by decide +kernel) (by decide +kernel), lwi 18 (by decide +kernel) (by decide +kernel)⟩, fun _ => lwi 690 (by decide +kernel) (by decide +kernel), fun h => absurd h (by decide), fun h => absurd h (by decide), ⟨by decide, by decide +kernel⟩, bl_102⟩
theorem bl_103 : blP 103 := by unfold blP; decide +kernel
theorem mp_103 : mP 103 := ⟨⟨by decide +kernel, by decide +kernel, by decide +kernel, by decide +kernel⟩, ⟨lwi 688 (by decide +kernel) (by decide +kernel), lwi 18 (by decide +kernel) (by decide +kernel)⟩, fun _ => lwi 687 (by decide +kernel) (by decide +kernel), fun h => absurd h (by decide), fun h => absurd h (by decide), ⟨by decide, by decide +kernel⟩, bl_103⟩
theorem bl_104 : blP 104 := by unfold blP; decide +kernel
theorem mp_104 : mP 104 := ⟨⟨by decide +kernel, by decide +kernel, by decide +kernel, by decide +kernel⟩, ⟨lwi 699 (by decide +kernel) (by decide +kernel), lwi 18 (by decide +kernel) (by decide +kernel)⟩, fun _ => lwi 698 (by decide +kernel) (by decide +kernel), fun h => absurd h (by decide), fun h => absurd h (by decide), ⟨by decide, by decide +kernel⟩, bl_104⟩
