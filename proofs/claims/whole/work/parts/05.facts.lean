theorem bl_125 : blP 125 := by unfold blP; decide +kernel
theorem mp_125 : mP 125 := ⟨⟨by decide +kernel, by decide +kernel, by decide +kernel, by decide +kernel⟩, ⟨lwi 1020 (by decide +kernel) (by decide +kernel), lwi 53 (by decide +kernel) (by decide +kernel)⟩, fun h => absurd h (by decide), fun _ => ⟨lwi 1019 (by decide +kernel) (by decide +kernel), lwi 35 (by decide +kernel) (by decide +kernel)⟩, fun h => absurd h (by decide), ⟨by decide, by decide +kernel⟩, bl_125⟩
theorem bl_126 : blP 126 := by unfold blP; decide +kernel
theorem mp_126 : mP 126 := ⟨⟨by decide +kernel, by decide +kernel, by decide +kernel, by decide +kernel⟩, ⟨lwi 972 (by decide +kernel) (by decide +kernel), lwi 53 (by decide +kernel) (by decide +kernel)⟩, fun h => absurd h (by decide), fun _ => ⟨lwi 970 (by decide +kernel) (by decide +kernel), lwi 971 (by decide +kernel) (by decide +kernel)⟩, fun h => absurd h (by decide), ⟨by decide, by decide +kernel⟩, bl_126⟩
theorem bl_127 : blP 127 := by unfold blP; decide +kernel
theorem mp_127 : mP 127 := ⟨⟨by decide +kernel, by decide +kernel, by decide +kernel, by decide +kernel⟩, ⟨lwi 1016 (by decide +kernel) (by decide +kernel), lwi 53 (by decide +kernel) (by decide +kernel)⟩, fun h => absurd h (by decide), fun _ => ⟨lwi 1014 (by decide +kernel) (by decide +kernel), lwi 1015 (by decide +kernel) (by decide +kernel)⟩, fun h => absurd h (by decide), ⟨by decide, by decide +kernel⟩, bl_127⟩
theorem bl_128 : blP 128 := by unfold blP; decide +kernel
theorem mp_128 : mP 128 := ⟨⟨by decide +kernel, by decide +kernel, by decide +kernel, by decide +kernel⟩, ⟨lwi 1024 (by decide +kernel) (by decide +kernel), lwi 53 (by decide +kernel) (by decide +kernel)⟩, fun h => absurd h (by decide), fun _ => ⟨lwi 1022 (by decide +kernel) (by decide +kernel), lwi 1023 (by decide +kernel) (by decide +kernel)⟩, fun h => absurd h (by decide), ⟨by decide, by decide +kernel⟩, bl_128⟩
theorem bl_129 : blP 129 := by unfold blP; decide +kernel
theorem mp_129 : mP 129 := ⟨⟨by decide +kernel, by decide +kernel, by decide +kernel, by decide +kernel⟩, ⟨lwi 1028 (by decide +kernel) (by decide +kernel), lwi 53 (by decide +kernel) (by decide +kernel)⟩, fun h => absurd h (by decide), fun _ => ⟨lwi 1026 (by decide +kernel) (by decide +kernel), lwi 1027 (by decide +kernel) (by decide +kernel)⟩, fun h => absurd h (by decide), ⟨by decide, by decide +kernel⟩, bl_129⟩
theorem bl_130 : blP 130 := by unfold blP; decide +kernel
theorem mp_130 : mP 130 := ⟨⟨by decide +kernel, by decide +kernel, by decide +kernel, by decide +kernel⟩, ⟨lwi 1032 (by decide +kernel) (by decide +kernel), lwi 53 (by decide +kernel) (by decide +kernel)⟩, fun h => absurd h (by decide), fun _ => ⟨lwi 1030 (by decide +kernel) (by decide +kernel), lwi 1031 (by decide +kernel) (by decide +kernel)⟩, fun h => absurd h (by decide), ⟨by decide, by decide +kernel⟩, bl_130⟩
theorem bl_131 : blP 131 := by unfold blP; decide +kernel
theorem mp_131 : mP 131 := ⟨⟨by decide +kernel, by decide +kernel, by decide +kernel, by decide +kernel⟩, ⟨lwi 1040 (by decide +kernel) (by decide +kernel), lwi 53 (by decide +kernel) (by decide +kernel)⟩, fun h => absurd h (by decide), fun _ => ⟨lwi 1038 (by decide +kernel) (by decide +kernel), lwi 1039 (by decide +kernel) (by decide +kernel)⟩, fun h => absurd h (by decide), ⟨by decide, by decide +kernel⟩, bl_131⟩
theorem bl_132 : blP 132 := by unfold blP; decide +kernel
theorem mp_132 : mP 132 := ⟨⟨by decide +kernel, by decide +kernel, by decide +kernel, by decide +kernel⟩, ⟨lwi 1052 (by decide +kernel) (by decide +kernel), lwi 53 (by decide +kernel) (by decide +kernel)⟩, fun h => absurd h (by decide), fun _ => ⟨lwi 1051 (by decide +kernel) (by decide +kernel), lwi 38 (by decide +kernel) (by decide +kernel)⟩, fun h => absurd h (by decide), ⟨by decide, by decide +kernel⟩, bl_132⟩
theorem bl_133 : blP 133 := by unfold blP; decide +kernel
theorem mp_133 : mP 133 := ⟨⟨by decide +kernel, by decide +kernel, by decide +kernel, by decide +kernel⟩, ⟨lwi 1048 (by decide +kernel) (by decide +kernel), lwi 53 (by decide +kernel) (by decide +kernel)⟩, fun h => absurd h (by decide), fun _ => ⟨lwi 1047 (by decide +kernel) (by decide +kernel), lwi 37 (by decide +kernel) (by decide +kernel)⟩, fun h => absurd h (by decide), ⟨by decide, by decide +kernel⟩, bl_133⟩
theorem bl_134 : blP 134 := by unfold blP; decide +kernel
theorem mp_134 : mP 134 := ⟨⟨by decide +kernel, by decide +kernel, by decide +kernel, by decide +kernel⟩, ⟨lwi 1044 (by decide +kernel) (by decide +kernel), lwi 53 (by decide +kernel) (by decide +kernel)⟩, fun h => absurd h (by decide), fun _ => ⟨lwi 1042 (by decide +kernel) (by decide +kernel), lwi 1043 (by decide +kernel) (by decide +kernel)⟩, fun h => absurd h (by decide), ⟨by decide, by decide +kernel⟩, bl_134⟩
theorem bl_135 : blP 135 := by unfold blP; decide +kernel
theorem mp_135 : mP 135 := ⟨⟨by decide +kernel, by decide +kernel, by decide +kernel, by decide +kernel⟩, ⟨lwi 1060 (by decide +kernel) (by decide +kernel), lwi 53 (by decide +kernel) (by decide +kernel)⟩, fun h => absurd h (by decide), fun _ => ⟨lwi 1059 (by decide +kernel) (by decide +kernel), lwi 39 (by decide +kernel) (by decide +kernel)⟩, fun h => absurd h (by decide), ⟨by decide, by decide +kernel⟩, bl_135⟩
theorem bl_136 : blP 136 := by unfold blP; decide +kernel
theorem mp_136 : mP 136 := ⟨⟨by decide +kernel, by decide +kernel, by decide +kernel, by decide +kernel⟩, ⟨lwi 1056 (by decide +kernel) (by decide +kernel), lwi 53 (by decide +kernel) (by decide +kernel)⟩, fun h => absurd h (by decide), fun _ => ⟨lwi 1054 (by decide +kernel) (by decide +kernel), lwi 1055 (by decide +kernel) (by decide +kernel)⟩, fun h => absurd h (by decide), ⟨by decide, by decide +kernel⟩, bl_136⟩
theorem bl_137 : blP 137 := by unfold blP; decide +kernel
theorem mp_137 : mP 137 := ⟨⟨by decide +kernel, by decide +kernel, by decide +kernel, by decide +kernel⟩, ⟨lwi 1064 (by decide +kernel) (by decide +kernel), lwi 53 (by decide +kernel) (by decide +kernel)⟩, fun h => absurd h (by decide), fun _ => ⟨lwi 1062 (by decide +kernel) (by decide +kernel), lwi 1063 (by decide +kernel) (by decide +kernel)⟩, fun h => absurd h (by decide), ⟨by decide, by decide +kernel⟩, bl_137⟩
theorem bl_138 : blP 138 := by unfold blP; decide +kernel
theorem mp_138 : mP 138 := ⟨⟨by decide +kernel, by decide +kernel, by decide +kernel, by decide +kernel⟩, ⟨lwi 1073 (by decide +kernel) (by decide +kernel), lwi 53 (by decide +kernel) (by decide +kernel)⟩, fun h => absurd h (by decide), fun _ => ⟨lwi 1072 (by decide +kernel) (by decide +kernel), lwi 40 (by decide +kernel) (by decide +kernel)⟩, fun h => absurd h (by decide), ⟨by decide, by decide +kernel⟩, bl_138⟩
theorem bl_139 : blP 139 := by unfold blP; decide +kernel
theorem mp_139 : mP 139 := ⟨⟨by decide +kernel, by decide +kernel, by decide +kernel, by decide +kernel⟩, ⟨lwi 1069 (by decide +kernel) (by decide +kernel), lwi 53 (by decide +kernel) (by decide +kernel)⟩, fun h => absurd h (by decide), fun _ => ⟨lwi 1067 (by decide +kernel) (by decide +kernel), lwi 1068 (by decide +kernel) (by decide +kernel)⟩, fun h => absurd h (by decide), ⟨by decide, by decide +kernel⟩, bl_139⟩
theorem bl_140 : blP 140 := by unfold blP; decide +kernel
theorem mp_140 : mP 140 := ⟨⟨by decide +kernel, by decide +kernel, by decide +kernel, by decide +kernel⟩, ⟨lwi 1077 (by decide +kernel) (by decide +kernel), lwi 53 (by decide +kernel) (by decide +kernel)⟩, fun h => absurd h (by decide), fun _ => ⟨lwi 1075 (by decide +kernel) (by decide +kernel), lwi 1076 (by decide +kernel) (by decide +kernel)⟩, fun h => absurd h (by decide), ⟨by decide, by decide +kernel⟩, bl_140⟩
theorem bl_141 : blP 141 := by unfold blP; decide +kernel
theorem mp_141 : mP 141 := ⟨⟨by decide +kernel, by decide +kernel, by decide +kernel, by decide +kernel⟩, ⟨lwi 1082 (by decide +kernel) (by decide +kernel), lwi 53 (by decide +kernel) (by decide +kernel)⟩, fun h => absurd h (by decide), fun _ => ⟨lwi 1080 (by decide +kernel) (by decide +kernel), lwi 1081 (by decide +kernel) (by decide +kernel)⟩, fun h => absurd h (by decide), ⟨by decide, by decide +kernel⟩, bl_141⟩
theorem bl_142 : blP 142 := by unfold blP; decide +kernel
theorem mp_142 : mP 142 := ⟨⟨by decide +kernel, by decide +kernel, by decide +kernel, by decide +kernel⟩, ⟨lwi 1094 (by decide +kernel) (by decide +kernel), lwi 53 (by decide +kernel) (by decide +kernel)⟩, fun h => absurd h (by decide), fun _ => ⟨lwi 1093 (by decide +kernel) (by decide +kernel), lwi 42 (by decide +kernel) (by decide +kernel)⟩, fun h => absurd h (by decide), ⟨by decide, by decide +kernel⟩, bl_142⟩
theorem bl_143 : blP 143 := by unfold blP; decide +kernel
theorem mp_143 : mP 143 := ⟨⟨by decide +kernel, by decide +kernel, by decide +kernel, by decide +kernel⟩, ⟨lwi 1098 (by decide +kernel) (by decide +kernel), lwi 53 (by decide +kernel) (by decide +kernel)⟩, fun h => absurd h (by decide), fun _ => ⟨lwi 1097 (by decide +kernel) (by decide +kernel), lwi 43 (by decide +kernel) (by decide +kernel)⟩, fun h => absurd h (by decide), ⟨by decide, by decide +kernel⟩, bl_143⟩
theorem bl_144 : blP 144 := by unfold blP; decide +kernel
theorem mp_144 : mP 144 := ⟨⟨by decide +kernel, by decide +kernel, by decide +kernel, by decide +kernel⟩, ⟨lwi 1090 (by decide +kernel) (by decide +kernel), lwi 53 (by decide +kernel) (by decide +kernel)⟩, fun h => absurd h (by decide), fun _ => ⟨lwi 1089 (by decide +kernel) (by decide +kernel), lwi 41 (by decide +kernel) (by decide +kernel)⟩, fun h => absurd h (by decide), ⟨by decide, by decide +kernel⟩, bl_144⟩
theorem bl_145 : blP 145 := by unfold blP; decide +kernel
theorem mp_145 : mP 145 := ⟨⟨by decide +kernel, by decide +kernel, by decide +kernel, by decide +kernel⟩, ⟨lwi 1086 (by decide +kernel) (by decide +kernel), lwi 53 (by decide +kernel) (by decide +kernel)⟩, fun h => absurd h (by decide), fun _ => ⟨lwi 1084 (by decide +kernel) (by decide +kernel), lwi 1085 (by decide +kernel) (by decide +kernel)⟩, fun h => absurd h (by decide), ⟨by decide, by decide +kernel⟩, bl_145⟩
theorem bl_146 : blP 146 := by unfold blP; decide +kernel
theorem mp_146 : mP 146 := ⟨⟨by decide +kernel, by decide +kernel, by decide +kernel, by decide +kernel⟩, ⟨lwi 1102 (by decide +kernel) (by decide +kernel), lwi 53 (by decide +kernel) (by decide +kernel)⟩, fun h => absurd h (by decide), fun _ => ⟨lwi 1100 (by decide +kernel) (by decide +kernel), lwi 1101 (by decide +kernel) (by decide +kernel)⟩, fun h => absurd h (by decide), ⟨by decide, by decide +kernel⟩, bl_146⟩
theorem bl_147 : blP 147 := by unfold blP; decide +kernel
theorem mp_147 : mP 147 := ⟨⟨by decide +kernel, by decide +kernel, by decide +kernel, by decide +kernel⟩, ⟨lwi 1110 (by decide +kernel) (by decide +kernel), lwi 53 (by decide +kernel) (by decide +kernel)⟩, fun _ => lwi 1109 (by decide +kernel) (by decide +kernel), fun h => absurd h (by decide), fun h => absurd h (by decide), ⟨by decide, by decide +kernel⟩, bl_147⟩
theorem bl_148 : blP 148 := by unfold blP; decide +kernel
theorem mp_148 : mP 148 := ⟨⟨by decide +kernel, by decide +kernel, by decide +kernel, by decide +kernel⟩, ⟨lwi 1113 (by decide +kernel) (by decide +kernel), lwi 53 (by decide +kernel) (by decide +kernel)⟩, fun _ => lwi 1112 (by decide +kernel) (by decide +kernel), fun h => absurd h (by decide), fun h => absurd h (by decide), ⟨by decide, by decide +kernel⟩, bl_148⟩
theorem bl_149 : blP 149 := by unfold blP; decide +kernel
theorem mp_149 : mP 149 := ⟨⟨by decide +kernel, by decide +kernel, by decide +kernel, by decide +kernel⟩, ⟨lwi 1107 (by decide +kernel) (by decide +kernel), lwi 53 (by decide +kernel) (by decide +kernel)⟩, fun h => absurd h (by decide), fun _ => ⟨lwi 1105 (by decide +kernel) (by decide +kernel), lwi 1106 (by decide +kernel) (by decide +kernel)⟩, fun h => absurd h (by decide), ⟨by decide, by decide +kernel⟩, bl_149⟩
theorem bl_150 : blP 150 := by unfold blP; decide +kernel
theorem mp_150 : mP 150 := ⟨⟨by decide +kernel, by decide +kernel, by decide +kernel, by decide +kernel⟩, ⟨lwi 1117 (by decide +kernel) (by decide +kernel), lwi 53 (by decide +kernel) (by decide +kernel)⟩, fun h => absurd h (by decide), fun _ => ⟨lwi 1115 (by decide +kernel) (by decide +kernel), lwi 1116 (by decide +kernel) (by decide +kernel)⟩, fun h => absurd h (by decide), ⟨by decide, by decide +kernel⟩, bl_150⟩
theorem bl_151 : blP 151 := by unfold blP; decide +kernel
theorem mp_151 : mP 151 := ⟨⟨by decide +kernel, by decide +kernel, by decide +kernel, by decide +kernel⟩, ⟨lwi 286 (by decide +kernel) (by decide +kernel), lwi 44 (by decide +kernel) (by decide +kernel)⟩, fun _ => lwi 285 (by decide +kernel) (by decide +kernel), fun h => absurd h (by decide), fun h => absurd h (by decide), ⟨by decide, by decide +kernel⟩, bl_151⟩
theorem bl_152 : blP 152 := by unfold blP; decide +kernel
theorem mp_152 : mP 152 := ⟨⟨by decide +kernel, by decide +kernel, by decide +kernel, by decide +kernel⟩, ⟨lwi 383 (by decide +kernel) (by decide +kernel), lwi 44 (by decide +kernel) (by decide +kernel)⟩, fun _ => lwi 382 (by decide +kernel) (by decide +kernel), fun h => absurd h (by decide), fun h => absurd h (by decide), ⟨by decide, by decide +kernel⟩, bl_152⟩
theorem bl_153 : blP 153 := by unfold blP; decide +kernel
theorem mp_153 : mP 153 := ⟨⟨by decide +kernel, by decide +kernel, by decide +kernel, by decide +kernel⟩, ⟨lwi 434 (by decide +kernel) (by decide +kernel), lwi 44 (by decide +kernel) (by decide +kernel)⟩, fun _ => lwi 433 (by decide +kernel) (by decide +kernel), fun h => absurd h (by decide), fun h => absurd h (by decide), ⟨by decide, by decide +kernel⟩, bl_153⟩
theorem bl_154 : blP 154 := by unfold blP; decide +kernel
theorem mp_154 : mP 154 := ⟨⟨by decide +kernel, by decide +kernel, by decide +kernel, by decide +kernel⟩, ⟨lwi 460 (by decide +kernel) (by decide +kernel), lwi 44 (by decide +kernel) (by decide +kernel)⟩, fun _ => lwi 459 (by decide +kernel) (by decide +kernel), fun h => absurd h (by decide), fun h => absurd h (by decide), ⟨by decide, by decide +kernel⟩, bl_154⟩
theorem bl_155 : blP 155 := by unfold blP; decide +kernel
theorem mp_155 : mP 155 := ⟨⟨by decide +kernel, by decide +kernel, by decide +kernel, by decide +kernel⟩, ⟨lwi 480 (by decide +kernel) (by decide +kernel), lwi 44 (by decide +kernel) (by decide +kernel)⟩, fun _ => lwi 479 (by decide +kernel) (by decide +kernel), fun h => absurd h (by decide), fun h => absurd h (by decide), ⟨by decide, by decide +kernel⟩, bl_155⟩
theorem bl_156 : blP 156 := by unfold blP; decide +kernel
theorem mp_156 : mP 156 := ⟨⟨by decide +kernel, by decide +kernel, by decide +kernel, by decide +kernel⟩, ⟨lwi 499 (by decide +kernel) (by decide +kernel), lwi 44 (by decide +kernel) (by decide +kernel)⟩, fun _ => lwi 498 (by decide +kernel) (by decide +kernel), fun h => absurd h (by decide), fun h => absurd h (by decide), ⟨by decide, by decide +kernel⟩, bl_156⟩
theorem bl_157 : blP 157 := by unfold blP; decide +kernel
theorem mp_157 : mP 157 := ⟨⟨by decide +kernel, by decide +kernel, by decide +kernel, by decide +kernel⟩, ⟨lwi 506 (by decide +kernel) (by decide +kernel), lwi 44 (by decide +kernel) (by decide +kernel)⟩, fun _ => lwi 505 (by decide +kernel) (by decide +kernel), fun h => absurd h (by decide), fun h => absurd h (by decide), ⟨by decide, by decide +kernel⟩, bl_157⟩
theorem bl_158 : blP 158 := by unfold blP; decide +kernel
theorem mp_158 : mP 158 := ⟨⟨by decide +kernel, by decide +kernel, by decide +kernel, by decide +kernel⟩, ⟨lwi 583 (by decide +kernel) (by decide +kernel), lwi 44 (by decide +kernel) (by decide +kernel)⟩, fun _ => lwi 582 (by decide +kernel) (by decide +kernel), fun h => absurd h (by decide), fun h => absurd h (by decide), ⟨by decide, by decide +kernel⟩, bl_158⟩
theorem bl_159 : blP 159 := by unfold blP; decide +kernel
theorem mp_159 : mP 159 := ⟨⟨by decide +kernel, by decide +kernel, by decide +kernel, by decide +kernel⟩, ⟨lwi 604 (by decide +kernel) (by decide +kernel), lwi 44 (by decide +kernel) (by decide +kernel)⟩, fun _ => lwi 603 (by decide +kernel) (by decide +kernel), fun h => absurd h (by decide), fun h => absurd h (by decide), ⟨by decide, by decide +kernel⟩, bl_159⟩
theorem bl_160 : blP 160 := by unfold blP; decide +kernel
theorem mp_160 : mP 160 := ⟨⟨by decide +kernel, by decide +kernel, by decide +kernel, by decide +kernel⟩, ⟨lwi 611 (by decide +kernel) (by decide +kernel), lwi 44 (by decide +kernel) (by decide +kernel)⟩, fun _ => lwi 610 (by decide +kernel) (by decide +kernel), fun h => absurd h (by decide), fun h => absurd h (by decide), ⟨by decide, by decide +kernel⟩, bl_160⟩
theorem bl_161 : blP 161 := by unfold blP; decide +kernel
theorem mp_161 : mP 161 := ⟨⟨by decide +kernel, by decide +kernel, by decide +kernel, by decide +kernel⟩, ⟨lwi 618 (by decide +kernel) (by decide +kernel), lwi 44 (by decide +kernel) (by decide +kernel)⟩, fun _ => lwi 617 (by decide +kernel) (by decide +kernel), fun h => absurd h (by decide), fun h => absurd h (by decide), ⟨by decide, by decide +kernel⟩, bl_161⟩
theorem bl_162 : blP 162 := by unfold blP; decide +kernel
theorem mp_162 : mP 162 := ⟨⟨by decide +kernel, by decide +kernel, by decide +kernel, by decide +kernel⟩, ⟨lwi 648 (by decide +kernel) (by decide +kernel), lwi 44 (by decide +kernel) (by decide +kernel)⟩, fun _ => lwi 647 (by decide +kernel) (by decide +kernel), fun h => absurd h (by decide), fun h => absurd h (by decide), ⟨by decide, by decide +kernel⟩, bl_162⟩
theorem bl_163 : blP 163 := by unfold blP; decide +kernel
theorem mp_163 : mP 163 := ⟨⟨by decide +kernel, by decide +kernel, by decide +kernel, by decide +kernel⟩, ⟨lwi 656 (by decide +kernel) (by decide +kernel), lwi 44 (by decide +kernel) (by decide +kernel)⟩, fun _ => lwi 655 (by decide +kernel) (by decide +kernel), fun h => absurd h (by decide), fun h => absurd h (by decide), ⟨by decide, by decide +kernel⟩, bl_163⟩
theorem bl_164 : blP 164 := by unfold blP; decide +kernel
theorem mp_164 : mP 164 := ⟨⟨by decide +kernel, by decide +kernel, by decide +kernel, by decide +kernel⟩, ⟨lwi 674 (by decide +kernel) (by decide +kernel), lwi 44 (by decide +kernel) (by decide +kernel)⟩, fun _ => lwi 673 (by decide +kernel) (by decide +kernel), fun h => absurd h (by decide), fun h => absurd h (by decide), ⟨by decide, by decide +kernel⟩, bl_164⟩
theorem bl_165 : blP 165 := by unfold blP; decide +kernel
theorem mp_165 : mP 165 := ⟨⟨by decide +kernel, by decide +kernel, by decide +kernel, by decide +kernel⟩, ⟨lwi 691 (by decide +kernel) (by decide +kernel), lwi 44 (by decide +kernel) (by decide +kernel)⟩, fun _ => lwi 690 (by decide +kernel) (by decide +kernel), fun h => absurd h (by decide), fun h => absurd h (by decide), ⟨by decide, by decide +kernel⟩, bl_165⟩
theorem bl_166 : blP 166 := by unfold blP; decide +kernel
theorem mp_166 : mP 166 := ⟨⟨by decide +kernel, by decide +kernel, by decide +kernel, by decide +kernel⟩, ⟨lwi 703 (by decide +kernel) (by decide +kernel), lwi 44 (by decide +kernel) (by decide +kernel)⟩, fun _ => lwi 702 (by decide +kernel) (by decide +kernel), fun h => absurd h (by decide), fun h => absurd h (by decide), ⟨by decide, by decide +kernel⟩, bl_166⟩
theorem bl_167 : blP 167 := by unfold blP; decide +kernel
theorem mp_167 : mP 167 := ⟨⟨by decide +kernel, by decide +kernel, by decide +kernel, by decide +kernel⟩, ⟨lwi 710 (by decide +kernel) (by decide +kernel), lwi 44 (by decide +kernel) (by decide +kernel)⟩, fun _ => lwi 709 (by decide +kernel) (by decide +kernel), fun h => absurd h (by decide), fun h => absurd h (by decide), ⟨by decide, by decide +kernel⟩, bl_167⟩
theorem bl_168 : blP 168 := by unfold blP; decide +kernel
theorem mp_168 : mP 168 := ⟨⟨by decide +kernel, by decide +kernel, by decide +kernel, by decide +kernel⟩, ⟨lwi 727 (by decide +kernel) (by decide +kernel), lwi 44 (by decide +kernel) (by decide +kernel)⟩, fun _ => lwi 726 (by decide +kernel) (by decide +kernel), fun h => absurd h (by decide), fun h => absurd h (by decide), ⟨by decide, by decide +kernel⟩, bl_168⟩
theorem bl_169 : blP 169 := by unfold blP; decide +kernel
theorem mp_169 : mP 169 := ⟨⟨by decide +kernel, by decide +kernel, by decide +kernel, by decide +kernel⟩, ⟨lwi 734 (by decide +kernel) (by decide +kernel), lwi 44 (by decide +kernel) (by decide +kernel)⟩, fun _ => lwi 733 (by decide +kernel) (by decide +kernel), fun h => absurd h (by decide), fun h => absurd h (by decide), ⟨by decide, by decide +kernel⟩, bl_169⟩
theorem bl_170 : blP 170 := by unfold blP; decide +kernel
theorem mp_170 : mP 170 := ⟨⟨by decide +kernel, by decide +kernel, by decide +kernel, by decide +kernel⟩, ⟨lwi 774 (by decide +kernel) (by decide +kernel), lwi 44 (by decide +kernel) (by decide +kernel)⟩, fun _ => lwi 773 (by decide +kernel) (by decide +kernel), fun h => absurd h (by decide), fun h => absurd h (by decide), ⟨by decide, by decide +kernel⟩, bl_170⟩
theorem bl_171 : blP 171 := by unfold blP; decide +kernel
theorem mp_171 : mP 171 := ⟨⟨by decide +kernel, by decide +kernel, by decide +kernel, by decide +kernel⟩, ⟨lwi 790 (by decide +kernel) (by decide +kernel), lwi 44 (by decide +kernel) (by decide +kernel)⟩, fun _ => lwi 789 (by decide +kernel) (by decide +kernel), fun h => absurd h (by decide), fun h => absurd h (by decide), ⟨by decide, by decide +kernel⟩, bl_171⟩
theorem bl_172 : blP 172 := by unfold blP; decide +kernel
theorem mp_172 : mP 172 := ⟨⟨by decide +kernel, by decide +kernel, by decide +kernel, by decide +kernel⟩, ⟨lwi 810 (by decide +kernel) (by decide +kernel), lwi 44 (by decide +kernel) (by decide +kernel)⟩, fun _ => lwi 809 (by decide +kernel) (by decide +kernel), fun h => absurd h (by decide), fun h => absurd h (by decide), ⟨by decide, by decide +kernel⟩, bl_172⟩
theorem mp_all : ∀ k, k < 173 → mP k := by
  intro k h
  rcases Nat.lt_or_ge k 86 with q | q
  ·
    rcases Nat.lt_or_ge k 43 with q | q
    ·
      rcases Nat.lt_or_ge k 21 with q | q
      ·
        rcases Nat.lt_or_ge k 10 with q | q
        ·
          rcases Nat.lt_or_ge k 5 with q | q
          ·
            rcases Nat.lt_or_ge k 2 with q | q
            ·
              rcases Nat.lt_or_ge k 1 with q | q
              ·
                have e : k = 0 := by omega
                subst e
                exact mp_0
              ·
                have e : k = 1 := by omega
                subst e
                exact mp_1
            ·
              rcases Nat.lt_or_ge k 3 with q | q
              ·
                have e : k = 2 := by omega
                subst e
                exact mp_2
              ·
                rcases Nat.lt_or_ge k 4 with q | q
                ·
                  have e : k = 3 := by omega
                  subst e
                  exact mp_3
                ·
                  have e : k = 4 := by omega
                  subst e
                  exact mp_4
          ·
            rcases Nat.lt_or_ge k 7 with q | q
            ·
              rcases Nat.lt_or_ge k 6 with q | q
              ·
                have e : k = 5 := by omega
                subst e
                exact mp_5
              ·
                have e : k = 6 := by omega
                subst e
                exact mp_6
            ·
              rcases Nat.lt_or_ge k 8 with q | q
              ·
                have e : k = 7 := by omega
                subst e
                exact mp_7
              ·
                rcases Nat.lt_or_ge k 9 with q | q
                ·
                  have e : k = 8 := by omega
                  subst e
                  exact mp_8
                ·
                  have e : k = 9 := by omega
                  subst e
                  exact mp_9
        ·
          rcases Nat.lt_or_ge k 15 with q | q
          ·
            rcases Nat.lt_or_ge k 12 with q | q
            ·
              rcases Nat.lt_or_ge k 11 with q | q
              ·
                have e : k = 10 := by omega
                subst e
                exact mp_10
              ·
                have e : k = 11 := by omega
                subst e
                exact mp_11
            ·
              rcases Nat.lt_or_ge k 13 with q | q
              ·
                have e : k = 12 := by omega
                subst e
                exact mp_12
              ·
                rcases Nat.lt_or_ge k 14 with q | q
                ·
                  have e : k = 13 := by omega
                  subst e
                  exact mp_13
                ·
                  have e : k = 14 := by omega
                  subst e
                  exact mp_14
          ·
            rcases Nat.lt_or_ge k 18 with q | q
            ·
              rcases Nat.lt_or_ge k 16 with q | q
              ·
                have e : k = 15 := by omega
                subst e
                exact mp_15
              ·
                rcases Nat.lt_or_ge k 17 with q | q
                ·
                  have e : k = 16 := by omega
                  subst e
                  exact mp_16
                ·
                  have e : k = 17 := by omega
                  subst e
                  exact mp_17
            ·
              rcases Nat.lt_or_ge k 19 with q | q
              ·
                have e : k = 18 := by omega
                subst e
                exact mp_18
              ·
                rcases Nat.lt_or_ge k 20 with q | q
                ·
                  have e : k = 19 := by omega
                  subst e
                  exact mp_19
                ·
                  have e : k = 20 := by omega
                  subst e
                  exact mp_20
      ·
        rcases Nat.lt_or_ge k 32 with q | q
        ·
          rcases Nat.lt_or_ge k 26 with q | q
          ·
            rcases Nat.lt_or_ge k 23 with q | q
            ·
              rcases Nat.lt_or_ge k 22 with q | q
              ·
                have e : k = 21 := by omega
                subst e
                exact mp_21
              ·
                have e : k = 22 := by omega
                subst e
                exact mp_22
            ·
              rcases Nat.lt_or_ge k 24 with q | q
              ·
                have e : k = 23 := by omega
                subst e
                exact mp_23
              ·
                rcases Nat.lt_or_ge k 25 with q | q
                ·
                  have e : k = 24 := by omega
                  subst e
                  exact mp_24
                ·
                  have e : k = 25 := by omega
                  subst e
                  exact mp_25
          ·
            rcases Nat.lt_or_ge k 29 with q | q
            ·
              rcases Nat.lt_or_ge k 27 with q | q
              ·
                have e : k = 26 := by omega
                subst e
                exact mp_26
              ·
                rcases Nat.lt_or_ge k 28 with q | q
                ·
                  have e : k = 27 := by omega
                  subst e
                  exact mp_27
                ·
                  have e : k = 28 := by omega
                  subst e
                  exact mp_28
            ·
              rcases Nat.lt_or_ge k 30 with q | q
              ·
                have e : k = 29 := by omega
                subst e
                exact mp_29
              ·
                rcases Nat.lt_or_ge k 31 with q | q
                ·
                  have e : k = 30 := by omega
                  subst e
                  exact mp_30
                ·
                  have e : k = 31 := by omega
                  subst e
                  exact mp_31
        ·
          rcases Nat.lt_or_ge k 37 with q | q
          ·
            rcases Nat.lt_or_ge k 34 with q | q
            ·
              rcases Nat.lt_or_ge k 33 with q | q
              ·
                have e : k = 32 := by omega
                subst e
                exact mp_32
              ·
                have e : k = 33 := by omega
                subst e
                exact mp_33
            ·
              rcases Nat.lt_or_ge k 35 with q | q
              ·
                have e : k = 34 := by omega
                subst e
                exact mp_34
              ·
                rcases Nat.lt_or_ge k 36 with q | q
                ·
                  have e : k = 35 := by omega
                  subst e
                  exact mp_35
                ·
                  have e : k = 36 := by omega
                  subst e
                  exact mp_36
          ·
            rcases Nat.lt_or_ge k 40 with q | q
            ·
              rcases Nat.lt_or_ge k 38 with q | q
              ·
                have e : k = 37 := by omega
                subst e
                exact mp_37
              ·
                rcases Nat.lt_or_ge k 39 with q | q
                ·
                  have e : k = 38 := by omega
                  subst e
                  exact mp_38
                ·
                  have e : k = 39 := by omega
                  subst e
                  exact mp_39
            ·
              rcases Nat.lt_or_ge k 41 with q | q
              ·
                have e : k = 40 := by omega
                subst e
                exact mp_40
              ·
                rcases Nat.lt_or_ge k 42 with q | q
                ·
                  have e : k = 41 := by omega
                  subst e
                  exact mp_41
                ·
                  have e : k = 42 := by omega
                  subst e
                  exact mp_42
    ·
      rcases Nat.lt_or_ge k 64 with q | q
      ·
        rcases Nat.lt_or_ge k 53 with q | q
        ·
          rcases Nat.lt_or_ge k 48 with q | q
          ·
            rcases Nat.lt_or_ge k 45 with q | q
            ·
              rcases Nat.lt_or_ge k 44 with q | q
              ·
                have e : k = 43 := by omega
                subst e
                exact mp_43
              ·
                have e : k = 44 := by omega
                subst e
                exact mp_44
            ·
              rcases Nat.lt_or_ge k 46 with q | q
              ·
                have e : k = 45 := by omega
                subst e
                exact mp_45
              ·
                rcases Nat.lt_or_ge k 47 with q | q
                ·
                  have e : k = 46 := by omega
                  subst e
                  exact mp_46
                ·
                  have e : k = 47 := by omega
                  subst e
                  exact mp_47
          ·
            rcases Nat.lt_or_ge k 50 with q | q
            ·
              rcases Nat.lt_or_ge k 49 with q | q
              ·
                have e : k = 48 := by omega
                subst e
                exact mp_48
              ·
                have e : k = 49 := by omega
                subst e
                exact mp_49
            ·
              rcases Nat.lt_or_ge k 51 with q | q
              ·
                have e : k = 50 := by omega
                subst e
                exact mp_50
              ·
                rcases Nat.lt_or_ge k 52 with q | q
                ·
                  have e : k = 51 := by omega
                  subst e
                  exact mp_51
                ·
                  have e : k = 52 := by omega
                  subst e
                  exact mp_52
        ·
          rcases Nat.lt_or_ge k 58 with q | q
          ·
            rcases Nat.lt_or_ge k 55 with q | q
            ·
              rcases Nat.lt_or_ge k 54 with q | q
              ·
                have e : k = 53 := by omega
                subst e
                exact mp_53
              ·
                have e : k = 54 := by omega
                subst e
                exact mp_54
            ·
              rcases Nat.lt_or_ge k 56 with q | q
              ·
                have e : k = 55 := by omega
                subst e
                exact mp_55
              ·
                rcases Nat.lt_or_ge k 57 with q | q
                ·
                  have e : k = 56 := by omega
                  subst e
                  exact mp_56
                ·
                  have e : k = 57 := by omega
                  subst e
                  exact mp_57
          ·
            rcases Nat.lt_or_ge k 61 with q | q
            ·
              rcases Nat.lt_or_ge k 59 with q | q
              ·
                have e : k = 58 := by omega
                subst e
                exact mp_58
              ·
                rcases Nat.lt_or_ge k 60 with q | q
                ·
                  have e : k = 59 := by omega
                  subst e
                  exact mp_59
                ·
                  have e : k = 60 := by omega
                  subst e
                  exact mp_60
            ·
              rcases Nat.lt_or_ge k 62 with q | q
              ·
                have e : k = 61 := by omega
                subst e
                exact mp_61
              ·
                rcases Nat.lt_or_ge k 63 with q | q
                ·
                  have e : k = 62 := by omega
                  subst e
                  exact mp_62
                ·
                  have e : k = 63 := by omega
                  subst e
                  exact mp_63
      ·
        rcases Nat.lt_or_ge k 75 with q | q
        ·
          rcases Nat.lt_or_ge k 69 with q | q
          ·
            rcases Nat.lt_or_ge k 66 with q | q
            ·
              rcases Nat.lt_or_ge k 65 with q | q
              ·
                have e : k = 64 := by omega
                subst e
                exact mp_64
              ·
                have e : k = 65 := by omega
                subst e
                exact mp_65
            ·
              rcases Nat.lt_or_ge k 67 with q | q
              ·
                have e : k = 66 := by omega
                subst e
                exact mp_66
              ·
                rcases Nat.lt_or_ge k 68 with q | q
                ·
                  have e : k = 67 := by omega
                  subst e
                  exact mp_67
                ·
                  have e : k = 68 := by omega
                  subst e
                  exact mp_68
          ·
            rcases Nat.lt_or_ge k 72 with q | q
            ·
              rcases Nat.lt_or_ge k 70 with q | q
              ·
                have e : k = 69 := by omega
                subst e
                exact mp_69
              ·
                rcases Nat.lt_or_ge k 71 with q | q
                ·
                  have e : k = 70 := by omega
                  subst e
                  exact mp_70
                ·
                  have e : k = 71 := by omega
                  subst e
                  exact mp_71
            ·
              rcases Nat.lt_or_ge k 73 with q | q
              ·
                have e : k = 72 := by omega
                subst e
                exact mp_72
              ·
                rcases Nat.lt_or_ge k 74 with q | q
                ·
                  have e : k = 73 := by omega
                  subst e
                  exact mp_73
                ·
                  have e : k = 74 := by omega
                  subst e
                  exact mp_74
        ·
          rcases Nat.lt_or_ge k 80 with q | q
          ·
            rcases Nat.lt_or_ge k 77 with q | q
            ·
              rcases Nat.lt_or_ge k 76 with q | q
              ·
                have e : k = 75 := by omega
                subst e
                exact mp_75
              ·
                have e : k = 76 := by omega
                subst e
                exact mp_76
            ·
              rcases Nat.lt_or_ge k 78 with q | q
              ·
                have e : k = 77 := by omega
                subst e
                exact mp_77
              ·
                rcases Nat.lt_or_ge k 79 with q | q
                ·
                  have e : k = 78 := by omega
                  subst e
                  exact mp_78
                ·
                  have e : k = 79 := by omega
                  subst e
                  exact mp_79
          ·
            rcases Nat.lt_or_ge k 83 with q | q
            ·
              rcases Nat.lt_or_ge k 81 with q | q
              ·
                have e : k = 80 := by omega
                subst e
                exact mp_80
              ·
                rcases Nat.lt_or_ge k 82 with q | q
                ·
                  have e : k = 81 := by omega
                  subst e
                  exact mp_81
                ·
                  have e : k = 82 := by omega
                  subst e
                  exact mp_82
            ·
              rcases Nat.lt_or_ge k 84 with q | q
              ·
                have e : k = 83 := by omega
                subst e
                exact mp_83
              ·
                rcases Nat.lt_or_ge k 85 with q | q
                ·
                  have e : k = 84 := by omega
                  subst e
                  exact mp_84
                ·
                  have e : k = 85 := by omega
                  subst e
                  exact mp_85
  ·
    rcases Nat.lt_or_ge k 129 with q | q
    ·
      rcases Nat.lt_or_ge k 107 with q | q
      ·
        rcases Nat.lt_or_ge k 96 with q | q
        ·
          rcases Nat.lt_or_ge k 91 with q | q
          ·
            rcases Nat.lt_or_ge k 88 with q | q
            ·
              rcases Nat.lt_or_ge k 87 with q | q
              ·
                have e : k = 86 := by omega
                subst e
                exact mp_86
              ·
                have e : k = 87 := by omega
                subst e
                exact mp_87
            ·
              rcases Nat.lt_or_ge k 89 with q | q
              ·
                have e : k = 88 := by omega
                subst e
                exact mp_88
              ·
                rcases Nat.lt_or_ge k 90 with q | q
                ·
                  have e : k = 89 := by omega
                  subst e
                  exact mp_89
                ·
                  have e : k = 90 := by omega
                  subst e
                  exact mp_90
          ·
            rcases Nat.lt_or_ge k 93 with q | q
            ·
              rcases Nat.lt_or_ge k 92 with q | q
              ·
                have e : k = 91 := by omega
                subst e
                exact mp_91
              ·
                have e : k = 92 := by omega
                subst e
                exact mp_92
            ·
              rcases Nat.lt_or_ge k 94 with q | q
              ·
                have e : k = 93 := by omega
                subst e
                exact mp_93
              ·
                rcases Nat.lt_or_ge k 95 with q | q
                ·
                  have e : k = 94 := by omega
                  subst e
                  exact mp_94
                ·
                  have e : k = 95 := by omega
                  subst e
                  exact mp_95
        ·
          rcases Nat.lt_or_ge k 101 with q | q
          ·
            rcases Nat.lt_or_ge k 98 with q | q
            ·
              rcases Nat.lt_or_ge k 97 with q | q
              ·
                have e : k = 96 := by omega
                subst e
                exact mp_96
              ·
                have e : k = 97 := by omega
                subst e
                exact mp_97
            ·
              rcases Nat.lt_or_ge k 99 with q | q
              ·
                have e : k = 98 := by omega
                subst e
                exact mp_98
              ·
                rcases Nat.lt_or_ge k 100 with q | q
                ·
                  have e : k = 99 := by omega
                  subst e
                  exact mp_99
                ·
                  have e : k = 100 := by omega
                  subst e
                  exact mp_100
          ·
            rcases Nat.lt_or_ge k 104 with q | q
            ·
              rcases Nat.lt_or_ge k 102 with q | q
              ·
                have e : k = 101 := by omega
                subst e
                exact mp_101
              ·
                rcases Nat.lt_or_ge k 103 with q | q
                ·
                  have e : k = 102 := by omega
                  subst e
                  exact mp_102
                ·
                  have e : k = 103 := by omega
                  subst e
                  exact mp_103
            ·
              rcases Nat.lt_or_ge k 105 with q | q
              ·
                have e : k = 104 := by omega
                subst e
                exact mp_104
              ·
                rcases Nat.lt_or_ge k 106 with q | q
                ·
                  have e : k = 105 := by omega
                  subst e
                  exact mp_105
                ·
                  have e : k = 106 := by omega
                  subst e
                  exact mp_106
      ·
        rcases Nat.lt_or_ge k 118 with q | q
        ·
          rcases Nat.lt_or_ge k 112 with q | q
          ·
            rcases Nat.lt_or_ge k 109 with q | q
            ·
              rcases Nat.lt_or_ge k 108 with q | q
              ·
                have e : k = 107 := by omega
                subst e
                exact mp_107
              ·
                have e : k = 108 := by omega
                subst e
                exact mp_108
            ·
              rcases Nat.lt_or_ge k 110 with q | q
              ·
                have e : k = 109 := by omega
                subst e
                exact mp_109
              ·
                rcases Nat.lt_or_ge k 111 with q | q
                ·
                  have e : k = 110 := by omega
                  subst e
                  exact mp_110
                ·
                  have e : k = 111 := by omega
                  subst e
                  exact mp_111
          ·
            rcases Nat.lt_or_ge k 115 with q | q
            ·
              rcases Nat.lt_or_ge k 113 with q | q
              ·
                have e : k = 112 := by omega
                subst e
                exact mp_112
              ·
                rcases Nat.lt_or_ge k 114 with q | q
                ·
                  have e : k = 113 := by omega
                  subst e
                  exact mp_113
                ·
                  have e : k = 114 := by omega
                  subst e
                  exact mp_114
            ·
              rcases Nat.lt_or_ge k 116 with q | q
              ·
                have e : k = 115 := by omega
                subst e
                exact mp_115
              ·
                rcases Nat.lt_or_ge k 117 with q | q
                ·
                  have e : k = 116 := by omega
                  subst e
                  exact mp_116
                ·
                  have e : k = 117 := by omega
                  subst e
                  exact mp_117
        ·
          rcases Nat.lt_or_ge k 123 with q | q
          ·
            rcases Nat.lt_or_ge k 120 with q | q
            ·
              rcases Nat.lt_or_ge k 119 with q | q
              ·
                have e : k = 118 := by omega
                subst e
                exact mp_118
              ·
                have e : k = 119 := by omega
                subst e
                exact mp_119
            ·
              rcases Nat.lt_or_ge k 121 with q | q
              ·
                have e : k = 120 := by omega
                subst e
                exact mp_120
              ·
                rcases Nat.lt_or_ge k 122 with q | q
                ·
                  have e : k = 121 := by omega
                  subst e
                  exact mp_121
                ·
                  have e : k = 122 := by omega
                  subst e
                  exact mp_122
          ·
            rcases Nat.lt_or_ge k 126 with q | q
            ·
              rcases Nat.lt_or_ge k 124 with q | q
              ·
                have e : k = 123 := by omega
                subst e
                exact mp_123
              ·
                rcases Nat.lt_or_ge k 125 with q | q
                ·
                  have e : k = 124 := by omega
                  subst e
                  exact mp_124
                ·
                  have e : k = 125 := by omega
                  subst e
                  exact mp_125
            ·
              rcases Nat.lt_or_ge k 127 with q | q
              ·
                have e : k = 126 := by omega
                subst e
                exact mp_126
              ·
                rcases Nat.lt_or_ge k 128 with q | q
                ·
                  have e : k = 127 := by omega
                  subst e
                  exact mp_127
                ·
                  have e : k = 128 := by omega
                  subst e
                  exact mp_128
    ·
      rcases Nat.lt_or_ge k 151 with q | q
      ·
        rcases Nat.lt_or_ge k 140 with q | q
        ·
          rcases Nat.lt_or_ge k 134 with q | q
          ·
            rcases Nat.lt_or_ge k 131 with q | q
            ·
              rcases Nat.lt_or_ge k 130 with q | q
              ·
                have e : k = 129 := by omega
                subst e
                exact mp_129
              ·
                have e : k = 130 := by omega
                subst e
                exact mp_130
            ·
              rcases Nat.lt_or_ge k 132 with q | q
              ·
                have e : k = 131 := by omega
                subst e
                exact mp_131
              ·
                rcases Nat.lt_or_ge k 133 with q | q
                ·
                  have e : k = 132 := by omega
                  subst e
                  exact mp_132
                ·
                  have e : k = 133 := by omega
                  subst e
                  exact mp_133
          ·
            rcases Nat.lt_or_ge k 137 with q | q
            ·
              rcases Nat.lt_or_ge k 135 with q | q
              ·
                have e : k = 134 := by omega
                subst e
                exact mp_134
              ·
                rcases Nat.lt_or_ge k 136 with q | q
                ·
                  have e : k = 135 := by omega
                  subst e
                  exact mp_135
                ·
                  have e : k = 136 := by omega
                  subst e
                  exact mp_136
            ·
              rcases Nat.lt_or_ge k 138 with q | q
              ·
                have e : k = 137 := by omega
                subst e
                exact mp_137
              ·
                rcases Nat.lt_or_ge k 139 with q | q
                ·
                  have e : k = 138 := by omega
                  subst e
                  exact mp_138
                ·
                  have e : k = 139 := by omega
                  subst e
                  exact mp_139
        ·
          rcases Nat.lt_or_ge k 145 with q | q
          ·
            rcases Nat.lt_or_ge k 142 with q | q
            ·
              rcases Nat.lt_or_ge k 141 with q | q
              ·
                have e : k = 140 := by omega
                subst e
                exact mp_140
              ·
                have e : k = 141 := by omega
                subst e
                exact mp_141
            ·
              rcases Nat.lt_or_ge k 143 with q | q
              ·
                have e : k = 142 := by omega
                subst e
                exact mp_142
              ·
                rcases Nat.lt_or_ge k 144 with q | q
                ·
                  have e : k = 143 := by omega
                  subst e
                  exact mp_143
                ·
                  have e : k = 144 := by omega
                  subst e
                  exact mp_144
          ·
            rcases Nat.lt_or_ge k 148 with q | q
            ·
              rcases Nat.lt_or_ge k 146 with q | q
              ·
                have e : k = 145 := by omega
                subst e
                exact mp_145
              ·
                rcases Nat.lt_or_ge k 147 with q | q
                ·
                  have e : k = 146 := by omega
                  subst e
                  exact mp_146
                ·
                  have e : k = 147 := by omega
                  subst e
                  exact mp_147
            ·
              rcases Nat.lt_or_ge k 149 with q | q
              ·
                have e : k = 148 := by omega
                subst e
                exact mp_148
              ·
                rcases Nat.lt_or_ge k 150 with q | q
                ·
                  have e : k = 149 := by omega
                  subst e
                  exact mp_149
                ·
                  have e : k = 150 := by omega
                  subst e
                  exact mp_150
      ·
        rcases Nat.lt_or_ge k 162 with q | q
        ·
          rcases Nat.lt_or_ge k 156 with q | q
          ·
            rcases Nat.lt_or_ge k 153 with q | q
            ·
              rcases Nat.lt_or_ge k 152 with q | q
              ·
                have e : k = 151 := by omega
                subst e
                exact mp_151
              ·
                have e : k = 152 := by omega
                subst e
                exact mp_152
            ·
              rcases Nat.lt_or_ge k 154 with q | q
              ·
                have e : k = 153 := by omega
                subst e
                exact mp_153
              ·
                rcases Nat.lt_or_ge k 155 with q | q
                ·
                  have e : k = 154 := by omega
                  subst e
                  exact mp_154
                ·
                  have e : k = 155 := by omega
                  subst e
                  exact mp_155
          ·
            rcases Nat.lt_or_ge k 159 with q | q
            ·
              rcases Nat.lt_or_ge k 157 with q | q
              ·
                have e : k = 156 := by omega
                subst e
                exact mp_156
              ·
                rcases Nat.lt_or_ge k 158 with q | q
                ·
                  have e : k = 157 := by omega
                  subst e
                  exact mp_157
                ·
                  have e : k = 158 := by omega
                  subst e
                  exact mp_158
            ·
              rcases Nat.lt_or_ge k 160 with q | q
              ·
                have e : k = 159 := by omega
                subst e
                exact mp_159
              ·
                rcases Nat.lt_or_ge k 161 with q | q
                ·
                  have e : k = 160 := by omega
                  subst e
                  exact mp_160
                ·
                  have e : k = 161 := by omega
                  subst e
                  exact mp_161
        ·
          rcases Nat.lt_or_ge k 167 with q | q
          ·
            rcases Nat.lt_or_ge k 164 with q | q
            ·
              rcases Nat.lt_or_ge k 163 with q | q
              ·
                have e : k = 162 := by omega
                subst e
                exact mp_162
              ·
                have e : k = 163 := by omega
                subst e
                exact mp_163
            ·
              rcases Nat.lt_or_ge k 165 with q | q
              ·
                have e : k = 164 := by omega
                subst e
                exact mp_164
              ·
                rcases Nat.lt_or_ge k 166 with q | q
                ·
                  have e : k = 165 := by omega
                  subst e
                  exact mp_165
                ·
                  have e : k = 166 := by omega
                  subst e
                  exact mp_166
          ·
            rcases Nat.lt_or_ge k 170 with q | q
            ·
              rcases Nat.lt_or_ge k 168 with q | q
              ·
                have e : k = 167 := by omega
                subst e
                exact mp_167
              ·
                rcases Nat.lt_or_ge k 169 with q | q
                ·
                  have e : k = 168 := by omega
                  subst e
                  exact mp_168
                ·
                  have e : k = 169 := by omega
                  subst e
                  exact mp_169
            ·
              rcases Nat.lt_or_ge k 171 with q | q
              ·
                have e : k = 170 := by omega
                subst e
                exact mp_170
              ·
                rcases Nat.lt_or_ge k 172 with q | q
                ·
                  have e : k = 171 := by omega
                  subst e
                  exact mp_171
                ·
                  have e : k = 172 := by omega
                  subst e
                  exact mp_172
