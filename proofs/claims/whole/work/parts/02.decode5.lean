theorem drf_Md_init_121 : decode rfb_Md_init 121 = .ok (.putfield 52, 3) := by decide +kernel
theorem drf_Md_init_124 : decode rfb_Md_init 124 = .ok (.aload_n 0, 1) := by decide +kernel
theorem drf_Md_init_125 : decode rfb_Md_init 125 = .ok (.bipush 60, 2) := by decide +kernel
theorem drf_Md_init_127 : decode rfb_Md_init 127 = .ok (.newarray .int, 2) := by decide +kernel
theorem drf_Md_init_129 : decode rfb_Md_init 129 = .ok (.putfield 55, 3) := by decide +kernel
theorem drf_Md_init_132 : decode rfb_Md_init 132 = .ok (.aload_n 0, 1) := by decide +kernel
theorem drf_Md_init_133 : decode rfb_Md_init 133 = .ok (.bipush 60, 2) := by decide +kernel
theorem drf_Md_init_135 : decode rfb_Md_init 135 = .ok (.newarray .int, 2) := by decide +kernel
theorem drf_Md_init_137 : decode rfb_Md_init 137 = .ok (.putfield 58, 3) := by decide +kernel
theorem drf_Md_init_140 : decode rfb_Md_init 140 = .ok (.aload_n 0, 1) := by decide +kernel
theorem drf_Md_init_141 : decode rfb_Md_init 141 = .ok (.sipush 720, 3) := by decide +kernel
theorem drf_Md_init_144 : decode rfb_Md_init 144 = .ok (.newarray .int, 2) := by decide +kernel
theorem drf_Md_init_146 : decode rfb_Md_init 146 = .ok (.putfield 61, 3) := by decide +kernel
theorem drf_Md_init_149 : decode rfb_Md_init 149 = .ok (.aload_n 0, 1) := by decide +kernel
theorem drf_Md_init_150 : decode rfb_Md_init 150 = .ok (.iload_n 1, 1) := by decide +kernel
theorem drf_Md_init_151 : decode rfb_Md_init 151 = .ok (.ifCond .ge 7, 3) := by decide +kernel
theorem drf_Md_init_154 : decode rfb_Md_init 154 = .ok (.iconst 0, 1) := by decide +kernel
theorem drf_Md_init_155 : decode rfb_Md_init 155 = .ok (.goto 15, 3) := by decide +kernel
theorem drf_Md_init_158 : decode rfb_Md_init 158 = .ok (.iload_n 1, 1) := by decide +kernel
theorem drf_Md_init_159 : decode rfb_Md_init 159 = .ok (.bipush 20, 2) := by decide +kernel
theorem drf_Md_init_161 : decode rfb_Md_init 161 = .ok (.if_icmp .le 8, 3) := by decide +kernel
theorem drf_Md_init_164 : decode rfb_Md_init 164 = .ok (.bipush 20, 2) := by decide +kernel
theorem drf_Md_init_166 : decode rfb_Md_init 166 = .ok (.goto 4, 3) := by decide +kernel
theorem drf_Md_init_169 : decode rfb_Md_init 169 = .ok (.iload_n 1, 1) := by decide +kernel
theorem drf_Md_init_170 : decode rfb_Md_init 170 = .ok (.putfield 64, 3) := by decide +kernel
theorem drf_Md_init_173 : decode rfb_Md_init 173 = .ok (.return_, 1) := by decide +kernel
