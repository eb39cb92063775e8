theorem inL_X0 : ∀ w ∈ wsX00, w ∈ lw_tbl := w_c mL_145 (w_c mL_147 (w_c mL_149 (w_c mL_151 (w_c mL_153 (w_c mL_155 (w_c mL_157 (w_c mL_159 (w_c mL_161 (w_c mL_163 (w_n))))))))))
theorem inL_X1 : ∀ w ∈ wsX10, w ∈ lw_tbl := w_c mL_99 (w_c mL_101 (w_c mL_103 (w_c mL_105 (w_c mL_107 (w_n)))))
theorem inL_X2 : ∀ w ∈ wsX20, w ∈ lw_tbl := w_c mL_70 (w_c mL_72 (w_c mL_74 (w_c mL_76 (w_c mL_78 (w_c mL_80 (w_n))))))
theorem inL_X3 : ∀ w ∈ wsX30, w ∈ lw_tbl := w_c mL_44 (w_c mL_46 (w_n))
theorem inL_X4 : ∀ w ∈ wsX40, w ∈ lw_tbl := w_c mL_124 (w_c mL_126 (w_c mL_128 (w_c mL_130 (w_c mL_132 (w_n)))))
theorem inL_X5 : ∀ w ∈ wsX50, w ∈ lw_tbl := w_c mL_173 (w_c mL_175 (w_c mL_177 (w_c mL_179 (w_c mL_181 (w_c mL_183 (w_n))))))
theorem dL_law_0 : decode cL_law 0 = .ok (.aload_n 0, 1) := by decide +kernel
theorem dL_law_1 : decode cL_law 1 = .ok (.bipush 63, 2) := by decide +kernel
theorem dL_law_3 : decode cL_law 3 = .ok (.invokestatic 23, 3) := by decide +kernel
theorem dL_law_6 : decode cL_law 6 = .ok (.istore_n 1, 1) := by decide +kernel
theorem dL_law_7 : decode cL_law 7 = .ok (.new 18, 3) := by decide +kernel
theorem dL_law_10 : decode cL_law 10 = .ok (.dup, 1) := by decide +kernel
set_option maxRecDepth 20000 in
theorem gL_X5_init_35 : GoodIn lw_tbl (wsX5_init) := w_g (w_c mL_31 (w_c mL_32 (w_c mL_33 (w_c mL_34 (w_c mL_35 (w_c mL_36 (w_c mL_19 (w_c mL_167 (w_c mL_50 (w_c mL_51 (w_c mL_20 (w_c mL_168 (w_c mL_169 (w_c mL_83 (w_c mL_84 (w_c mL_21 (w_c mL_170 (w_c mL_110 (w_c mL_111 (w_c mL_22 (w_c mL_171 (w_c mL_135 (w_c mL_136 (w_c mL_23 (w_c mL_172 (w_c mL_38 (w_c mL_39 (w_c mL_40 (w_c mL_49 (w_c mL_41 (w_c mL_53 (w_c mL_54 (w_c mL_55 (w_c mL_56 (w_c mL_58 (w_c mL_61 (w_c mL_64 (w_c mL_66 (w_c mL_86 (w_c mL_87 (w_c mL_88 (w_c mL_89 (w_c mL_91 (w_c mL_93 (w_c mL_95 (w_c mL_113 (w_c mL_114 (w_c mL_115 (w_c mL_116 (w_c mL_117 (w_c mL_138 (w_c mL_139 (w_c mL_140 (w_c mL_141 (w_c mL_142 (w_c mL_166 (w_c mL_143 (w_c mL_144 (w_c mL_44 (w_c mL_46 (w_c mL_173 (w_c mL_175 (w_c mL_177 (w_c mL_179 (w_c mL_181 (w_c mL_183 (w_c mL_70 (w_c mL_72 (w_c mL_74 (w_c mL_76 (w_c mL_78 (w_c mL_80 (w_c mL_99 (w_c mL_101 (w_c mL_103 (w_c mL_105 (w_c mL_107 (w_c mL_124 (w_c mL_126 (w_c mL_128 (w_c mL_130 (w_c mL_132 (w_c mL_145 (w_c mL_147 (w_c mL_149 (w_c mL_151 (w_c mL_153 (w_c mL_155 (w_c mL_157 (w_c mL_159 (w_c mL_161 (w_c mL_163 (w_n))))))))))))))))))))))))))))))))))))))))))))))))))))))))))))))))))))))))))))))))))))))))))))) (by decide +kernel)
theorem dL_law_11 : decode cL_law 11 = .ok (.invokespecial 35, 3) := by decide +kernel
theorem dL_law_14 : decode cL_law 14 = .ok (.astore_n 2, 1) := by decide +kernel
theorem dL_law_15 : decode cL_law 15 = .ok (.bipush 64, 2) := by decide +kernel
theorem dL_law_17 : decode cL_law 17 = .ok (.newarray .int, 2) := by decide +kernel
theorem dL_law_19 : decode cL_law 19 = .ok (.astore_n 3, 1) := by decide +kernel
