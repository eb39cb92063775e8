theorem inL_X0 : ∀ w ∈ wsX00, w ∈ lw_tbl := w_c mL_198 (w_c mL_200 (w_c mL_202 (w_c mL_204 (w_c mL_206 (w_c mL_208 (w_c mL_210 (w_c mL_212 (w_c mL_214 (w_c mL_216 (w_n))))))))))
theorem inL_X1 : ∀ w ∈ wsX10, w ∈ lw_tbl := w_c mL_141 (w_c mL_143 (w_c mL_145 (w_c mL_147 (w_c mL_149 (w_n)))))
theorem inL_X2 : ∀ w ∈ wsX20, w ∈ lw_tbl := w_c mL_112 (w_c mL_114 (w_c mL_116 (w_c mL_118 (w_c mL_120 (w_c mL_122 (w_n))))))
theorem inL_X3 : ∀ w ∈ wsX30, w ∈ lw_tbl := w_c mL_85 (w_c mL_87 (w_n))
theorem inL_X4 : ∀ w ∈ wsX40, w ∈ lw_tbl := w_c mL_167 (w_c mL_169 (w_c mL_171 (w_c mL_173 (w_c mL_175 (w_n)))))
theorem inL_X5 : ∀ w ∈ wsX50, w ∈ lw_tbl := w_c mL_226 (w_c mL_228 (w_c mL_230 (w_c mL_232 (w_c mL_234 (w_c mL_236 (w_n))))))
theorem inL_X6 : ∀ w ∈ wsX60, w ∈ lw_tbl := w_c mL_652 (w_c mL_654 (w_c mL_656 (w_c mL_658 (w_c mL_660 (w_c mL_662 (w_c mL_664 (w_c mL_666 (w_c mL_668 (w_c mL_670 (w_c mL_672 (w_c mL_674 (w_c mL_676 (w_c mL_678 (w_c mL_680 (w_c mL_682 (w_c mL_684 (w_c mL_686 (w_c mL_688 (w_c mL_690 (w_c mL_692 (w_c mL_694 (w_c mL_696 (w_c mL_698 (w_c mL_700 (w_c mL_702 (w_c mL_704 (w_c mL_706 (w_n))))))))))))))))))))))))))))
theorem dL_law_0 : decode cL_law 0 = .ok (.new 7, 3) := by decide +kernel
theorem dL_law_3 : decode cL_law 3 = .ok (.dup, 1) := by decide +kernel
set_option maxRecDepth 20000 in
theorem gL_X5_init_9 : GoodIn lw_tbl (wsX5_init) := w_g (w_c mL_71 (w_c mL_72 (w_c mL_73 (w_c mL_74 (w_c mL_75 (w_c mL_76 (w_c mL_58 (w_c mL_220 (w_c mL_91 (w_c mL_92 (w_c mL_59 (w_c mL_221 (w_c mL_222 (w_c mL_125 (w_c mL_126 (w_c mL_60 (w_c mL_223 (w_c mL_152 (w_c mL_153 (w_c mL_61 (w_c mL_224 (w_c mL_178 (w_c mL_179 (w_c mL_62 (w_c mL_225 (w_c mL_78 (w_c mL_79 (w_c mL_80 (w_c mL_90 (w_c mL_81 (w_c mL_94 (w_c mL_95 (w_c mL_96 (w_c mL_97 (w_c mL_100 (w_c mL_103 (w_c mL_106 (w_c mL_108 (w_c mL_128 (w_c mL_129 (w_c mL_130 (w_c mL_131 (w_c mL_133 (w_c mL_135 (w_c mL_137 (w_c mL_155 (w_c mL_156 (w_c mL_157 (w_c mL_158 (w_c mL_159 (w_c mL_181 (w_c mL_182 (w_c mL_183 (w_c mL_184 (w_c mL_185 (w_c mL_219 (w_c mL_188 (w_c mL_189 (w_c mL_85 (w_c mL_87 (w_c mL_226 (w_c mL_228 (w_c mL_230 (w_c mL_232 (w_c mL_234 (w_c mL_236 (w_c mL_112 (w_c mL_114 (w_c mL_116 (w_c mL_118 (w_c mL_120 (w_c mL_122 (w_c mL_141 (w_c mL_143 (w_c mL_145 (w_c mL_147 (w_c mL_149 (w_c mL_167 (w_c mL_169 (w_c mL_171 (w_c mL_173 (w_c mL_175 (w_c mL_198 (w_c mL_200 (w_c mL_202 (w_c mL_204 (w_c mL_206 (w_c mL_208 (w_c mL_210 (w_c mL_212 (w_c mL_214 (w_c mL_216 (w_n))))))))))))))))))))))))))))))))))))))))))))))))))))))))))))))))))))))))))))))))))))))))))))) (by decide +kernel)
theorem dL_law_4 : decode cL_law 4 = .ok (.invokespecial 9, 3) := by decide +kernel
theorem dL_law_7 : decode cL_law 7 = .ok (.astore_n 1, 1) := by decide +kernel
theorem dL_law_8 : decode cL_law 8 = .ok (.new 10, 3) := by decide +kernel
theorem dL_law_11 : decode cL_law 11 = .ok (.dup, 1) := by decide +kernel
set_option maxRecDepth 20000 in
theorem gL_X6_init_12 : GoodIn lw_tbl (wsX6_init) := w_g (w_c mL_622 (w_c mL_623 (w_c mL_73 (w_c mL_74 (w_c mL_90 (w_c mL_625 (w_c mL_626 (w_c mL_627 (w_c mL_628 (w_c mL_629 (w_c mL_631 (w_c mL_632 (w_c mL_633 (w_c mL_634 (w_c mL_635 (w_c mL_637 (w_c mL_639 (w_c mL_640 (w_c mL_641 (w_c mL_709 (w_c mL_642 (w_c mL_643 (w_c mL_644 (w_c mL_645 (w_c mL_646 (w_c mL_647 (w_c mL_648 (w_c mL_649 (w_c mL_650 (w_c mL_651 (w_c mL_652 (w_c mL_654 (w_c mL_656 (w_c mL_658 (w_c mL_660 (w_c mL_662 (w_c mL_664 (w_c mL_666 (w_c mL_668 (w_c mL_670 (w_c mL_672 (w_c mL_674 (w_c mL_676 (w_c mL_678 (w_c mL_680 (w_c mL_682 (w_c mL_684 (w_c mL_686 (w_c mL_688 (w_c mL_690 (w_c mL_692 (w_c mL_694 (w_c mL_696 (w_c mL_698 (w_c mL_700 (w_c mL_702 (w_c mL_704 (w_c mL_706 (w_n))))))))))))))))))))))))))))))))))))))))))))))))))))))))))) (by decide +kernel)
theorem dL_law_12 : decode cL_law 12 = .ok (.invokespecial 12, 3) := by decide +kernel
theorem dL_law_15 : decode cL_law 15 = .ok (.astore_n 2, 1) := by decide +kernel
theorem dL_law_16 : decode cL_law 16 = .ok (.iconst 0, 1) := by decide +kernel
theorem dL_law_17 : decode cL_law 17 = .ok (.istore_n 3, 1) := by decide +kernel
theorem dL_law_26 : decode cL_law 26 = .ok (.aload_n 0, 1) := by decide +kernel
theorem dL_law_27 : decode cL_law 27 = .ok (.iload_n 3, 1) := by decide +kernel
theorem dL_law_28 : decode cL_law 28 = .ok (.iaload, 1) := by decide +kernel
theorem dL_law_29 : decode cL_law 29 = .ok (.bipush 31, 2) := by decide +kernel
theorem dL_law_31 : decode cL_law 31 = .ok (.iand, 1) := by decide +kernel
theorem dL_law_32 : decode cL_law 32 = .ok (.tableswitch 818 0 19 #[96, 159, 172, 195, 238, 281, 314, 357, 410, 453, 506, 555, 588, 621, 680, 713, 746, 759, 782, 795], 96) := by decide +kernel
