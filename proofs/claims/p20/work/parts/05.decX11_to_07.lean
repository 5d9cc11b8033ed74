-- 05.decX11
section
def zrk_cX11_init_0 : ByteArray := .mk #[42, 183, 0, 7, 42, 17, 7, 208]
theorem zrw_cX11_init_0 : zrW 0 cX11_init zrk_cX11_init_0 := by unfold zrW; decide +kernel
theorem dX11_init_0 : decode cX11_init 0 = .ok (.aload_n 0, 1) := zrD zrw_cX11_init_0 (i := 0) (by decide +kernel) rfl
theorem dX11_init_1 : decode cX11_init 1 = .ok (.invokespecial 7, 3) := zrD zrw_cX11_init_0 (i := 1) (by decide +kernel) rfl
theorem dX11_init_4 : decode cX11_init 4 = .ok (.aload_n 0, 1) := zrD zrw_cX11_init_0 (i := 4) (by decide +kernel) rfl
theorem dX11_init_5 : decode cX11_init 5 = .ok (.sipush 2000, 3) := zrD zrw_cX11_init_0 (i := 5) (by decide +kernel) rfl
theorem dX11_init_8 : decode cX11_init 8 = .ok (.newarray .byte, 2) := by decide +kernel
def zrk_cX11_init_10 : ByteArray := .mk #[181, 0, 13, 42, 17, 7, 208]
theorem zrw_cX11_init_10 : zrW 10 cX11_init zrk_cX11_init_10 := by unfold zrW; decide +kernel
theorem dX11_init_10 : decode cX11_init 10 = .ok (.putfield 13, 3) := zrD zrw_cX11_init_10 (i := 0) (by decide +kernel) rfl
theorem dX11_init_13 : decode cX11_init 13 = .ok (.aload_n 0, 1) := zrD zrw_cX11_init_10 (i := 3) (by decide +kernel) rfl
theorem dX11_init_14 : decode cX11_init 14 = .ok (.sipush 2000, 3) := zrD zrw_cX11_init_10 (i := 4) (by decide +kernel) rfl
theorem dX11_init_17 : decode cX11_init 17 = .ok (.newarray .byte, 2) := by decide +kernel
def zrk_cX11_init_19 : ByteArray := .mk #[181, 0, 17, 42, 17, 1, 147]
theorem zrw_cX11_init_19 : zrW 19 cX11_init zrk_cX11_init_19 := by unfold zrW; decide +kernel
theorem dX11_init_19 : decode cX11_init 19 = .ok (.putfield 17, 3) := zrD zrw_cX11_init_19 (i := 0) (by decide +kernel) rfl
theorem dX11_init_22 : decode cX11_init 22 = .ok (.aload_n 0, 1) := zrD zrw_cX11_init_19 (i := 3) (by decide +kernel) rfl
theorem dX11_init_23 : decode cX11_init 23 = .ok (.sipush 403, 3) := zrD zrw_cX11_init_19 (i := 4) (by decide +kernel) rfl
theorem dX11_init_26 : decode cX11_init 26 = .ok (.newarray .int, 2) := by decide +kernel
def zrk_cX11_init_28 : ByteArray := .mk #[181, 0, 20, 42, 17, 1, 147]
theorem zrw_cX11_init_28 : zrW 28 cX11_init zrk_cX11_init_28 := by unfold zrW; decide +kernel
theorem dX11_init_28 : decode cX11_init 28 = .ok (.putfield 20, 3) := zrD zrw_cX11_init_28 (i := 0) (by decide +kernel) rfl
theorem dX11_init_31 : decode cX11_init 31 = .ok (.aload_n 0, 1) := zrD zrw_cX11_init_28 (i := 3) (by decide +kernel) rfl
theorem dX11_init_32 : decode cX11_init 32 = .ok (.sipush 403, 3) := zrD zrw_cX11_init_28 (i := 4) (by decide +kernel) rfl
theorem dX11_init_35 : decode cX11_init 35 = .ok (.newarray .int, 2) := by decide +kernel
def zrk_cX11_init_37 : ByteArray := .mk #[181, 0, 24, 42, 17, 1, 147]
theorem zrw_cX11_init_37 : zrW 37 cX11_init zrk_cX11_init_37 := by unfold zrW; decide +kernel
theorem dX11_init_37 : decode cX11_init 37 = .ok (.putfield 24, 3) := zrD zrw_cX11_init_37 (i := 0) (by decide +kernel) rfl
theorem dX11_init_40 : decode cX11_init 40 = .ok (.aload_n 0, 1) := zrD zrw_cX11_init_37 (i := 3) (by decide +kernel) rfl
theorem dX11_init_41 : decode cX11_init 41 = .ok (.sipush 403, 3) := zrD zrw_cX11_init_37 (i := 4) (by decide +kernel) rfl
theorem dX11_init_44 : decode cX11_init 44 = .ok (.newarray .int, 2) := by decide +kernel
def zrk_cX11_init_46 : ByteArray := .mk #[181, 0, 27, 42, 17, 1, 147]
theorem zrw_cX11_init_46 : zrW 46 cX11_init zrk_cX11_init_46 := by unfold zrW; decide +kernel
theorem dX11_init_46 : decode cX11_init 46 = .ok (.putfield 27, 3) := zrD zrw_cX11_init_46 (i := 0) (by decide +kernel) rfl
theorem dX11_init_49 : decode cX11_init 49 = .ok (.aload_n 0, 1) := zrD zrw_cX11_init_46 (i := 3) (by decide +kernel) rfl
theorem dX11_init_50 : decode cX11_init 50 = .ok (.sipush 403, 3) := zrD zrw_cX11_init_46 (i := 4) (by decide +kernel) rfl
theorem dX11_init_53 : decode cX11_init 53 = .ok (.newarray .long, 2) := by decide +kernel
def zrk_cX11_init_55 : ByteArray := .mk #[181, 0, 30, 42, 16, 22]
theorem zrw_cX11_init_55 : zrW 55 cX11_init zrk_cX11_init_55 := by unfold zrW; decide +kernel
theorem dX11_init_55 : decode cX11_init 55 = .ok (.putfield 30, 3) := zrD zrw_cX11_init_55 (i := 0) (by decide +kernel) rfl
theorem dX11_init_58 : decode cX11_init 58 = .ok (.aload_n 0, 1) := zrD zrw_cX11_init_55 (i := 3) (by decide +kernel) rfl
theorem dX11_init_59 : decode cX11_init 59 = .ok (.bipush 22, 2) := zrD zrw_cX11_init_55 (i := 4) (by decide +kernel) rfl
theorem dX11_init_61 : decode cX11_init 61 = .ok (.newarray .long, 2) := by decide +kernel
def zrk_cX11_init_63 : ByteArray := .mk #[181, 0, 34, 42, 2, 181, 0, 37, 42, 16, 12]
theorem zrw_cX11_init_63 : zrW 63 cX11_init zrk_cX11_init_63 := by unfold zrW; decide +kernel
theorem dX11_init_63 : decode cX11_init 63 = .ok (.putfield 34, 3) := zrD zrw_cX11_init_63 (i := 0) (by decide +kernel) rfl
theorem dX11_init_66 : decode cX11_init 66 = .ok (.aload_n 0, 1) := zrD zrw_cX11_init_63 (i := 3) (by decide +kernel) rfl
theorem dX11_init_67 : decode cX11_init 67 = .ok (.iconst (-1), 1) := zrD zrw_cX11_init_63 (i := 4) (by decide +kernel) rfl
theorem dX11_init_68 : decode cX11_init 68 = .ok (.putfield 37, 3) := zrD zrw_cX11_init_63 (i := 5) (by decide +kernel) rfl
theorem dX11_init_71 : decode cX11_init 71 = .ok (.aload_n 0, 1) := zrD zrw_cX11_init_63 (i := 8) (by decide +kernel) rfl
theorem dX11_init_72 : decode cX11_init 72 = .ok (.bipush 12, 2) := zrD zrw_cX11_init_63 (i := 9) (by decide +kernel) rfl
theorem dX11_init_74 : decode cX11_init 74 = .ok (.newarray .long, 2) := by decide +kernel
def zrk_cX11_init_76 : ByteArray := .mk #[181, 0, 40, 42, 5]
theorem zrw_cX11_init_76 : zrW 76 cX11_init zrk_cX11_init_76 := by unfold zrW; decide +kernel
theorem dX11_init_76 : decode cX11_init 76 = .ok (.putfield 40, 3) := zrD zrw_cX11_init_76 (i := 0) (by decide +kernel) rfl
theorem dX11_init_79 : decode cX11_init 79 = .ok (.aload_n 0, 1) := zrD zrw_cX11_init_76 (i := 3) (by decide +kernel) rfl
theorem dX11_init_80 : decode cX11_init 80 = .ok (.iconst 2, 1) := zrD zrw_cX11_init_76 (i := 4) (by decide +kernel) rfl
theorem dX11_init_81 : decode cX11_init 81 = .ok (.newarray .int, 2) := by decide +kernel
def zrk_cX11_init_83 : ByteArray := .mk #[181, 0, 43, 42, 16, 24]
theorem zrw_cX11_init_83 : zrW 83 cX11_init zrk_cX11_init_83 := by unfold zrW; decide +kernel
theorem dX11_init_83 : decode cX11_init 83 = .ok (.putfield 43, 3) := zrD zrw_cX11_init_83 (i := 0) (by decide +kernel) rfl
theorem dX11_init_86 : decode cX11_init 86 = .ok (.aload_n 0, 1) := zrD zrw_cX11_init_83 (i := 3) (by decide +kernel) rfl
theorem dX11_init_87 : decode cX11_init 87 = .ok (.bipush 24, 2) := zrD zrw_cX11_init_83 (i := 4) (by decide +kernel) rfl
theorem dX11_init_89 : decode cX11_init 89 = .ok (.newarray .int, 2) := by decide +kernel
def zrk_cX11_init_91 : ByteArray := .mk #[181, 0, 46, 42, 16, 24]
theorem zrw_cX11_init_91 : zrW 91 cX11_init zrk_cX11_init_91 := by unfold zrW; decide +kernel
theorem dX11_init_91 : decode cX11_init 91 = .ok (.putfield 46, 3) := zrD zrw_cX11_init_91 (i := 0) (by decide +kernel) rfl
theorem dX11_init_94 : decode cX11_init 94 = .ok (.aload_n 0, 1) := zrD zrw_cX11_init_91 (i := 3) (by decide +kernel) rfl
theorem dX11_init_95 : decode cX11_init 95 = .ok (.bipush 24, 2) := zrD zrw_cX11_init_91 (i := 4) (by decide +kernel) rfl
theorem dX11_init_97 : decode cX11_init 97 = .ok (.newarray .int, 2) := by decide +kernel
def zrk_cX11_init_99 : ByteArray := .mk #[181, 0, 49, 42, 16, 24]
theorem zrw_cX11_init_99 : zrW 99 cX11_init zrk_cX11_init_99 := by unfold zrW; decide +kernel
theorem dX11_init_99 : decode cX11_init 99 = .ok (.putfield 49, 3) := zrD zrw_cX11_init_99 (i := 0) (by decide +kernel) rfl
theorem dX11_init_102 : decode cX11_init 102 = .ok (.aload_n 0, 1) := zrD zrw_cX11_init_99 (i := 3) (by decide +kernel) rfl
theorem dX11_init_103 : decode cX11_init 103 = .ok (.bipush 24, 2) := zrD zrw_cX11_init_99 (i := 4) (by decide +kernel) rfl
theorem dX11_init_105 : decode cX11_init 105 = .ok (.newarray .int, 2) := by decide +kernel
def zrk_cX11_init_107 : ByteArray := .mk #[181, 0, 52, 42, 16, 24]
theorem zrw_cX11_init_107 : zrW 107 cX11_init zrk_cX11_init_107 := by unfold zrW; decide +kernel
theorem dX11_init_107 : decode cX11_init 107 = .ok (.putfield 52, 3) := zrD zrw_cX11_init_107 (i := 0) (by decide +kernel) rfl
theorem dX11_init_110 : decode cX11_init 110 = .ok (.aload_n 0, 1) := zrD zrw_cX11_init_107 (i := 3) (by decide +kernel) rfl
theorem dX11_init_111 : decode cX11_init 111 = .ok (.bipush 24, 2) := zrD zrw_cX11_init_107 (i := 4) (by decide +kernel) rfl
theorem dX11_init_113 : decode cX11_init 113 = .ok (.newarray .int, 2) := by decide +kernel
def zrk_cX11_init_115 : ByteArray := .mk #[181, 0, 55, 42, 5]
theorem zrw_cX11_init_115 : zrW 115 cX11_init zrk_cX11_init_115 := by unfold zrW; decide +kernel
theorem dX11_init_115 : decode cX11_init 115 = .ok (.putfield 55, 3) := zrD zrw_cX11_init_115 (i := 0) (by decide +kernel) rfl
theorem dX11_init_118 : decode cX11_init 118 = .ok (.aload_n 0, 1) := zrD zrw_cX11_init_115 (i := 3) (by decide +kernel) rfl
theorem dX11_init_119 : decode cX11_init 119 = .ok (.iconst 2, 1) := zrD zrw_cX11_init_115 (i := 4) (by decide +kernel) rfl
theorem dX11_init_120 : decode cX11_init 120 = .ok (.newarray .int, 2) := by decide +kernel
def zrk_cX11_init_122 : ByteArray := .mk #[181, 0, 58, 42, 5]
theorem zrw_cX11_init_122 : zrW 122 cX11_init zrk_cX11_init_122 := by unfold zrW; decide +kernel
theorem dX11_init_122 : decode cX11_init 122 = .ok (.putfield 58, 3) := zrD zrw_cX11_init_122 (i := 0) (by decide +kernel) rfl
theorem dX11_init_125 : decode cX11_init 125 = .ok (.aload_n 0, 1) := zrD zrw_cX11_init_122 (i := 3) (by decide +kernel) rfl
theorem dX11_init_126 : decode cX11_init 126 = .ok (.iconst 2, 1) := zrD zrw_cX11_init_122 (i := 4) (by decide +kernel) rfl
theorem dX11_init_127 : decode cX11_init 127 = .ok (.newarray .int, 2) := by decide +kernel
def zrk_cX11_init_129 : ByteArray := .mk #[181, 0, 61, 42, 5]
theorem zrw_cX11_init_129 : zrW 129 cX11_init zrk_cX11_init_129 := by unfold zrW; decide +kernel
theorem dX11_init_129 : decode cX11_init 129 = .ok (.putfield 61, 3) := zrD zrw_cX11_init_129 (i := 0) (by decide +kernel) rfl
theorem dX11_init_132 : decode cX11_init 132 = .ok (.aload_n 0, 1) := zrD zrw_cX11_init_129 (i := 3) (by decide +kernel) rfl
theorem dX11_init_133 : decode cX11_init 133 = .ok (.iconst 2, 1) := zrD zrw_cX11_init_129 (i := 4) (by decide +kernel) rfl
theorem dX11_init_134 : decode cX11_init 134 = .ok (.newarray .int, 2) := by decide +kernel
def zrk_cX11_init_136 : ByteArray := .mk #[181, 0, 64, 42, 5]
theorem zrw_cX11_init_136 : zrW 136 cX11_init zrk_cX11_init_136 := by unfold zrW; decide +kernel
theorem dX11_init_136 : decode cX11_init 136 = .ok (.putfield 64, 3) := zrD zrw_cX11_init_136 (i := 0) (by decide +kernel) rfl
theorem dX11_init_139 : decode cX11_init 139 = .ok (.aload_n 0, 1) := zrD zrw_cX11_init_136 (i := 3) (by decide +kernel) rfl
theorem dX11_init_140 : decode cX11_init 140 = .ok (.iconst 2, 1) := zrD zrw_cX11_init_136 (i := 4) (by decide +kernel) rfl
theorem dX11_init_141 : decode cX11_init 141 = .ok (.newarray .int, 2) := by decide +kernel
def zrk_cX11_init_143 : ByteArray := .mk #[181, 0, 67, 42, 16, 10]
theorem zrw_cX11_init_143 : zrW 143 cX11_init zrk_cX11_init_143 := by unfold zrW; decide +kernel
theorem dX11_init_143 : decode cX11_init 143 = .ok (.putfield 67, 3) := zrD zrw_cX11_init_143 (i := 0) (by decide +kernel) rfl
theorem dX11_init_146 : decode cX11_init 146 = .ok (.aload_n 0, 1) := zrD zrw_cX11_init_143 (i := 3) (by decide +kernel) rfl
theorem dX11_init_147 : decode cX11_init 147 = .ok (.bipush 10, 2) := zrD zrw_cX11_init_143 (i := 4) (by decide +kernel) rfl
theorem dX11_init_149 : decode cX11_init 149 = .ok (.newarray .int, 2) := by decide +kernel
def zrk_cX11_init_151 : ByteArray := .mk #[181, 0, 70, 42, 16, 10]
theorem zrw_cX11_init_151 : zrW 151 cX11_init zrk_cX11_init_151 := by unfold zrW; decide +kernel
theorem dX11_init_151 : decode cX11_init 151 = .ok (.putfield 70, 3) := zrD zrw_cX11_init_151 (i := 0) (by decide +kernel) rfl
theorem dX11_init_154 : decode cX11_init 154 = .ok (.aload_n 0, 1) := zrD zrw_cX11_init_151 (i := 3) (by decide +kernel) rfl
theorem dX11_init_155 : decode cX11_init 155 = .ok (.bipush 10, 2) := zrD zrw_cX11_init_151 (i := 4) (by decide +kernel) rfl
theorem dX11_init_157 : decode cX11_init 157 = .ok (.newarray .int, 2) := by decide +kernel
def zrk_cX11_init_159 : ByteArray := .mk #[181, 0, 73, 42, 17, 1, 4]
theorem zrw_cX11_init_159 : zrW 159 cX11_init zrk_cX11_init_159 := by unfold zrW; decide +kernel
theorem dX11_init_159 : decode cX11_init 159 = .ok (.putfield 73, 3) := zrD zrw_cX11_init_159 (i := 0) (by decide +kernel) rfl
theorem dX11_init_162 : decode cX11_init 162 = .ok (.aload_n 0, 1) := zrD zrw_cX11_init_159 (i := 3) (by decide +kernel) rfl
theorem dX11_init_163 : decode cX11_init 163 = .ok (.sipush 260, 3) := zrD zrw_cX11_init_159 (i := 4) (by decide +kernel) rfl
theorem dX11_init_166 : decode cX11_init 166 = .ok (.newarray .boolean, 2) := by decide +kernel
def zrk_cX11_init_168 : ByteArray := .mk #[181, 0, 76, 42, 17, 1, 4]
theorem zrw_cX11_init_168 : zrW 168 cX11_init zrk_cX11_init_168 := by unfold zrW; decide +kernel
theorem dX11_init_168 : decode cX11_init 168 = .ok (.putfield 76, 3) := zrD zrw_cX11_init_168 (i := 0) (by decide +kernel) rfl
theorem dX11_init_171 : decode cX11_init 171 = .ok (.aload_n 0, 1) := zrD zrw_cX11_init_168 (i := 3) (by decide +kernel) rfl
theorem dX11_init_172 : decode cX11_init 172 = .ok (.sipush 260, 3) := zrD zrw_cX11_init_168 (i := 4) (by decide +kernel) rfl
theorem dX11_init_175 : decode cX11_init 175 = .ok (.newarray .int, 2) := by decide +kernel
def zrk_cX11_init_177 : ByteArray := .mk #[181, 0, 80, 42, 17, 1, 4]
theorem zrw_cX11_init_177 : zrW 177 cX11_init zrk_cX11_init_177 := by unfold zrW; decide +kernel
theorem dX11_init_177 : decode cX11_init 177 = .ok (.putfield 80, 3) := zrD zrw_cX11_init_177 (i := 0) (by decide +kernel) rfl
theorem dX11_init_180 : decode cX11_init 180 = .ok (.aload_n 0, 1) := zrD zrw_cX11_init_177 (i := 3) (by decide +kernel) rfl
theorem dX11_init_181 : decode cX11_init 181 = .ok (.sipush 260, 3) := zrD zrw_cX11_init_177 (i := 4) (by decide +kernel) rfl
theorem dX11_init_184 : decode cX11_init 184 = .ok (.newarray .int, 2) := by decide +kernel
def zrk_cX11_init_186 : ByteArray := .mk #[181, 0, 83, 42, 17, 1, 4]
theorem zrw_cX11_init_186 : zrW 186 cX11_init zrk_cX11_init_186 := by unfold zrW; decide +kernel
theorem dX11_init_186 : decode cX11_init 186 = .ok (.putfield 83, 3) := zrD zrw_cX11_init_186 (i := 0) (by decide +kernel) rfl
theorem dX11_init_189 : decode cX11_init 189 = .ok (.aload_n 0, 1) := zrD zrw_cX11_init_186 (i := 3) (by decide +kernel) rfl
theorem dX11_init_190 : decode cX11_init 190 = .ok (.sipush 260, 3) := zrD zrw_cX11_init_186 (i := 4) (by decide +kernel) rfl
theorem dX11_init_193 : decode cX11_init 193 = .ok (.newarray .int, 2) := by decide +kernel
def zrk_cX11_init_195 : ByteArray := .mk #[181, 0, 86, 42, 17, 1, 4]
theorem zrw_cX11_init_195 : zrW 195 cX11_init zrk_cX11_init_195 := by unfold zrW; decide +kernel
theorem dX11_init_195 : decode cX11_init 195 = .ok (.putfield 86, 3) := zrD zrw_cX11_init_195 (i := 0) (by decide +kernel) rfl
theorem dX11_init_198 : decode cX11_init 198 = .ok (.aload_n 0, 1) := zrD zrw_cX11_init_195 (i := 3) (by decide +kernel) rfl
theorem dX11_init_199 : decode cX11_init 199 = .ok (.sipush 260, 3) := zrD zrw_cX11_init_195 (i := 4) (by decide +kernel) rfl
theorem dX11_init_202 : decode cX11_init 202 = .ok (.newarray .int, 2) := by decide +kernel
def zrk_cX11_init_204 : ByteArray := .mk #[181, 0, 89, 42, 17, 3, 72]
theorem zrw_cX11_init_204 : zrW 204 cX11_init zrk_cX11_init_204 := by unfold zrW; decide +kernel
theorem dX11_init_204 : decode cX11_init 204 = .ok (.putfield 89, 3) := zrD zrw_cX11_init_204 (i := 0) (by decide +kernel) rfl
theorem dX11_init_207 : decode cX11_init 207 = .ok (.aload_n 0, 1) := zrD zrw_cX11_init_204 (i := 3) (by decide +kernel) rfl
theorem dX11_init_208 : decode cX11_init 208 = .ok (.sipush 840, 3) := zrD zrw_cX11_init_204 (i := 4) (by decide +kernel) rfl
theorem dX11_init_211 : decode cX11_init 211 = .ok (.newarray .int, 2) := by decide +kernel
def zrk_cX11_init_213 : ByteArray := .mk #[181, 0, 92, 42, 17, 3, 72]
theorem zrw_cX11_init_213 : zrW 213 cX11_init zrk_cX11_init_213 := by unfold zrW; decide +kernel
theorem dX11_init_213 : decode cX11_init 213 = .ok (.putfield 92, 3) := zrD zrw_cX11_init_213 (i := 0) (by decide +kernel) rfl
theorem dX11_init_216 : decode cX11_init 216 = .ok (.aload_n 0, 1) := zrD zrw_cX11_init_213 (i := 3) (by decide +kernel) rfl
theorem dX11_init_217 : decode cX11_init 217 = .ok (.sipush 840, 3) := zrD zrw_cX11_init_213 (i := 4) (by decide +kernel) rfl
theorem dX11_init_220 : decode cX11_init 220 = .ok (.newarray .int, 2) := by decide +kernel
def zrk_cX11_init_222 : ByteArray := .mk #[181, 0, 95, 42, 16, 64]
theorem zrw_cX11_init_222 : zrW 222 cX11_init zrk_cX11_init_222 := by unfold zrW; decide +kernel
theorem dX11_init_222 : decode cX11_init 222 = .ok (.putfield 95, 3) := zrD zrw_cX11_init_222 (i := 0) (by decide +kernel) rfl
theorem dX11_init_225 : decode cX11_init 225 = .ok (.aload_n 0, 1) := zrD zrw_cX11_init_222 (i := 3) (by decide +kernel) rfl
theorem dX11_init_226 : decode cX11_init 226 = .ok (.bipush 64, 2) := zrD zrw_cX11_init_222 (i := 4) (by decide +kernel) rfl
theorem dX11_init_228 : decode cX11_init 228 = .ok (.newarray .int, 2) := by decide +kernel
def zrk_cX11_init_230 : ByteArray := .mk #[181, 0, 98, 42, 16, 9]
theorem zrw_cX11_init_230 : zrW 230 cX11_init zrk_cX11_init_230 := by unfold zrW; decide +kernel
theorem dX11_init_230 : decode cX11_init 230 = .ok (.putfield 98, 3) := zrD zrw_cX11_init_230 (i := 0) (by decide +kernel) rfl
theorem dX11_init_233 : decode cX11_init 233 = .ok (.aload_n 0, 1) := zrD zrw_cX11_init_230 (i := 3) (by decide +kernel) rfl
theorem dX11_init_234 : decode cX11_init 234 = .ok (.bipush 9, 2) := zrD zrw_cX11_init_230 (i := 4) (by decide +kernel) rfl
theorem dX11_init_236 : decode cX11_init 236 = .ok (.newarray .int, 2) := by decide +kernel
def zrk_cX11_init_238 : ByteArray := .mk #[181, 0, 101, 42, 17, 1, 144]
theorem zrw_cX11_init_238 : zrW 238 cX11_init zrk_cX11_init_238 := by unfold zrW; decide +kernel
theorem dX11_init_238 : decode cX11_init 238 = .ok (.putfield 101, 3) := zrD zrw_cX11_init_238 (i := 0) (by decide +kernel) rfl
theorem dX11_init_241 : decode cX11_init 241 = .ok (.aload_n 0, 1) := zrD zrw_cX11_init_238 (i := 3) (by decide +kernel) rfl
theorem dX11_init_242 : decode cX11_init 242 = .ok (.sipush 400, 3) := zrD zrw_cX11_init_238 (i := 4) (by decide +kernel) rfl
theorem dX11_init_245 : decode cX11_init 245 = .ok (.newarray .int, 2) := by decide +kernel
def zrk_cX11_init_247 : ByteArray := .mk #[181, 0, 104, 42, 16, 50]
theorem zrw_cX11_init_247 : zrW 247 cX11_init zrk_cX11_init_247 := by unfold zrW; decide +kernel
theorem dX11_init_247 : decode cX11_init 247 = .ok (.putfield 104, 3) := zrD zrw_cX11_init_247 (i := 0) (by decide +kernel) rfl
theorem dX11_init_250 : decode cX11_init 250 = .ok (.aload_n 0, 1) := zrD zrw_cX11_init_247 (i := 3) (by decide +kernel) rfl
theorem dX11_init_251 : decode cX11_init 251 = .ok (.bipush 50, 2) := zrD zrw_cX11_init_247 (i := 4) (by decide +kernel) rfl
theorem dX11_init_253 : decode cX11_init 253 = .ok (.newarray .int, 2) := by decide +kernel
def zrk_cX11_init_255 : ByteArray := .mk #[181, 0, 107, 42, 16, 50]
theorem zrw_cX11_init_255 : zrW 255 cX11_init zrk_cX11_init_255 := by unfold zrW; decide +kernel
theorem dX11_init_255 : decode cX11_init 255 = .ok (.putfield 107, 3) := zrD zrw_cX11_init_255 (i := 0) (by decide +kernel) rfl
theorem dX11_init_258 : decode cX11_init 258 = .ok (.aload_n 0, 1) := zrD zrw_cX11_init_255 (i := 3) (by decide +kernel) rfl
theorem dX11_init_259 : decode cX11_init 259 = .ok (.bipush 50, 2) := zrD zrw_cX11_init_255 (i := 4) (by decide +kernel) rfl
theorem dX11_init_261 : decode cX11_init 261 = .ok (.newarray .int, 2) := by decide +kernel
def zrk_cX11_init_263 : ByteArray := .mk #[181, 0, 110, 42, 16, 12]
theorem zrw_cX11_init_263 : zrW 263 cX11_init zrk_cX11_init_263 := by unfold zrW; decide +kernel
theorem dX11_init_263 : decode cX11_init 263 = .ok (.putfield 110, 3) := zrD zrw_cX11_init_263 (i := 0) (by decide +kernel) rfl
theorem dX11_init_266 : decode cX11_init 266 = .ok (.aload_n 0, 1) := zrD zrw_cX11_init_263 (i := 3) (by decide +kernel) rfl
theorem dX11_init_267 : decode cX11_init 267 = .ok (.bipush 12, 2) := zrD zrw_cX11_init_263 (i := 4) (by decide +kernel) rfl
theorem dX11_init_269 : decode cX11_init 269 = .ok (.newarray .int, 2) := by decide +kernel
def zrk_cX11_init_271 : ByteArray := .mk #[181, 0, 113, 42, 16, 12]
theorem zrw_cX11_init_271 : zrW 271 cX11_init zrk_cX11_init_271 := by unfold zrW; decide +kernel
theorem dX11_init_271 : decode cX11_init 271 = .ok (.putfield 113, 3) := zrD zrw_cX11_init_271 (i := 0) (by decide +kernel) rfl
theorem dX11_init_274 : decode cX11_init 274 = .ok (.aload_n 0, 1) := zrD zrw_cX11_init_271 (i := 3) (by decide +kernel) rfl
theorem dX11_init_275 : decode cX11_init 275 = .ok (.bipush 12, 2) := zrD zrw_cX11_init_271 (i := 4) (by decide +kernel) rfl
theorem dX11_init_277 : decode cX11_init 277 = .ok (.newarray .int, 2) := by decide +kernel
def zrk_cX11_init_279 : ByteArray := .mk #[181, 0, 116, 42, 16, 12]
theorem zrw_cX11_init_279 : zrW 279 cX11_init zrk_cX11_init_279 := by unfold zrW; decide +kernel
theorem dX11_init_279 : decode cX11_init 279 = .ok (.putfield 116, 3) := zrD zrw_cX11_init_279 (i := 0) (by decide +kernel) rfl
theorem dX11_init_282 : decode cX11_init 282 = .ok (.aload_n 0, 1) := zrD zrw_cX11_init_279 (i := 3) (by decide +kernel) rfl
theorem dX11_init_283 : decode cX11_init 283 = .ok (.bipush 12, 2) := zrD zrw_cX11_init_279 (i := 4) (by decide +kernel) rfl
theorem dX11_init_285 : decode cX11_init 285 = .ok (.newarray .int, 2) := by decide +kernel
def zrk_cX11_init_287 : ByteArray := .mk #[181, 0, 119, 42, 16, 12]
theorem zrw_cX11_init_287 : zrW 287 cX11_init zrk_cX11_init_287 := by unfold zrW; decide +kernel
theorem dX11_init_287 : decode cX11_init 287 = .ok (.putfield 119, 3) := zrD zrw_cX11_init_287 (i := 0) (by decide +kernel) rfl
theorem dX11_init_290 : decode cX11_init 290 = .ok (.aload_n 0, 1) := zrD zrw_cX11_init_287 (i := 3) (by decide +kernel) rfl
theorem dX11_init_291 : decode cX11_init 291 = .ok (.bipush 12, 2) := zrD zrw_cX11_init_287 (i := 4) (by decide +kernel) rfl
theorem dX11_init_293 : decode cX11_init 293 = .ok (.newarray .int, 2) := by decide +kernel
def zrk_cX11_init_295 : ByteArray := .mk #[181, 0, 122, 42, 17, 7, 208]
theorem zrw_cX11_init_295 : zrW 295 cX11_init zrk_cX11_init_295 := by unfold zrW; decide +kernel
theorem dX11_init_295 : decode cX11_init 295 = .ok (.putfield 122, 3) := zrD zrw_cX11_init_295 (i := 0) (by decide +kernel) rfl
theorem dX11_init_298 : decode cX11_init 298 = .ok (.aload_n 0, 1) := zrD zrw_cX11_init_295 (i := 3) (by decide +kernel) rfl
theorem dX11_init_299 : decode cX11_init 299 = .ok (.sipush 2000, 3) := zrD zrw_cX11_init_295 (i := 4) (by decide +kernel) rfl
theorem dX11_init_302 : decode cX11_init 302 = .ok (.newarray .int, 2) := by decide +kernel
def zrk_cX11_init_304 : ByteArray := .mk #[181, 0, 125, 42, 6]
theorem zrw_cX11_init_304 : zrW 304 cX11_init zrk_cX11_init_304 := by unfold zrW; decide +kernel
theorem dX11_init_304 : decode cX11_init 304 = .ok (.putfield 125, 3) := zrD zrw_cX11_init_304 (i := 0) (by decide +kernel) rfl
theorem dX11_init_307 : decode cX11_init 307 = .ok (.aload_n 0, 1) := zrD zrw_cX11_init_304 (i := 3) (by decide +kernel) rfl
theorem dX11_init_308 : decode cX11_init 308 = .ok (.iconst 3, 1) := zrD zrw_cX11_init_304 (i := 4) (by decide +kernel) rfl
theorem dX11_init_309 : decode cX11_init 309 = .ok (.newarray .int, 2) := by decide +kernel
def zrk_cX11_init_311 : ByteArray := .mk #[181, 0, 128, 42, 16, 12]
theorem zrw_cX11_init_311 : zrW 311 cX11_init zrk_cX11_init_311 := by unfold zrW; decide +kernel
theorem dX11_init_311 : decode cX11_init 311 = .ok (.putfield 128, 3) := zrD zrw_cX11_init_311 (i := 0) (by decide +kernel) rfl
theorem dX11_init_314 : decode cX11_init 314 = .ok (.aload_n 0, 1) := zrD zrw_cX11_init_311 (i := 3) (by decide +kernel) rfl
theorem dX11_init_315 : decode cX11_init 315 = .ok (.bipush 12, 2) := zrD zrw_cX11_init_311 (i := 4) (by decide +kernel) rfl
theorem dX11_init_317 : decode cX11_init 317 = .ok (.newarray .int, 2) := by decide +kernel
def zrk_cX11_init_319 : ByteArray := .mk #[181, 0, 131, 42, 16, 12]
theorem zrw_cX11_init_319 : zrW 319 cX11_init zrk_cX11_init_319 := by unfold zrW; decide +kernel
theorem dX11_init_319 : decode cX11_init 319 = .ok (.putfield 131, 3) := zrD zrw_cX11_init_319 (i := 0) (by decide +kernel) rfl
theorem dX11_init_322 : decode cX11_init 322 = .ok (.aload_n 0, 1) := zrD zrw_cX11_init_319 (i := 3) (by decide +kernel) rfl
theorem dX11_init_323 : decode cX11_init 323 = .ok (.bipush 12, 2) := zrD zrw_cX11_init_319 (i := 4) (by decide +kernel) rfl
theorem dX11_init_325 : decode cX11_init 325 = .ok (.newarray .int, 2) := by decide +kernel
def zrk_cX11_init_327 : ByteArray := .mk #[181, 0, 134, 42, 16, 20]
theorem zrw_cX11_init_327 : zrW 327 cX11_init zrk_cX11_init_327 := by unfold zrW; decide +kernel
theorem dX11_init_327 : decode cX11_init 327 = .ok (.putfield 134, 3) := zrD zrw_cX11_init_327 (i := 0) (by decide +kernel) rfl
theorem dX11_init_330 : decode cX11_init 330 = .ok (.aload_n 0, 1) := zrD zrw_cX11_init_327 (i := 3) (by decide +kernel) rfl
theorem dX11_init_331 : decode cX11_init 331 = .ok (.bipush 20, 2) := zrD zrw_cX11_init_327 (i := 4) (by decide +kernel) rfl
theorem dX11_init_333 : decode cX11_init 333 = .ok (.newarray .int, 2) := by decide +kernel
def zrk_cX11_init_335 : ByteArray := .mk #[181, 0, 137, 42, 16, 20]
theorem zrw_cX11_init_335 : zrW 335 cX11_init zrk_cX11_init_335 := by unfold zrW; decide +kernel
theorem dX11_init_335 : decode cX11_init 335 = .ok (.putfield 137, 3) := zrD zrw_cX11_init_335 (i := 0) (by decide +kernel) rfl
theorem dX11_init_338 : decode cX11_init 338 = .ok (.aload_n 0, 1) := zrD zrw_cX11_init_335 (i := 3) (by decide +kernel) rfl
theorem dX11_init_339 : decode cX11_init 339 = .ok (.bipush 20, 2) := zrD zrw_cX11_init_335 (i := 4) (by decide +kernel) rfl
theorem dX11_init_341 : decode cX11_init 341 = .ok (.newarray .int, 2) := by decide +kernel
def zrk_cX11_init_343 : ByteArray := .mk #[181, 0, 140, 42, 16, 20]
theorem zrw_cX11_init_343 : zrW 343 cX11_init zrk_cX11_init_343 := by unfold zrW; decide +kernel
theorem dX11_init_343 : decode cX11_init 343 = .ok (.putfield 140, 3) := zrD zrw_cX11_init_343 (i := 0) (by decide +kernel) rfl
theorem dX11_init_346 : decode cX11_init 346 = .ok (.aload_n 0, 1) := zrD zrw_cX11_init_343 (i := 3) (by decide +kernel) rfl
theorem dX11_init_347 : decode cX11_init 347 = .ok (.bipush 20, 2) := zrD zrw_cX11_init_343 (i := 4) (by decide +kernel) rfl
theorem dX11_init_349 : decode cX11_init 349 = .ok (.newarray .int, 2) := by decide +kernel
def zrk_cX11_init_351 : ByteArray := .mk #[181, 0, 143, 42, 16, 20]
theorem zrw_cX11_init_351 : zrW 351 cX11_init zrk_cX11_init_351 := by unfold zrW; decide +kernel
theorem dX11_init_351 : decode cX11_init 351 = .ok (.putfield 143, 3) := zrD zrw_cX11_init_351 (i := 0) (by decide +kernel) rfl
theorem dX11_init_354 : decode cX11_init 354 = .ok (.aload_n 0, 1) := zrD zrw_cX11_init_351 (i := 3) (by decide +kernel) rfl
theorem dX11_init_355 : decode cX11_init 355 = .ok (.bipush 20, 2) := zrD zrw_cX11_init_351 (i := 4) (by decide +kernel) rfl
theorem dX11_init_357 : decode cX11_init 357 = .ok (.newarray .boolean, 2) := by decide +kernel
def zrk_cX11_init_359 : ByteArray := .mk #[181, 0, 146, 42, 6]
theorem zrw_cX11_init_359 : zrW 359 cX11_init zrk_cX11_init_359 := by unfold zrW; decide +kernel
theorem dX11_init_359 : decode cX11_init 359 = .ok (.putfield 146, 3) := zrD zrw_cX11_init_359 (i := 0) (by decide +kernel) rfl
theorem dX11_init_362 : decode cX11_init 362 = .ok (.aload_n 0, 1) := zrD zrw_cX11_init_359 (i := 3) (by decide +kernel) rfl
theorem dX11_init_363 : decode cX11_init 363 = .ok (.iconst 3, 1) := zrD zrw_cX11_init_359 (i := 4) (by decide +kernel) rfl
theorem dX11_init_364 : decode cX11_init 364 = .ok (.newarray .boolean, 2) := by decide +kernel
def zrk_cX11_init_366 : ByteArray := .mk #[181, 0, 149, 42, 17, 0, 150]
theorem zrw_cX11_init_366 : zrW 366 cX11_init zrk_cX11_init_366 := by unfold zrW; decide +kernel
theorem dX11_init_366 : decode cX11_init 366 = .ok (.putfield 149, 3) := zrD zrw_cX11_init_366 (i := 0) (by decide +kernel) rfl
theorem dX11_init_369 : decode cX11_init 369 = .ok (.aload_n 0, 1) := zrD zrw_cX11_init_366 (i := 3) (by decide +kernel) rfl
theorem dX11_init_370 : decode cX11_init 370 = .ok (.sipush 150, 3) := zrD zrw_cX11_init_366 (i := 4) (by decide +kernel) rfl
theorem dX11_init_373 : decode cX11_init 373 = .ok (.newarray .int, 2) := by decide +kernel
def zrk_cX11_init_375 : ByteArray := .mk #[181, 0, 152, 42, 3, 182, 0, 155, 42, 4, 182, 0, 155, 42, 180, 0, 34, 3, 16, 109, 16, 111, 16, 117, 16, 116, 16, 104, 3, 3]
theorem zrw_cX11_init_375 : zrW 375 cX11_init zrk_cX11_init_375 := by unfold zrW; decide +kernel
theorem dX11_init_375 : decode cX11_init 375 = .ok (.putfield 152, 3) := zrD zrw_cX11_init_375 (i := 0) (by decide +kernel) rfl
theorem dX11_init_378 : decode cX11_init 378 = .ok (.aload_n 0, 1) := zrD zrw_cX11_init_375 (i := 3) (by decide +kernel) rfl
theorem dX11_init_379 : decode cX11_init 379 = .ok (.iconst 0, 1) := zrD zrw_cX11_init_375 (i := 4) (by decide +kernel) rfl
theorem dX11_init_380 : decode cX11_init 380 = .ok (.invokevirtual 155, 3) := zrD zrw_cX11_init_375 (i := 5) (by decide +kernel) rfl
theorem dX11_init_383 : decode cX11_init 383 = .ok (.aload_n 0, 1) := zrD zrw_cX11_init_375 (i := 8) (by decide +kernel) rfl
theorem dX11_init_384 : decode cX11_init 384 = .ok (.iconst 1, 1) := zrD zrw_cX11_init_375 (i := 9) (by decide +kernel) rfl
theorem dX11_init_385 : decode cX11_init 385 = .ok (.invokevirtual 155, 3) := zrD zrw_cX11_init_375 (i := 10) (by decide +kernel) rfl
theorem dX11_init_388 : decode cX11_init 388 = .ok (.aload_n 0, 1) := zrD zrw_cX11_init_375 (i := 13) (by decide +kernel) rfl
theorem dX11_init_389 : decode cX11_init 389 = .ok (.getfield 34, 3) := zrD zrw_cX11_init_375 (i := 14) (by decide +kernel) rfl
theorem dX11_init_392 : decode cX11_init 392 = .ok (.iconst 0, 1) := zrD zrw_cX11_init_375 (i := 17) (by decide +kernel) rfl
theorem dX11_init_393 : decode cX11_init 393 = .ok (.bipush 109, 2) := zrD zrw_cX11_init_375 (i := 18) (by decide +kernel) rfl
theorem dX11_init_395 : decode cX11_init 395 = .ok (.bipush 111, 2) := zrD zrw_cX11_init_375 (i := 20) (by decide +kernel) rfl
theorem dX11_init_397 : decode cX11_init 397 = .ok (.bipush 117, 2) := zrD zrw_cX11_init_375 (i := 22) (by decide +kernel) rfl
theorem dX11_init_399 : decode cX11_init 399 = .ok (.bipush 116, 2) := zrD zrw_cX11_init_375 (i := 24) (by decide +kernel) rfl
theorem dX11_init_401 : decode cX11_init 401 = .ok (.bipush 104, 2) := zrD zrw_cX11_init_375 (i := 26) (by decide +kernel) rfl
theorem dX11_init_403 : decode cX11_init 403 = .ok (.iconst 0, 1) := zrD zrw_cX11_init_375 (i := 28) (by decide +kernel) rfl
theorem dX11_init_404 : decode cX11_init 404 = .ok (.iconst 0, 1) := zrD zrw_cX11_init_375 (i := 29) (by decide +kernel) rfl
def zrk_cX11_init_405 : ByteArray := .mk #[184, 0, 159, 80, 42, 180, 0, 34, 4, 16, 112, 16, 108, 16, 97, 16, 99, 16, 101, 3, 3, 184, 0, 159, 80, 42, 180, 0, 34, 5, 16, 114]
theorem zrw_cX11_init_405 : zrW 405 cX11_init zrk_cX11_init_405 := by unfold zrW; decide +kernel
theorem dX11_init_405 : decode cX11_init 405 = .ok (.invokestatic 159, 3) := zrD zrw_cX11_init_405 (i := 0) (by decide +kernel) rfl
theorem dX11_init_408 : decode cX11_init 408 = .ok (.lastore, 1) := zrD zrw_cX11_init_405 (i := 3) (by decide +kernel) rfl
theorem dX11_init_409 : decode cX11_init 409 = .ok (.aload_n 0, 1) := zrD zrw_cX11_init_405 (i := 4) (by decide +kernel) rfl
theorem dX11_init_410 : decode cX11_init 410 = .ok (.getfield 34, 3) := zrD zrw_cX11_init_405 (i := 5) (by decide +kernel) rfl
theorem dX11_init_413 : decode cX11_init 413 = .ok (.iconst 1, 1) := zrD zrw_cX11_init_405 (i := 8) (by decide +kernel) rfl
theorem dX11_init_414 : decode cX11_init 414 = .ok (.bipush 112, 2) := zrD zrw_cX11_init_405 (i := 9) (by decide +kernel) rfl
theorem dX11_init_416 : decode cX11_init 416 = .ok (.bipush 108, 2) := zrD zrw_cX11_init_405 (i := 11) (by decide +kernel) rfl
theorem dX11_init_418 : decode cX11_init 418 = .ok (.bipush 97, 2) := zrD zrw_cX11_init_405 (i := 13) (by decide +kernel) rfl
theorem dX11_init_420 : decode cX11_init 420 = .ok (.bipush 99, 2) := zrD zrw_cX11_init_405 (i := 15) (by decide +kernel) rfl
theorem dX11_init_422 : decode cX11_init 422 = .ok (.bipush 101, 2) := zrD zrw_cX11_init_405 (i := 17) (by decide +kernel) rfl
theorem dX11_init_424 : decode cX11_init 424 = .ok (.iconst 0, 1) := zrD zrw_cX11_init_405 (i := 19) (by decide +kernel) rfl
theorem dX11_init_425 : decode cX11_init 425 = .ok (.iconst 0, 1) := zrD zrw_cX11_init_405 (i := 20) (by decide +kernel) rfl
theorem dX11_init_426 : decode cX11_init 426 = .ok (.invokestatic 159, 3) := zrD zrw_cX11_init_405 (i := 21) (by decide +kernel) rfl
theorem dX11_init_429 : decode cX11_init 429 = .ok (.lastore, 1) := zrD zrw_cX11_init_405 (i := 24) (by decide +kernel) rfl
theorem dX11_init_430 : decode cX11_init 430 = .ok (.aload_n 0, 1) := zrD zrw_cX11_init_405 (i := 25) (by decide +kernel) rfl
theorem dX11_init_431 : decode cX11_init 431 = .ok (.getfield 34, 3) := zrD zrw_cX11_init_405 (i := 26) (by decide +kernel) rfl
theorem dX11_init_434 : decode cX11_init 434 = .ok (.iconst 2, 1) := zrD zrw_cX11_init_405 (i := 29) (by decide +kernel) rfl
theorem dX11_init_435 : decode cX11_init 435 = .ok (.bipush 114, 2) := zrD zrw_cX11_init_405 (i := 30) (by decide +kernel) rfl
def zrk_cX11_init_437 : ByteArray := .mk #[16, 97, 16, 105, 16, 110, 16, 115, 3, 3, 184, 0, 159, 80, 42, 180, 0, 34, 6, 16, 100, 16, 114, 16, 105, 16, 101, 16, 115, 3, 3]
theorem zrw_cX11_init_437 : zrW 437 cX11_init zrk_cX11_init_437 := by unfold zrW; decide +kernel
theorem dX11_init_437 : decode cX11_init 437 = .ok (.bipush 97, 2) := zrD zrw_cX11_init_437 (i := 0) (by decide +kernel) rfl
theorem dX11_init_439 : decode cX11_init 439 = .ok (.bipush 105, 2) := zrD zrw_cX11_init_437 (i := 2) (by decide +kernel) rfl
theorem dX11_init_441 : decode cX11_init 441 = .ok (.bipush 110, 2) := zrD zrw_cX11_init_437 (i := 4) (by decide +kernel) rfl
theorem dX11_init_443 : decode cX11_init 443 = .ok (.bipush 115, 2) := zrD zrw_cX11_init_437 (i := 6) (by decide +kernel) rfl
theorem dX11_init_445 : decode cX11_init 445 = .ok (.iconst 0, 1) := zrD zrw_cX11_init_437 (i := 8) (by decide +kernel) rfl
theorem dX11_init_446 : decode cX11_init 446 = .ok (.iconst 0, 1) := zrD zrw_cX11_init_437 (i := 9) (by decide +kernel) rfl
theorem dX11_init_447 : decode cX11_init 447 = .ok (.invokestatic 159, 3) := zrD zrw_cX11_init_437 (i := 10) (by decide +kernel) rfl
theorem dX11_init_450 : decode cX11_init 450 = .ok (.lastore, 1) := zrD zrw_cX11_init_437 (i := 13) (by decide +kernel) rfl
theorem dX11_init_451 : decode cX11_init 451 = .ok (.aload_n 0, 1) := zrD zrw_cX11_init_437 (i := 14) (by decide +kernel) rfl
theorem dX11_init_452 : decode cX11_init 452 = .ok (.getfield 34, 3) := zrD zrw_cX11_init_437 (i := 15) (by decide +kernel) rfl
theorem dX11_init_455 : decode cX11_init 455 = .ok (.iconst 3, 1) := zrD zrw_cX11_init_437 (i := 18) (by decide +kernel) rfl
theorem dX11_init_456 : decode cX11_init 456 = .ok (.bipush 100, 2) := zrD zrw_cX11_init_437 (i := 19) (by decide +kernel) rfl
theorem dX11_init_458 : decode cX11_init 458 = .ok (.bipush 114, 2) := zrD zrw_cX11_init_437 (i := 21) (by decide +kernel) rfl
theorem dX11_init_460 : decode cX11_init 460 = .ok (.bipush 105, 2) := zrD zrw_cX11_init_437 (i := 23) (by decide +kernel) rfl
theorem dX11_init_462 : decode cX11_init 462 = .ok (.bipush 101, 2) := zrD zrw_cX11_init_437 (i := 25) (by decide +kernel) rfl
theorem dX11_init_464 : decode cX11_init 464 = .ok (.bipush 115, 2) := zrD zrw_cX11_init_437 (i := 27) (by decide +kernel) rfl
theorem dX11_init_466 : decode cX11_init 466 = .ok (.iconst 0, 1) := zrD zrw_cX11_init_437 (i := 29) (by decide +kernel) rfl
theorem dX11_init_467 : decode cX11_init 467 = .ok (.iconst 0, 1) := zrD zrw_cX11_init_437 (i := 30) (by decide +kernel) rfl
def zrk_cX11_init_468 : ByteArray := .mk #[184, 0, 159, 80, 42, 180, 0, 34, 7, 16, 111, 16, 110, 16, 101, 3, 3, 3, 3, 184, 0, 159, 80, 42, 180, 0, 34, 8, 16, 116, 16, 119]
theorem zrw_cX11_init_468 : zrW 468 cX11_init zrk_cX11_init_468 := by unfold zrW; decide +kernel
theorem dX11_init_468 : decode cX11_init 468 = .ok (.invokestatic 159, 3) := zrD zrw_cX11_init_468 (i := 0) (by decide +kernel) rfl
theorem dX11_init_471 : decode cX11_init 471 = .ok (.lastore, 1) := zrD zrw_cX11_init_468 (i := 3) (by decide +kernel) rfl
theorem dX11_init_472 : decode cX11_init 472 = .ok (.aload_n 0, 1) := zrD zrw_cX11_init_468 (i := 4) (by decide +kernel) rfl
theorem dX11_init_473 : decode cX11_init 473 = .ok (.getfield 34, 3) := zrD zrw_cX11_init_468 (i := 5) (by decide +kernel) rfl
theorem dX11_init_476 : decode cX11_init 476 = .ok (.iconst 4, 1) := zrD zrw_cX11_init_468 (i := 8) (by decide +kernel) rfl
theorem dX11_init_477 : decode cX11_init 477 = .ok (.bipush 111, 2) := zrD zrw_cX11_init_468 (i := 9) (by decide +kernel) rfl
theorem dX11_init_479 : decode cX11_init 479 = .ok (.bipush 110, 2) := zrD zrw_cX11_init_468 (i := 11) (by decide +kernel) rfl
theorem dX11_init_481 : decode cX11_init 481 = .ok (.bipush 101, 2) := zrD zrw_cX11_init_468 (i := 13) (by decide +kernel) rfl
theorem dX11_init_483 : decode cX11_init 483 = .ok (.iconst 0, 1) := zrD zrw_cX11_init_468 (i := 15) (by decide +kernel) rfl
theorem dX11_init_484 : decode cX11_init 484 = .ok (.iconst 0, 1) := zrD zrw_cX11_init_468 (i := 16) (by decide +kernel) rfl
theorem dX11_init_485 : decode cX11_init 485 = .ok (.iconst 0, 1) := zrD zrw_cX11_init_468 (i := 17) (by decide +kernel) rfl
theorem dX11_init_486 : decode cX11_init 486 = .ok (.iconst 0, 1) := zrD zrw_cX11_init_468 (i := 18) (by decide +kernel) rfl
theorem dX11_init_487 : decode cX11_init 487 = .ok (.invokestatic 159, 3) := zrD zrw_cX11_init_468 (i := 19) (by decide +kernel) rfl
theorem dX11_init_490 : decode cX11_init 490 = .ok (.lastore, 1) := zrD zrw_cX11_init_468 (i := 22) (by decide +kernel) rfl
theorem dX11_init_491 : decode cX11_init 491 = .ok (.aload_n 0, 1) := zrD zrw_cX11_init_468 (i := 23) (by decide +kernel) rfl
theorem dX11_init_492 : decode cX11_init 492 = .ok (.getfield 34, 3) := zrD zrw_cX11_init_468 (i := 24) (by decide +kernel) rfl
theorem dX11_init_495 : decode cX11_init 495 = .ok (.iconst 5, 1) := zrD zrw_cX11_init_468 (i := 27) (by decide +kernel) rfl
theorem dX11_init_496 : decode cX11_init 496 = .ok (.bipush 116, 2) := zrD zrw_cX11_init_468 (i := 28) (by decide +kernel) rfl
theorem dX11_init_498 : decode cX11_init 498 = .ok (.bipush 119, 2) := zrD zrw_cX11_init_468 (i := 30) (by decide +kernel) rfl
def zrk_cX11_init_500 : ByteArray := .mk #[16, 111, 3, 3, 3, 3, 184, 0, 159, 80, 42, 180, 0, 34, 16, 6, 16, 116, 16, 104, 16, 114, 16, 101, 16, 101, 3, 3, 184, 0, 159, 80]
theorem zrw_cX11_init_500 : zrW 500 cX11_init zrk_cX11_init_500 := by unfold zrW; decide +kernel
theorem dX11_init_500 : decode cX11_init 500 = .ok (.bipush 111, 2) := zrD zrw_cX11_init_500 (i := 0) (by decide +kernel) rfl
theorem dX11_init_502 : decode cX11_init 502 = .ok (.iconst 0, 1) := zrD zrw_cX11_init_500 (i := 2) (by decide +kernel) rfl
theorem dX11_init_503 : decode cX11_init 503 = .ok (.iconst 0, 1) := zrD zrw_cX11_init_500 (i := 3) (by decide +kernel) rfl
theorem dX11_init_504 : decode cX11_init 504 = .ok (.iconst 0, 1) := zrD zrw_cX11_init_500 (i := 4) (by decide +kernel) rfl
theorem dX11_init_505 : decode cX11_init 505 = .ok (.iconst 0, 1) := zrD zrw_cX11_init_500 (i := 5) (by decide +kernel) rfl
theorem dX11_init_506 : decode cX11_init 506 = .ok (.invokestatic 159, 3) := zrD zrw_cX11_init_500 (i := 6) (by decide +kernel) rfl
theorem dX11_init_509 : decode cX11_init 509 = .ok (.lastore, 1) := zrD zrw_cX11_init_500 (i := 9) (by decide +kernel) rfl
theorem dX11_init_510 : decode cX11_init 510 = .ok (.aload_n 0, 1) := zrD zrw_cX11_init_500 (i := 10) (by decide +kernel) rfl
theorem dX11_init_511 : decode cX11_init 511 = .ok (.getfield 34, 3) := zrD zrw_cX11_init_500 (i := 11) (by decide +kernel) rfl
theorem dX11_init_514 : decode cX11_init 514 = .ok (.bipush 6, 2) := zrD zrw_cX11_init_500 (i := 14) (by decide +kernel) rfl
theorem dX11_init_516 : decode cX11_init 516 = .ok (.bipush 116, 2) := zrD zrw_cX11_init_500 (i := 16) (by decide +kernel) rfl
theorem dX11_init_518 : decode cX11_init 518 = .ok (.bipush 104, 2) := zrD zrw_cX11_init_500 (i := 18) (by decide +kernel) rfl
theorem dX11_init_520 : decode cX11_init 520 = .ok (.bipush 114, 2) := zrD zrw_cX11_init_500 (i := 20) (by decide +kernel) rfl
theorem dX11_init_522 : decode cX11_init 522 = .ok (.bipush 101, 2) := zrD zrw_cX11_init_500 (i := 22) (by decide +kernel) rfl
theorem dX11_init_524 : decode cX11_init 524 = .ok (.bipush 101, 2) := zrD zrw_cX11_init_500 (i := 24) (by decide +kernel) rfl
theorem dX11_init_526 : decode cX11_init 526 = .ok (.iconst 0, 1) := zrD zrw_cX11_init_500 (i := 26) (by decide +kernel) rfl
theorem dX11_init_527 : decode cX11_init 527 = .ok (.iconst 0, 1) := zrD zrw_cX11_init_500 (i := 27) (by decide +kernel) rfl
theorem dX11_init_528 : decode cX11_init 528 = .ok (.invokestatic 159, 3) := zrD zrw_cX11_init_500 (i := 28) (by decide +kernel) rfl
theorem dX11_init_531 : decode cX11_init 531 = .ok (.lastore, 1) := zrD zrw_cX11_init_500 (i := 31) (by decide +kernel) rfl
def zrk_cX11_init_532 : ByteArray := .mk #[42, 180, 0, 34, 16, 7, 16, 115, 16, 116, 16, 111, 16, 114, 16, 109, 3, 3, 184, 0, 159, 80, 42, 180, 0, 34, 16, 8, 16, 112, 16, 114]
theorem zrw_cX11_init_532 : zrW 532 cX11_init zrk_cX11_init_532 := by unfold zrW; decide +kernel
theorem dX11_init_532 : decode cX11_init 532 = .ok (.aload_n 0, 1) := zrD zrw_cX11_init_532 (i := 0) (by decide +kernel) rfl
theorem dX11_init_533 : decode cX11_init 533 = .ok (.getfield 34, 3) := zrD zrw_cX11_init_532 (i := 1) (by decide +kernel) rfl
theorem dX11_init_536 : decode cX11_init 536 = .ok (.bipush 7, 2) := zrD zrw_cX11_init_532 (i := 4) (by decide +kernel) rfl
theorem dX11_init_538 : decode cX11_init 538 = .ok (.bipush 115, 2) := zrD zrw_cX11_init_532 (i := 6) (by decide +kernel) rfl
theorem dX11_init_540 : decode cX11_init 540 = .ok (.bipush 116, 2) := zrD zrw_cX11_init_532 (i := 8) (by decide +kernel) rfl
theorem dX11_init_542 : decode cX11_init 542 = .ok (.bipush 111, 2) := zrD zrw_cX11_init_532 (i := 10) (by decide +kernel) rfl
theorem dX11_init_544 : decode cX11_init 544 = .ok (.bipush 114, 2) := zrD zrw_cX11_init_532 (i := 12) (by decide +kernel) rfl
theorem dX11_init_546 : decode cX11_init 546 = .ok (.bipush 109, 2) := zrD zrw_cX11_init_532 (i := 14) (by decide +kernel) rfl
theorem dX11_init_548 : decode cX11_init 548 = .ok (.iconst 0, 1) := zrD zrw_cX11_init_532 (i := 16) (by decide +kernel) rfl
theorem dX11_init_549 : decode cX11_init 549 = .ok (.iconst 0, 1) := zrD zrw_cX11_init_532 (i := 17) (by decide +kernel) rfl
theorem dX11_init_550 : decode cX11_init 550 = .ok (.invokestatic 159, 3) := zrD zrw_cX11_init_532 (i := 18) (by decide +kernel) rfl
theorem dX11_init_553 : decode cX11_init 553 = .ok (.lastore, 1) := zrD zrw_cX11_init_532 (i := 21) (by decide +kernel) rfl
theorem dX11_init_554 : decode cX11_init 554 = .ok (.aload_n 0, 1) := zrD zrw_cX11_init_532 (i := 22) (by decide +kernel) rfl
theorem dX11_init_555 : decode cX11_init 555 = .ok (.getfield 34, 3) := zrD zrw_cX11_init_532 (i := 23) (by decide +kernel) rfl
theorem dX11_init_558 : decode cX11_init 558 = .ok (.bipush 8, 2) := zrD zrw_cX11_init_532 (i := 26) (by decide +kernel) rfl
theorem dX11_init_560 : decode cX11_init 560 = .ok (.bipush 112, 2) := zrD zrw_cX11_init_532 (i := 28) (by decide +kernel) rfl
theorem dX11_init_562 : decode cX11_init 562 = .ok (.bipush 114, 2) := zrD zrw_cX11_init_532 (i := 30) (by decide +kernel) rfl
def zrk_cX11_init_564 : ByteArray := .mk #[16, 105, 16, 122, 16, 101, 3, 3, 184, 0, 159, 80, 42, 180, 0, 34, 16, 9, 16, 115, 16, 101, 16, 101, 16, 100, 3, 3, 3, 184, 0, 159]
theorem zrw_cX11_init_564 : zrW 564 cX11_init zrk_cX11_init_564 := by unfold zrW; decide +kernel
theorem dX11_init_564 : decode cX11_init 564 = .ok (.bipush 105, 2) := zrD zrw_cX11_init_564 (i := 0) (by decide +kernel) rfl
theorem dX11_init_566 : decode cX11_init 566 = .ok (.bipush 122, 2) := zrD zrw_cX11_init_564 (i := 2) (by decide +kernel) rfl
theorem dX11_init_568 : decode cX11_init 568 = .ok (.bipush 101, 2) := zrD zrw_cX11_init_564 (i := 4) (by decide +kernel) rfl
theorem dX11_init_570 : decode cX11_init 570 = .ok (.iconst 0, 1) := zrD zrw_cX11_init_564 (i := 6) (by decide +kernel) rfl
theorem dX11_init_571 : decode cX11_init 571 = .ok (.iconst 0, 1) := zrD zrw_cX11_init_564 (i := 7) (by decide +kernel) rfl
theorem dX11_init_572 : decode cX11_init 572 = .ok (.invokestatic 159, 3) := zrD zrw_cX11_init_564 (i := 8) (by decide +kernel) rfl
theorem dX11_init_575 : decode cX11_init 575 = .ok (.lastore, 1) := zrD zrw_cX11_init_564 (i := 11) (by decide +kernel) rfl
theorem dX11_init_576 : decode cX11_init 576 = .ok (.aload_n 0, 1) := zrD zrw_cX11_init_564 (i := 12) (by decide +kernel) rfl
theorem dX11_init_577 : decode cX11_init 577 = .ok (.getfield 34, 3) := zrD zrw_cX11_init_564 (i := 13) (by decide +kernel) rfl
theorem dX11_init_580 : decode cX11_init 580 = .ok (.bipush 9, 2) := zrD zrw_cX11_init_564 (i := 16) (by decide +kernel) rfl
theorem dX11_init_582 : decode cX11_init 582 = .ok (.bipush 115, 2) := zrD zrw_cX11_init_564 (i := 18) (by decide +kernel) rfl
theorem dX11_init_584 : decode cX11_init 584 = .ok (.bipush 101, 2) := zrD zrw_cX11_init_564 (i := 20) (by decide +kernel) rfl
theorem dX11_init_586 : decode cX11_init 586 = .ok (.bipush 101, 2) := zrD zrw_cX11_init_564 (i := 22) (by decide +kernel) rfl
theorem dX11_init_588 : decode cX11_init 588 = .ok (.bipush 100, 2) := zrD zrw_cX11_init_564 (i := 24) (by decide +kernel) rfl
theorem dX11_init_590 : decode cX11_init 590 = .ok (.iconst 0, 1) := zrD zrw_cX11_init_564 (i := 26) (by decide +kernel) rfl
theorem dX11_init_591 : decode cX11_init 591 = .ok (.iconst 0, 1) := zrD zrw_cX11_init_564 (i := 27) (by decide +kernel) rfl
theorem dX11_init_592 : decode cX11_init 592 = .ok (.iconst 0, 1) := zrD zrw_cX11_init_564 (i := 28) (by decide +kernel) rfl
theorem dX11_init_593 : decode cX11_init 593 = .ok (.invokestatic 159, 3) := zrD zrw_cX11_init_564 (i := 29) (by decide +kernel) rfl
def zrk_cX11_init_596 : ByteArray := .mk #[80, 42, 180, 0, 34, 16, 10, 16, 105, 16, 102, 3, 3, 3, 3, 3, 184, 0, 159, 80, 42, 180, 0, 34, 16, 11, 16, 116, 16, 104, 16, 101]
theorem zrw_cX11_init_596 : zrW 596 cX11_init zrk_cX11_init_596 := by unfold zrW; decide +kernel
theorem dX11_init_596 : decode cX11_init 596 = .ok (.lastore, 1) := zrD zrw_cX11_init_596 (i := 0) (by decide +kernel) rfl
theorem dX11_init_597 : decode cX11_init 597 = .ok (.aload_n 0, 1) := zrD zrw_cX11_init_596 (i := 1) (by decide +kernel) rfl
theorem dX11_init_598 : decode cX11_init 598 = .ok (.getfield 34, 3) := zrD zrw_cX11_init_596 (i := 2) (by decide +kernel) rfl
theorem dX11_init_601 : decode cX11_init 601 = .ok (.bipush 10, 2) := zrD zrw_cX11_init_596 (i := 5) (by decide +kernel) rfl
theorem dX11_init_603 : decode cX11_init 603 = .ok (.bipush 105, 2) := zrD zrw_cX11_init_596 (i := 7) (by decide +kernel) rfl
theorem dX11_init_605 : decode cX11_init 605 = .ok (.bipush 102, 2) := zrD zrw_cX11_init_596 (i := 9) (by decide +kernel) rfl
theorem dX11_init_607 : decode cX11_init 607 = .ok (.iconst 0, 1) := zrD zrw_cX11_init_596 (i := 11) (by decide +kernel) rfl
theorem dX11_init_608 : decode cX11_init 608 = .ok (.iconst 0, 1) := zrD zrw_cX11_init_596 (i := 12) (by decide +kernel) rfl
theorem dX11_init_609 : decode cX11_init 609 = .ok (.iconst 0, 1) := zrD zrw_cX11_init_596 (i := 13) (by decide +kernel) rfl
theorem dX11_init_610 : decode cX11_init 610 = .ok (.iconst 0, 1) := zrD zrw_cX11_init_596 (i := 14) (by decide +kernel) rfl
theorem dX11_init_611 : decode cX11_init 611 = .ok (.iconst 0, 1) := zrD zrw_cX11_init_596 (i := 15) (by decide +kernel) rfl
theorem dX11_init_612 : decode cX11_init 612 = .ok (.invokestatic 159, 3) := zrD zrw_cX11_init_596 (i := 16) (by decide +kernel) rfl
theorem dX11_init_615 : decode cX11_init 615 = .ok (.lastore, 1) := zrD zrw_cX11_init_596 (i := 19) (by decide +kernel) rfl
theorem dX11_init_616 : decode cX11_init 616 = .ok (.aload_n 0, 1) := zrD zrw_cX11_init_596 (i := 20) (by decide +kernel) rfl
theorem dX11_init_617 : decode cX11_init 617 = .ok (.getfield 34, 3) := zrD zrw_cX11_init_596 (i := 21) (by decide +kernel) rfl
theorem dX11_init_620 : decode cX11_init 620 = .ok (.bipush 11, 2) := zrD zrw_cX11_init_596 (i := 24) (by decide +kernel) rfl
theorem dX11_init_622 : decode cX11_init 622 = .ok (.bipush 116, 2) := zrD zrw_cX11_init_596 (i := 26) (by decide +kernel) rfl
theorem dX11_init_624 : decode cX11_init 624 = .ok (.bipush 104, 2) := zrD zrw_cX11_init_596 (i := 28) (by decide +kernel) rfl
theorem dX11_init_626 : decode cX11_init 626 = .ok (.bipush 101, 2) := zrD zrw_cX11_init_596 (i := 30) (by decide +kernel) rfl
def zrk_cX11_init_628 : ByteArray := .mk #[16, 110, 3, 3, 3, 184, 0, 159, 80, 42, 180, 0, 34, 16, 12, 16, 101, 16, 108, 16, 115, 16, 101, 3, 3, 3, 184, 0, 159, 80, 42]
theorem zrw_cX11_init_628 : zrW 628 cX11_init zrk_cX11_init_628 := by unfold zrW; decide +kernel
theorem dX11_init_628 : decode cX11_init 628 = .ok (.bipush 110, 2) := zrD zrw_cX11_init_628 (i := 0) (by decide +kernel) rfl
theorem dX11_init_630 : decode cX11_init 630 = .ok (.iconst 0, 1) := zrD zrw_cX11_init_628 (i := 2) (by decide +kernel) rfl
theorem dX11_init_631 : decode cX11_init 631 = .ok (.iconst 0, 1) := zrD zrw_cX11_init_628 (i := 3) (by decide +kernel) rfl
theorem dX11_init_632 : decode cX11_init 632 = .ok (.iconst 0, 1) := zrD zrw_cX11_init_628 (i := 4) (by decide +kernel) rfl
theorem dX11_init_633 : decode cX11_init 633 = .ok (.invokestatic 159, 3) := zrD zrw_cX11_init_628 (i := 5) (by decide +kernel) rfl
theorem dX11_init_636 : decode cX11_init 636 = .ok (.lastore, 1) := zrD zrw_cX11_init_628 (i := 8) (by decide +kernel) rfl
theorem dX11_init_637 : decode cX11_init 637 = .ok (.aload_n 0, 1) := zrD zrw_cX11_init_628 (i := 9) (by decide +kernel) rfl
theorem dX11_init_638 : decode cX11_init 638 = .ok (.getfield 34, 3) := zrD zrw_cX11_init_628 (i := 10) (by decide +kernel) rfl
theorem dX11_init_641 : decode cX11_init 641 = .ok (.bipush 12, 2) := zrD zrw_cX11_init_628 (i := 13) (by decide +kernel) rfl
theorem dX11_init_643 : decode cX11_init 643 = .ok (.bipush 101, 2) := zrD zrw_cX11_init_628 (i := 15) (by decide +kernel) rfl
theorem dX11_init_645 : decode cX11_init 645 = .ok (.bipush 108, 2) := zrD zrw_cX11_init_628 (i := 17) (by decide +kernel) rfl
theorem dX11_init_647 : decode cX11_init 647 = .ok (.bipush 115, 2) := zrD zrw_cX11_init_628 (i := 19) (by decide +kernel) rfl
theorem dX11_init_649 : decode cX11_init 649 = .ok (.bipush 101, 2) := zrD zrw_cX11_init_628 (i := 21) (by decide +kernel) rfl
theorem dX11_init_651 : decode cX11_init 651 = .ok (.iconst 0, 1) := zrD zrw_cX11_init_628 (i := 23) (by decide +kernel) rfl
theorem dX11_init_652 : decode cX11_init 652 = .ok (.iconst 0, 1) := zrD zrw_cX11_init_628 (i := 24) (by decide +kernel) rfl
theorem dX11_init_653 : decode cX11_init 653 = .ok (.iconst 0, 1) := zrD zrw_cX11_init_628 (i := 25) (by decide +kernel) rfl
theorem dX11_init_654 : decode cX11_init 654 = .ok (.invokestatic 159, 3) := zrD zrw_cX11_init_628 (i := 26) (by decide +kernel) rfl
theorem dX11_init_657 : decode cX11_init 657 = .ok (.lastore, 1) := zrD zrw_cX11_init_628 (i := 29) (by decide +kernel) rfl
theorem dX11_init_658 : decode cX11_init 658 = .ok (.aload_n 0, 1) := zrD zrw_cX11_init_628 (i := 30) (by decide +kernel) rfl
def zrk_cX11_init_659 : ByteArray := .mk #[180, 0, 34, 16, 13, 16, 114, 16, 97, 16, 105, 16, 110, 3, 3, 3, 184, 0, 159, 80, 42, 180, 0, 34, 16, 14, 16, 102, 16, 97, 16, 114]
theorem zrw_cX11_init_659 : zrW 659 cX11_init zrk_cX11_init_659 := by unfold zrW; decide +kernel
theorem dX11_init_659 : decode cX11_init 659 = .ok (.getfield 34, 3) := zrD zrw_cX11_init_659 (i := 0) (by decide +kernel) rfl
theorem dX11_init_662 : decode cX11_init 662 = .ok (.bipush 13, 2) := zrD zrw_cX11_init_659 (i := 3) (by decide +kernel) rfl
theorem dX11_init_664 : decode cX11_init 664 = .ok (.bipush 114, 2) := zrD zrw_cX11_init_659 (i := 5) (by decide +kernel) rfl
theorem dX11_init_666 : decode cX11_init 666 = .ok (.bipush 97, 2) := zrD zrw_cX11_init_659 (i := 7) (by decide +kernel) rfl
theorem dX11_init_668 : decode cX11_init 668 = .ok (.bipush 105, 2) := zrD zrw_cX11_init_659 (i := 9) (by decide +kernel) rfl
theorem dX11_init_670 : decode cX11_init 670 = .ok (.bipush 110, 2) := zrD zrw_cX11_init_659 (i := 11) (by decide +kernel) rfl
theorem dX11_init_672 : decode cX11_init 672 = .ok (.iconst 0, 1) := zrD zrw_cX11_init_659 (i := 13) (by decide +kernel) rfl
theorem dX11_init_673 : decode cX11_init 673 = .ok (.iconst 0, 1) := zrD zrw_cX11_init_659 (i := 14) (by decide +kernel) rfl
theorem dX11_init_674 : decode cX11_init 674 = .ok (.iconst 0, 1) := zrD zrw_cX11_init_659 (i := 15) (by decide +kernel) rfl
theorem dX11_init_675 : decode cX11_init 675 = .ok (.invokestatic 159, 3) := zrD zrw_cX11_init_659 (i := 16) (by decide +kernel) rfl
theorem dX11_init_678 : decode cX11_init 678 = .ok (.lastore, 1) := zrD zrw_cX11_init_659 (i := 19) (by decide +kernel) rfl
theorem dX11_init_679 : decode cX11_init 679 = .ok (.aload_n 0, 1) := zrD zrw_cX11_init_659 (i := 20) (by decide +kernel) rfl
theorem dX11_init_680 : decode cX11_init 680 = .ok (.getfield 34, 3) := zrD zrw_cX11_init_659 (i := 21) (by decide +kernel) rfl
theorem dX11_init_683 : decode cX11_init 683 = .ok (.bipush 14, 2) := zrD zrw_cX11_init_659 (i := 24) (by decide +kernel) rfl
theorem dX11_init_685 : decode cX11_init 685 = .ok (.bipush 102, 2) := zrD zrw_cX11_init_659 (i := 26) (by decide +kernel) rfl
theorem dX11_init_687 : decode cX11_init 687 = .ok (.bipush 97, 2) := zrD zrw_cX11_init_659 (i := 28) (by decide +kernel) rfl
theorem dX11_init_689 : decode cX11_init 689 = .ok (.bipush 114, 2) := zrD zrw_cX11_init_659 (i := 30) (by decide +kernel) rfl
def zrk_cX11_init_691 : ByteArray := .mk #[3, 3, 3, 3, 184, 0, 159, 80, 42, 180, 0, 34, 16, 15, 16, 116, 16, 97, 16, 108, 16, 101, 3, 3, 3, 184, 0, 159, 80, 42]
theorem zrw_cX11_init_691 : zrW 691 cX11_init zrk_cX11_init_691 := by unfold zrW; decide +kernel
theorem dX11_init_691 : decode cX11_init 691 = .ok (.iconst 0, 1) := zrD zrw_cX11_init_691 (i := 0) (by decide +kernel) rfl
theorem dX11_init_692 : decode cX11_init 692 = .ok (.iconst 0, 1) := zrD zrw_cX11_init_691 (i := 1) (by decide +kernel) rfl
theorem dX11_init_693 : decode cX11_init 693 = .ok (.iconst 0, 1) := zrD zrw_cX11_init_691 (i := 2) (by decide +kernel) rfl
theorem dX11_init_694 : decode cX11_init 694 = .ok (.iconst 0, 1) := zrD zrw_cX11_init_691 (i := 3) (by decide +kernel) rfl
theorem dX11_init_695 : decode cX11_init 695 = .ok (.invokestatic 159, 3) := zrD zrw_cX11_init_691 (i := 4) (by decide +kernel) rfl
theorem dX11_init_698 : decode cX11_init 698 = .ok (.lastore, 1) := zrD zrw_cX11_init_691 (i := 7) (by decide +kernel) rfl
theorem dX11_init_699 : decode cX11_init 699 = .ok (.aload_n 0, 1) := zrD zrw_cX11_init_691 (i := 8) (by decide +kernel) rfl
theorem dX11_init_700 : decode cX11_init 700 = .ok (.getfield 34, 3) := zrD zrw_cX11_init_691 (i := 9) (by decide +kernel) rfl
theorem dX11_init_703 : decode cX11_init 703 = .ok (.bipush 15, 2) := zrD zrw_cX11_init_691 (i := 12) (by decide +kernel) rfl
theorem dX11_init_705 : decode cX11_init 705 = .ok (.bipush 116, 2) := zrD zrw_cX11_init_691 (i := 14) (by decide +kernel) rfl
theorem dX11_init_707 : decode cX11_init 707 = .ok (.bipush 97, 2) := zrD zrw_cX11_init_691 (i := 16) (by decide +kernel) rfl
theorem dX11_init_709 : decode cX11_init 709 = .ok (.bipush 108, 2) := zrD zrw_cX11_init_691 (i := 18) (by decide +kernel) rfl
theorem dX11_init_711 : decode cX11_init 711 = .ok (.bipush 101, 2) := zrD zrw_cX11_init_691 (i := 20) (by decide +kernel) rfl
theorem dX11_init_713 : decode cX11_init 713 = .ok (.iconst 0, 1) := zrD zrw_cX11_init_691 (i := 22) (by decide +kernel) rfl
theorem dX11_init_714 : decode cX11_init 714 = .ok (.iconst 0, 1) := zrD zrw_cX11_init_691 (i := 23) (by decide +kernel) rfl
theorem dX11_init_715 : decode cX11_init 715 = .ok (.iconst 0, 1) := zrD zrw_cX11_init_691 (i := 24) (by decide +kernel) rfl
theorem dX11_init_716 : decode cX11_init 716 = .ok (.invokestatic 159, 3) := zrD zrw_cX11_init_691 (i := 25) (by decide +kernel) rfl
theorem dX11_init_719 : decode cX11_init 719 = .ok (.lastore, 1) := zrD zrw_cX11_init_691 (i := 28) (by decide +kernel) rfl
theorem dX11_init_720 : decode cX11_init 720 = .ok (.aload_n 0, 1) := zrD zrw_cX11_init_691 (i := 29) (by decide +kernel) rfl
def zrk_cX11_init_721 : ByteArray := .mk #[180, 0, 34, 16, 16, 16, 109, 16, 111, 16, 110, 16, 116, 16, 104, 3, 3, 184, 0, 159, 80, 42, 180, 0, 34, 16, 17, 16, 102, 16, 108]
theorem zrw_cX11_init_721 : zrW 721 cX11_init zrk_cX11_init_721 := by unfold zrW; decide +kernel
theorem dX11_init_721 : decode cX11_init 721 = .ok (.getfield 34, 3) := zrD zrw_cX11_init_721 (i := 0) (by decide +kernel) rfl
theorem dX11_init_724 : decode cX11_init 724 = .ok (.bipush 16, 2) := zrD zrw_cX11_init_721 (i := 3) (by decide +kernel) rfl
theorem dX11_init_726 : decode cX11_init 726 = .ok (.bipush 109, 2) := zrD zrw_cX11_init_721 (i := 5) (by decide +kernel) rfl
theorem dX11_init_728 : decode cX11_init 728 = .ok (.bipush 111, 2) := zrD zrw_cX11_init_721 (i := 7) (by decide +kernel) rfl
theorem dX11_init_730 : decode cX11_init 730 = .ok (.bipush 110, 2) := zrD zrw_cX11_init_721 (i := 9) (by decide +kernel) rfl
theorem dX11_init_732 : decode cX11_init 732 = .ok (.bipush 116, 2) := zrD zrw_cX11_init_721 (i := 11) (by decide +kernel) rfl
theorem dX11_init_734 : decode cX11_init 734 = .ok (.bipush 104, 2) := zrD zrw_cX11_init_721 (i := 13) (by decide +kernel) rfl
theorem dX11_init_736 : decode cX11_init 736 = .ok (.iconst 0, 1) := zrD zrw_cX11_init_721 (i := 15) (by decide +kernel) rfl
theorem dX11_init_737 : decode cX11_init 737 = .ok (.iconst 0, 1) := zrD zrw_cX11_init_721 (i := 16) (by decide +kernel) rfl
theorem dX11_init_738 : decode cX11_init 738 = .ok (.invokestatic 159, 3) := zrD zrw_cX11_init_721 (i := 17) (by decide +kernel) rfl
theorem dX11_init_741 : decode cX11_init 741 = .ok (.lastore, 1) := zrD zrw_cX11_init_721 (i := 20) (by decide +kernel) rfl
theorem dX11_init_742 : decode cX11_init 742 = .ok (.aload_n 0, 1) := zrD zrw_cX11_init_721 (i := 21) (by decide +kernel) rfl
theorem dX11_init_743 : decode cX11_init 743 = .ok (.getfield 34, 3) := zrD zrw_cX11_init_721 (i := 22) (by decide +kernel) rfl
theorem dX11_init_746 : decode cX11_init 746 = .ok (.bipush 17, 2) := zrD zrw_cX11_init_721 (i := 25) (by decide +kernel) rfl
theorem dX11_init_748 : decode cX11_init 748 = .ok (.bipush 102, 2) := zrD zrw_cX11_init_721 (i := 27) (by decide +kernel) rfl
theorem dX11_init_750 : decode cX11_init 750 = .ok (.bipush 108, 2) := zrD zrw_cX11_init_721 (i := 29) (by decide +kernel) rfl
def zrk_cX11_init_752 : ByteArray := .mk #[16, 111, 16, 119, 3, 3, 3, 184, 0, 159, 80, 42, 180, 0, 34, 16, 18, 16, 108, 16, 101, 16, 110, 16, 103, 16, 116, 16, 104, 3]
theorem zrw_cX11_init_752 : zrW 752 cX11_init zrk_cX11_init_752 := by unfold zrW; decide +kernel
theorem dX11_init_752 : decode cX11_init 752 = .ok (.bipush 111, 2) := zrD zrw_cX11_init_752 (i := 0) (by decide +kernel) rfl
theorem dX11_init_754 : decode cX11_init 754 = .ok (.bipush 119, 2) := zrD zrw_cX11_init_752 (i := 2) (by decide +kernel) rfl
theorem dX11_init_756 : decode cX11_init 756 = .ok (.iconst 0, 1) := zrD zrw_cX11_init_752 (i := 4) (by decide +kernel) rfl
theorem dX11_init_757 : decode cX11_init 757 = .ok (.iconst 0, 1) := zrD zrw_cX11_init_752 (i := 5) (by decide +kernel) rfl
theorem dX11_init_758 : decode cX11_init 758 = .ok (.iconst 0, 1) := zrD zrw_cX11_init_752 (i := 6) (by decide +kernel) rfl
theorem dX11_init_759 : decode cX11_init 759 = .ok (.invokestatic 159, 3) := zrD zrw_cX11_init_752 (i := 7) (by decide +kernel) rfl
theorem dX11_init_762 : decode cX11_init 762 = .ok (.lastore, 1) := zrD zrw_cX11_init_752 (i := 10) (by decide +kernel) rfl
theorem dX11_init_763 : decode cX11_init 763 = .ok (.aload_n 0, 1) := zrD zrw_cX11_init_752 (i := 11) (by decide +kernel) rfl
theorem dX11_init_764 : decode cX11_init 764 = .ok (.getfield 34, 3) := zrD zrw_cX11_init_752 (i := 12) (by decide +kernel) rfl
theorem dX11_init_767 : decode cX11_init 767 = .ok (.bipush 18, 2) := zrD zrw_cX11_init_752 (i := 15) (by decide +kernel) rfl
theorem dX11_init_769 : decode cX11_init 769 = .ok (.bipush 108, 2) := zrD zrw_cX11_init_752 (i := 17) (by decide +kernel) rfl
theorem dX11_init_771 : decode cX11_init 771 = .ok (.bipush 101, 2) := zrD zrw_cX11_init_752 (i := 19) (by decide +kernel) rfl
theorem dX11_init_773 : decode cX11_init 773 = .ok (.bipush 110, 2) := zrD zrw_cX11_init_752 (i := 21) (by decide +kernel) rfl
theorem dX11_init_775 : decode cX11_init 775 = .ok (.bipush 103, 2) := zrD zrw_cX11_init_752 (i := 23) (by decide +kernel) rfl
theorem dX11_init_777 : decode cX11_init 777 = .ok (.bipush 116, 2) := zrD zrw_cX11_init_752 (i := 25) (by decide +kernel) rfl
theorem dX11_init_779 : decode cX11_init 779 = .ok (.bipush 104, 2) := zrD zrw_cX11_init_752 (i := 27) (by decide +kernel) rfl
theorem dX11_init_781 : decode cX11_init 781 = .ok (.iconst 0, 1) := zrD zrw_cX11_init_752 (i := 29) (by decide +kernel) rfl
def zrk_cX11_init_782 : ByteArray := .mk #[184, 0, 159, 80, 42, 180, 0, 34, 16, 19, 16, 119, 16, 111, 16, 110, 3, 3, 3, 3, 184, 0, 159, 80, 42, 180, 0, 34, 16, 20, 16, 119]
theorem zrw_cX11_init_782 : zrW 782 cX11_init zrk_cX11_init_782 := by unfold zrW; decide +kernel
theorem dX11_init_782 : decode cX11_init 782 = .ok (.invokestatic 159, 3) := zrD zrw_cX11_init_782 (i := 0) (by decide +kernel) rfl
theorem dX11_init_785 : decode cX11_init 785 = .ok (.lastore, 1) := zrD zrw_cX11_init_782 (i := 3) (by decide +kernel) rfl
theorem dX11_init_786 : decode cX11_init 786 = .ok (.aload_n 0, 1) := zrD zrw_cX11_init_782 (i := 4) (by decide +kernel) rfl
theorem dX11_init_787 : decode cX11_init 787 = .ok (.getfield 34, 3) := zrD zrw_cX11_init_782 (i := 5) (by decide +kernel) rfl
theorem dX11_init_790 : decode cX11_init 790 = .ok (.bipush 19, 2) := zrD zrw_cX11_init_782 (i := 8) (by decide +kernel) rfl
theorem dX11_init_792 : decode cX11_init 792 = .ok (.bipush 119, 2) := zrD zrw_cX11_init_782 (i := 10) (by decide +kernel) rfl
theorem dX11_init_794 : decode cX11_init 794 = .ok (.bipush 111, 2) := zrD zrw_cX11_init_782 (i := 12) (by decide +kernel) rfl
theorem dX11_init_796 : decode cX11_init 796 = .ok (.bipush 110, 2) := zrD zrw_cX11_init_782 (i := 14) (by decide +kernel) rfl
theorem dX11_init_798 : decode cX11_init 798 = .ok (.iconst 0, 1) := zrD zrw_cX11_init_782 (i := 16) (by decide +kernel) rfl
theorem dX11_init_799 : decode cX11_init 799 = .ok (.iconst 0, 1) := zrD zrw_cX11_init_782 (i := 17) (by decide +kernel) rfl
theorem dX11_init_800 : decode cX11_init 800 = .ok (.iconst 0, 1) := zrD zrw_cX11_init_782 (i := 18) (by decide +kernel) rfl
theorem dX11_init_801 : decode cX11_init 801 = .ok (.iconst 0, 1) := zrD zrw_cX11_init_782 (i := 19) (by decide +kernel) rfl
theorem dX11_init_802 : decode cX11_init 802 = .ok (.invokestatic 159, 3) := zrD zrw_cX11_init_782 (i := 20) (by decide +kernel) rfl
theorem dX11_init_805 : decode cX11_init 805 = .ok (.lastore, 1) := zrD zrw_cX11_init_782 (i := 23) (by decide +kernel) rfl
theorem dX11_init_806 : decode cX11_init 806 = .ok (.aload_n 0, 1) := zrD zrw_cX11_init_782 (i := 24) (by decide +kernel) rfl
theorem dX11_init_807 : decode cX11_init 807 = .ok (.getfield 34, 3) := zrD zrw_cX11_init_782 (i := 25) (by decide +kernel) rfl
theorem dX11_init_810 : decode cX11_init 810 = .ok (.bipush 20, 2) := zrD zrw_cX11_init_782 (i := 28) (by decide +kernel) rfl
theorem dX11_init_812 : decode cX11_init 812 = .ok (.bipush 119, 2) := zrD zrw_cX11_init_782 (i := 30) (by decide +kernel) rfl
def zrk_cX11_init_814 : ByteArray := .mk #[16, 104, 16, 105, 16, 99, 16, 104, 3, 3, 184, 0, 159, 80, 42, 180, 0, 34, 16, 21, 16, 97, 16, 98, 16, 111, 16, 118, 16, 101, 3, 3]
theorem zrw_cX11_init_814 : zrW 814 cX11_init zrk_cX11_init_814 := by unfold zrW; decide +kernel
theorem dX11_init_814 : decode cX11_init 814 = .ok (.bipush 104, 2) := zrD zrw_cX11_init_814 (i := 0) (by decide +kernel) rfl
theorem dX11_init_816 : decode cX11_init 816 = .ok (.bipush 105, 2) := zrD zrw_cX11_init_814 (i := 2) (by decide +kernel) rfl
theorem dX11_init_818 : decode cX11_init 818 = .ok (.bipush 99, 2) := zrD zrw_cX11_init_814 (i := 4) (by decide +kernel) rfl
theorem dX11_init_820 : decode cX11_init 820 = .ok (.bipush 104, 2) := zrD zrw_cX11_init_814 (i := 6) (by decide +kernel) rfl
theorem dX11_init_822 : decode cX11_init 822 = .ok (.iconst 0, 1) := zrD zrw_cX11_init_814 (i := 8) (by decide +kernel) rfl
theorem dX11_init_823 : decode cX11_init 823 = .ok (.iconst 0, 1) := zrD zrw_cX11_init_814 (i := 9) (by decide +kernel) rfl
theorem dX11_init_824 : decode cX11_init 824 = .ok (.invokestatic 159, 3) := zrD zrw_cX11_init_814 (i := 10) (by decide +kernel) rfl
theorem dX11_init_827 : decode cX11_init 827 = .ok (.lastore, 1) := zrD zrw_cX11_init_814 (i := 13) (by decide +kernel) rfl
theorem dX11_init_828 : decode cX11_init 828 = .ok (.aload_n 0, 1) := zrD zrw_cX11_init_814 (i := 14) (by decide +kernel) rfl
theorem dX11_init_829 : decode cX11_init 829 = .ok (.getfield 34, 3) := zrD zrw_cX11_init_814 (i := 15) (by decide +kernel) rfl
theorem dX11_init_832 : decode cX11_init 832 = .ok (.bipush 21, 2) := zrD zrw_cX11_init_814 (i := 18) (by decide +kernel) rfl
theorem dX11_init_834 : decode cX11_init 834 = .ok (.bipush 97, 2) := zrD zrw_cX11_init_814 (i := 20) (by decide +kernel) rfl
theorem dX11_init_836 : decode cX11_init 836 = .ok (.bipush 98, 2) := zrD zrw_cX11_init_814 (i := 22) (by decide +kernel) rfl
theorem dX11_init_838 : decode cX11_init 838 = .ok (.bipush 111, 2) := zrD zrw_cX11_init_814 (i := 24) (by decide +kernel) rfl
theorem dX11_init_840 : decode cX11_init 840 = .ok (.bipush 118, 2) := zrD zrw_cX11_init_814 (i := 26) (by decide +kernel) rfl
theorem dX11_init_842 : decode cX11_init 842 = .ok (.bipush 101, 2) := zrD zrw_cX11_init_814 (i := 28) (by decide +kernel) rfl
theorem dX11_init_844 : decode cX11_init 844 = .ok (.iconst 0, 1) := zrD zrw_cX11_init_814 (i := 30) (by decide +kernel) rfl
theorem dX11_init_845 : decode cX11_init 845 = .ok (.iconst 0, 1) := zrD zrw_cX11_init_814 (i := 31) (by decide +kernel) rfl
def zrk_cX11_init_846 : ByteArray := .mk #[184, 0, 159, 80, 42, 182, 0, 163, 42, 182, 0, 166, 177]
theorem zrw_cX11_init_846 : zrW 846 cX11_init zrk_cX11_init_846 := by unfold zrW; decide +kernel
theorem dX11_init_846 : decode cX11_init 846 = .ok (.invokestatic 159, 3) := zrD zrw_cX11_init_846 (i := 0) (by decide +kernel) rfl
theorem dX11_init_849 : decode cX11_init 849 = .ok (.lastore, 1) := zrD zrw_cX11_init_846 (i := 3) (by decide +kernel) rfl
theorem dX11_init_850 : decode cX11_init 850 = .ok (.aload_n 0, 1) := zrD zrw_cX11_init_846 (i := 4) (by decide +kernel) rfl
theorem dX11_init_851 : decode cX11_init 851 = .ok (.invokevirtual 163, 3) := zrD zrw_cX11_init_846 (i := 5) (by decide +kernel) rfl
theorem dX11_init_854 : decode cX11_init 854 = .ok (.aload_n 0, 1) := zrD zrw_cX11_init_846 (i := 8) (by decide +kernel) rfl
theorem dX11_init_855 : decode cX11_init 855 = .ok (.invokevirtual 166, 3) := zrD zrw_cX11_init_846 (i := 9) (by decide +kernel) rfl
theorem dX11_init_858 : decode cX11_init 858 = .ok (.return_, 1) := zrD zrw_cX11_init_846 (i := 12) (by decide +kernel) rfl
def zrk_cX11_feed_0 : ByteArray := .mk #[42, 180, 0, 169, 16, 20, 96, 17, 7, 208, 164, 0, 5, 2, 172, 42, 27, 182, 0, 172, 42, 28, 182, 0, 172, 42, 29, 182, 0, 172, 42]
theorem zrw_cX11_feed_0 : zrW 0 cX11_feed zrk_cX11_feed_0 := by unfold zrW; decide +kernel
theorem dX11_feed_0 : decode cX11_feed 0 = .ok (.aload_n 0, 1) := zrD zrw_cX11_feed_0 (i := 0) (by decide +kernel) rfl
theorem dX11_feed_1 : decode cX11_feed 1 = .ok (.getfield 169, 3) := zrD zrw_cX11_feed_0 (i := 1) (by decide +kernel) rfl
theorem dX11_feed_4 : decode cX11_feed 4 = .ok (.bipush 20, 2) := zrD zrw_cX11_feed_0 (i := 4) (by decide +kernel) rfl
theorem dX11_feed_6 : decode cX11_feed 6 = .ok (.iadd, 1) := zrD zrw_cX11_feed_0 (i := 6) (by decide +kernel) rfl
theorem dX11_feed_7 : decode cX11_feed 7 = .ok (.sipush 2000, 3) := zrD zrw_cX11_feed_0 (i := 7) (by decide +kernel) rfl
theorem dX11_feed_10 : decode cX11_feed 10 = .ok (.if_icmp .le 5, 3) := zrD zrw_cX11_feed_0 (i := 10) (by decide +kernel) rfl
theorem dX11_feed_13 : decode cX11_feed 13 = .ok (.iconst (-1), 1) := zrD zrw_cX11_feed_0 (i := 13) (by decide +kernel) rfl
theorem dX11_feed_14 : decode cX11_feed 14 = .ok (.ireturn, 1) := zrD zrw_cX11_feed_0 (i := 14) (by decide +kernel) rfl
theorem dX11_feed_15 : decode cX11_feed 15 = .ok (.aload_n 0, 1) := zrD zrw_cX11_feed_0 (i := 15) (by decide +kernel) rfl
theorem dX11_feed_16 : decode cX11_feed 16 = .ok (.iload_n 1, 1) := zrD zrw_cX11_feed_0 (i := 16) (by decide +kernel) rfl
theorem dX11_feed_17 : decode cX11_feed 17 = .ok (.invokevirtual 172, 3) := zrD zrw_cX11_feed_0 (i := 17) (by decide +kernel) rfl
theorem dX11_feed_20 : decode cX11_feed 20 = .ok (.aload_n 0, 1) := zrD zrw_cX11_feed_0 (i := 20) (by decide +kernel) rfl
theorem dX11_feed_21 : decode cX11_feed 21 = .ok (.iload_n 2, 1) := zrD zrw_cX11_feed_0 (i := 21) (by decide +kernel) rfl
theorem dX11_feed_22 : decode cX11_feed 22 = .ok (.invokevirtual 172, 3) := zrD zrw_cX11_feed_0 (i := 22) (by decide +kernel) rfl
theorem dX11_feed_25 : decode cX11_feed 25 = .ok (.aload_n 0, 1) := zrD zrw_cX11_feed_0 (i := 25) (by decide +kernel) rfl
theorem dX11_feed_26 : decode cX11_feed 26 = .ok (.iload_n 3, 1) := zrD zrw_cX11_feed_0 (i := 26) (by decide +kernel) rfl
theorem dX11_feed_27 : decode cX11_feed 27 = .ok (.invokevirtual 172, 3) := zrD zrw_cX11_feed_0 (i := 27) (by decide +kernel) rfl
theorem dX11_feed_30 : decode cX11_feed 30 = .ok (.aload_n 0, 1) := zrD zrw_cX11_feed_0 (i := 30) (by decide +kernel) rfl
def zrk_cX11_feed_31 : ByteArray := .mk #[21, 4, 182, 0, 172, 42, 21, 5, 182, 0, 172, 42, 180, 0, 169, 172]
theorem zrw_cX11_feed_31 : zrW 31 cX11_feed zrk_cX11_feed_31 := by unfold zrW; decide +kernel
theorem dX11_feed_31 : decode cX11_feed 31 = .ok (.iload 4, 2) := zrD zrw_cX11_feed_31 (i := 0) (by decide +kernel) rfl
theorem dX11_feed_33 : decode cX11_feed 33 = .ok (.invokevirtual 172, 3) := zrD zrw_cX11_feed_31 (i := 2) (by decide +kernel) rfl
theorem dX11_feed_36 : decode cX11_feed 36 = .ok (.aload_n 0, 1) := zrD zrw_cX11_feed_31 (i := 5) (by decide +kernel) rfl
theorem dX11_feed_37 : decode cX11_feed 37 = .ok (.iload 5, 2) := zrD zrw_cX11_feed_31 (i := 6) (by decide +kernel) rfl
theorem dX11_feed_39 : decode cX11_feed 39 = .ok (.invokevirtual 172, 3) := zrD zrw_cX11_feed_31 (i := 8) (by decide +kernel) rfl
theorem dX11_feed_42 : decode cX11_feed 42 = .ok (.aload_n 0, 1) := zrD zrw_cX11_feed_31 (i := 11) (by decide +kernel) rfl
theorem dX11_feed_43 : decode cX11_feed 43 = .ok (.getfield 169, 3) := zrD zrw_cX11_feed_31 (i := 12) (by decide +kernel) rfl
theorem dX11_feed_46 : decode cX11_feed 46 = .ok (.ireturn, 1) := zrD zrw_cX11_feed_31 (i := 15) (by decide +kernel) rfl
def zrk_cX11_put_0 : ByteArray := .mk #[16, 24, 61, 28, 155, 0, 32, 42, 180, 0, 13, 42, 180, 0, 169, 27, 28, 122, 145, 84, 42, 89, 180, 0, 169, 4, 96, 181, 0, 169]
theorem zrw_cX11_put_0 : zrW 0 cX11_put zrk_cX11_put_0 := by unfold zrW; decide +kernel
theorem dX11_put_0 : decode cX11_put 0 = .ok (.bipush 24, 2) := zrD zrw_cX11_put_0 (i := 0) (by decide +kernel) rfl
theorem dX11_put_2 : decode cX11_put 2 = .ok (.istore_n 2, 1) := zrD zrw_cX11_put_0 (i := 2) (by decide +kernel) rfl
theorem dX11_put_3 : decode cX11_put 3 = .ok (.iload_n 2, 1) := zrD zrw_cX11_put_0 (i := 3) (by decide +kernel) rfl
theorem dX11_put_4 : decode cX11_put 4 = .ok (.ifCond .lt 32, 3) := zrD zrw_cX11_put_0 (i := 4) (by decide +kernel) rfl
theorem dX11_put_7 : decode cX11_put 7 = .ok (.aload_n 0, 1) := zrD zrw_cX11_put_0 (i := 7) (by decide +kernel) rfl
theorem dX11_put_8 : decode cX11_put 8 = .ok (.getfield 13, 3) := zrD zrw_cX11_put_0 (i := 8) (by decide +kernel) rfl
theorem dX11_put_11 : decode cX11_put 11 = .ok (.aload_n 0, 1) := zrD zrw_cX11_put_0 (i := 11) (by decide +kernel) rfl
theorem dX11_put_12 : decode cX11_put 12 = .ok (.getfield 169, 3) := zrD zrw_cX11_put_0 (i := 12) (by decide +kernel) rfl
theorem dX11_put_15 : decode cX11_put 15 = .ok (.iload_n 1, 1) := zrD zrw_cX11_put_0 (i := 15) (by decide +kernel) rfl
theorem dX11_put_16 : decode cX11_put 16 = .ok (.iload_n 2, 1) := zrD zrw_cX11_put_0 (i := 16) (by decide +kernel) rfl
theorem dX11_put_17 : decode cX11_put 17 = .ok (.ishr, 1) := zrD zrw_cX11_put_0 (i := 17) (by decide +kernel) rfl
theorem dX11_put_18 : decode cX11_put 18 = .ok (.i2b, 1) := zrD zrw_cX11_put_0 (i := 18) (by decide +kernel) rfl
theorem dX11_put_19 : decode cX11_put 19 = .ok (.bastore, 1) := zrD zrw_cX11_put_0 (i := 19) (by decide +kernel) rfl
theorem dX11_put_20 : decode cX11_put 20 = .ok (.aload_n 0, 1) := zrD zrw_cX11_put_0 (i := 20) (by decide +kernel) rfl
theorem dX11_put_21 : decode cX11_put 21 = .ok (.dup, 1) := zrD zrw_cX11_put_0 (i := 21) (by decide +kernel) rfl
theorem dX11_put_22 : decode cX11_put 22 = .ok (.getfield 169, 3) := zrD zrw_cX11_put_0 (i := 22) (by decide +kernel) rfl
theorem dX11_put_25 : decode cX11_put 25 = .ok (.iconst 1, 1) := zrD zrw_cX11_put_0 (i := 25) (by decide +kernel) rfl
theorem dX11_put_26 : decode cX11_put 26 = .ok (.iadd, 1) := zrD zrw_cX11_put_0 (i := 26) (by decide +kernel) rfl
theorem dX11_put_27 : decode cX11_put 27 = .ok (.putfield 169, 3) := zrD zrw_cX11_put_0 (i := 27) (by decide +kernel) rfl
def zrk_cX11_put_30 : ByteArray := .mk #[132, 2, 248, 167, 255, 226, 177]
theorem zrw_cX11_put_30 : zrW 30 cX11_put zrk_cX11_put_30 := by unfold zrW; decide +kernel
theorem dX11_put_30 : decode cX11_put 30 = .ok (.iinc 2 (-8), 3) := zrD zrw_cX11_put_30 (i := 0) (by decide +kernel) rfl
theorem dX11_put_33 : decode cX11_put 33 = .ok (.goto (-30), 3) := zrD zrw_cX11_put_30 (i := 3) (by decide +kernel) rfl
theorem dX11_put_36 : decode cX11_put 36 = .ok (.return_, 1) := zrD zrw_cX11_put_30 (i := 6) (by decide +kernel) rfl
def zrk_cX11_back_0 : ByteArray := .mk #[27, 155, 0, 11, 27, 42, 180, 0, 169, 164, 0, 5, 2, 172, 42, 89, 180, 0, 169, 27, 100, 181, 0, 169, 42, 180, 0, 169, 172]
theorem zrw_cX11_back_0 : zrW 0 cX11_back zrk_cX11_back_0 := by unfold zrW; decide +kernel
theorem dX11_back_0 : decode cX11_back 0 = .ok (.iload_n 1, 1) := zrD zrw_cX11_back_0 (i := 0) (by decide +kernel) rfl
theorem dX11_back_1 : decode cX11_back 1 = .ok (.ifCond .lt 11, 3) := zrD zrw_cX11_back_0 (i := 1) (by decide +kernel) rfl
theorem dX11_back_4 : decode cX11_back 4 = .ok (.iload_n 1, 1) := zrD zrw_cX11_back_0 (i := 4) (by decide +kernel) rfl
theorem dX11_back_5 : decode cX11_back 5 = .ok (.aload_n 0, 1) := zrD zrw_cX11_back_0 (i := 5) (by decide +kernel) rfl
theorem dX11_back_6 : decode cX11_back 6 = .ok (.getfield 169, 3) := zrD zrw_cX11_back_0 (i := 6) (by decide +kernel) rfl
theorem dX11_back_9 : decode cX11_back 9 = .ok (.if_icmp .le 5, 3) := zrD zrw_cX11_back_0 (i := 9) (by decide +kernel) rfl
theorem dX11_back_12 : decode cX11_back 12 = .ok (.iconst (-1), 1) := zrD zrw_cX11_back_0 (i := 12) (by decide +kernel) rfl
theorem dX11_back_13 : decode cX11_back 13 = .ok (.ireturn, 1) := zrD zrw_cX11_back_0 (i := 13) (by decide +kernel) rfl
theorem dX11_back_14 : decode cX11_back 14 = .ok (.aload_n 0, 1) := zrD zrw_cX11_back_0 (i := 14) (by decide +kernel) rfl
theorem dX11_back_15 : decode cX11_back 15 = .ok (.dup, 1) := zrD zrw_cX11_back_0 (i := 15) (by decide +kernel) rfl
theorem dX11_back_16 : decode cX11_back 16 = .ok (.getfield 169, 3) := zrD zrw_cX11_back_0 (i := 16) (by decide +kernel) rfl
theorem dX11_back_19 : decode cX11_back 19 = .ok (.iload_n 1, 1) := zrD zrw_cX11_back_0 (i := 19) (by decide +kernel) rfl
theorem dX11_back_20 : decode cX11_back 20 = .ok (.isub, 1) := zrD zrw_cX11_back_0 (i := 20) (by decide +kernel) rfl
theorem dX11_back_21 : decode cX11_back 21 = .ok (.putfield 169, 3) := zrD zrw_cX11_back_0 (i := 21) (by decide +kernel) rfl
theorem dX11_back_24 : decode cX11_back 24 = .ok (.aload_n 0, 1) := zrD zrw_cX11_back_0 (i := 24) (by decide +kernel) rfl
theorem dX11_back_25 : decode cX11_back 25 = .ok (.getfield 169, 3) := zrD zrw_cX11_back_0 (i := 25) (by decide +kernel) rfl
theorem dX11_back_28 : decode cX11_back 28 = .ok (.ireturn, 1) := zrD zrw_cX11_back_0 (i := 28) (by decide +kernel) rfl
def zrk_cX11_byteAt_0 : ByteArray := .mk #[27, 42, 180, 0, 175, 162, 0, 16, 42, 180, 0, 17, 27, 51, 17, 0, 255, 126, 167, 0, 4, 3, 172]
theorem zrw_cX11_byteAt_0 : zrW 0 cX11_byteAt zrk_cX11_byteAt_0 := by unfold zrW; decide +kernel
theorem dX11_byteAt_0 : decode cX11_byteAt 0 = .ok (.iload_n 1, 1) := zrD zrw_cX11_byteAt_0 (i := 0) (by decide +kernel) rfl
theorem dX11_byteAt_1 : decode cX11_byteAt 1 = .ok (.aload_n 0, 1) := zrD zrw_cX11_byteAt_0 (i := 1) (by decide +kernel) rfl
theorem dX11_byteAt_2 : decode cX11_byteAt 2 = .ok (.getfield 175, 3) := zrD zrw_cX11_byteAt_0 (i := 2) (by decide +kernel) rfl
theorem dX11_byteAt_5 : decode cX11_byteAt 5 = .ok (.if_icmp .ge 16, 3) := zrD zrw_cX11_byteAt_0 (i := 5) (by decide +kernel) rfl
theorem dX11_byteAt_8 : decode cX11_byteAt 8 = .ok (.aload_n 0, 1) := zrD zrw_cX11_byteAt_0 (i := 8) (by decide +kernel) rfl
theorem dX11_byteAt_9 : decode cX11_byteAt 9 = .ok (.getfield 17, 3) := zrD zrw_cX11_byteAt_0 (i := 9) (by decide +kernel) rfl
theorem dX11_byteAt_12 : decode cX11_byteAt 12 = .ok (.iload_n 1, 1) := zrD zrw_cX11_byteAt_0 (i := 12) (by decide +kernel) rfl
theorem dX11_byteAt_13 : decode cX11_byteAt 13 = .ok (.baload, 1) := zrD zrw_cX11_byteAt_0 (i := 13) (by decide +kernel) rfl
theorem dX11_byteAt_14 : decode cX11_byteAt 14 = .ok (.sipush 255, 3) := zrD zrw_cX11_byteAt_0 (i := 14) (by decide +kernel) rfl
theorem dX11_byteAt_17 : decode cX11_byteAt 17 = .ok (.iand, 1) := zrD zrw_cX11_byteAt_0 (i := 17) (by decide +kernel) rfl
theorem dX11_byteAt_18 : decode cX11_byteAt 18 = .ok (.goto 4, 3) := zrD zrw_cX11_byteAt_0 (i := 18) (by decide +kernel) rfl
theorem dX11_byteAt_21 : decode cX11_byteAt 21 = .ok (.iconst 0, 1) := zrD zrw_cX11_byteAt_0 (i := 21) (by decide +kernel) rfl
theorem dX11_byteAt_22 : decode cX11_byteAt 22 = .ok (.ireturn, 1) := zrD zrw_cX11_byteAt_0 (i := 22) (by decide +kernel) rfl
def zrk_cX11_isDigit_0 : ByteArray := .mk #[26, 16, 48, 161, 0, 13, 26, 16, 57, 163, 0, 7, 4, 167, 0, 4, 3, 172]
theorem zrw_cX11_isDigit_0 : zrW 0 cX11_isDigit zrk_cX11_isDigit_0 := by unfold zrW; decide +kernel
theorem dX11_isDigit_0 : decode cX11_isDigit 0 = .ok (.iload_n 0, 1) := zrD zrw_cX11_isDigit_0 (i := 0) (by decide +kernel) rfl
theorem dX11_isDigit_1 : decode cX11_isDigit 1 = .ok (.bipush 48, 2) := zrD zrw_cX11_isDigit_0 (i := 1) (by decide +kernel) rfl
theorem dX11_isDigit_3 : decode cX11_isDigit 3 = .ok (.if_icmp .lt 13, 3) := zrD zrw_cX11_isDigit_0 (i := 3) (by decide +kernel) rfl
theorem dX11_isDigit_6 : decode cX11_isDigit 6 = .ok (.iload_n 0, 1) := zrD zrw_cX11_isDigit_0 (i := 6) (by decide +kernel) rfl
theorem dX11_isDigit_7 : decode cX11_isDigit 7 = .ok (.bipush 57, 2) := zrD zrw_cX11_isDigit_0 (i := 7) (by decide +kernel) rfl
theorem dX11_isDigit_9 : decode cX11_isDigit 9 = .ok (.if_icmp .gt 7, 3) := zrD zrw_cX11_isDigit_0 (i := 9) (by decide +kernel) rfl
theorem dX11_isDigit_12 : decode cX11_isDigit 12 = .ok (.iconst 1, 1) := zrD zrw_cX11_isDigit_0 (i := 12) (by decide +kernel) rfl
theorem dX11_isDigit_13 : decode cX11_isDigit 13 = .ok (.goto 4, 3) := zrD zrw_cX11_isDigit_0 (i := 13) (by decide +kernel) rfl
theorem dX11_isDigit_16 : decode cX11_isDigit 16 = .ok (.iconst 0, 1) := zrD zrw_cX11_isDigit_0 (i := 16) (by decide +kernel) rfl
theorem dX11_isDigit_17 : decode cX11_isDigit 17 = .ok (.ireturn, 1) := zrD zrw_cX11_isDigit_0 (i := 17) (by decide +kernel) rfl
def zrk_cX11_isLetter_0 : ByteArray := .mk #[26, 16, 97, 161, 0, 13, 26, 16, 122, 163, 0, 7, 4, 167, 0, 4, 3, 172]
theorem zrw_cX11_isLetter_0 : zrW 0 cX11_isLetter zrk_cX11_isLetter_0 := by unfold zrW; decide +kernel
theorem dX11_isLetter_0 : decode cX11_isLetter 0 = .ok (.iload_n 0, 1) := zrD zrw_cX11_isLetter_0 (i := 0) (by decide +kernel) rfl
theorem dX11_isLetter_1 : decode cX11_isLetter 1 = .ok (.bipush 97, 2) := zrD zrw_cX11_isLetter_0 (i := 1) (by decide +kernel) rfl
theorem dX11_isLetter_3 : decode cX11_isLetter 3 = .ok (.if_icmp .lt 13, 3) := zrD zrw_cX11_isLetter_0 (i := 3) (by decide +kernel) rfl
theorem dX11_isLetter_6 : decode cX11_isLetter 6 = .ok (.iload_n 0, 1) := zrD zrw_cX11_isLetter_0 (i := 6) (by decide +kernel) rfl
theorem dX11_isLetter_7 : decode cX11_isLetter 7 = .ok (.bipush 122, 2) := zrD zrw_cX11_isLetter_0 (i := 7) (by decide +kernel) rfl
theorem dX11_isLetter_9 : decode cX11_isLetter 9 = .ok (.if_icmp .gt 7, 3) := zrD zrw_cX11_isLetter_0 (i := 9) (by decide +kernel) rfl
theorem dX11_isLetter_12 : decode cX11_isLetter 12 = .ok (.iconst 1, 1) := zrD zrw_cX11_isLetter_0 (i := 12) (by decide +kernel) rfl
theorem dX11_isLetter_13 : decode cX11_isLetter 13 = .ok (.goto 4, 3) := zrD zrw_cX11_isLetter_0 (i := 13) (by decide +kernel) rfl
theorem dX11_isLetter_16 : decode cX11_isLetter 16 = .ok (.iconst 0, 1) := zrD zrw_cX11_isLetter_0 (i := 16) (by decide +kernel) rfl
theorem dX11_isLetter_17 : decode cX11_isLetter 17 = .ok (.ireturn, 1) := zrD zrw_cX11_isLetter_0 (i := 17) (by decide +kernel) rfl
def zrk_cX11_appends_0 : ByteArray := .mk #[28, 154, 0, 7, 30, 167, 0, 16, 20, 0, 178, 30, 105, 28, 16, 97, 100, 4, 96, 133, 97, 173]
theorem zrw_cX11_appends_0 : zrW 0 cX11_appends zrk_cX11_appends_0 := by unfold zrW; decide +kernel
theorem dX11_appends_0 : decode cX11_appends 0 = .ok (.iload_n 2, 1) := zrD zrw_cX11_appends_0 (i := 0) (by decide +kernel) rfl
theorem dX11_appends_1 : decode cX11_appends 1 = .ok (.ifCond .ne 7, 3) := zrD zrw_cX11_appends_0 (i := 1) (by decide +kernel) rfl
theorem dX11_appends_4 : decode cX11_appends 4 = .ok (.lload_n 0, 1) := zrD zrw_cX11_appends_0 (i := 4) (by decide +kernel) rfl
theorem dX11_appends_5 : decode cX11_appends 5 = .ok (.goto 16, 3) := zrD zrw_cX11_appends_0 (i := 5) (by decide +kernel) rfl
theorem dX11_appends_8 : decode cX11_appends 8 = .ok (.ldc2_w 178, 3) := zrD zrw_cX11_appends_0 (i := 8) (by decide +kernel) rfl
theorem dX11_appends_11 : decode cX11_appends 11 = .ok (.lload_n 0, 1) := zrD zrw_cX11_appends_0 (i := 11) (by decide +kernel) rfl
theorem dX11_appends_12 : decode cX11_appends 12 = .ok (.lmul, 1) := zrD zrw_cX11_appends_0 (i := 12) (by decide +kernel) rfl
theorem dX11_appends_13 : decode cX11_appends 13 = .ok (.iload_n 2, 1) := zrD zrw_cX11_appends_0 (i := 13) (by decide +kernel) rfl
theorem dX11_appends_14 : decode cX11_appends 14 = .ok (.bipush 97, 2) := zrD zrw_cX11_appends_0 (i := 14) (by decide +kernel) rfl
theorem dX11_appends_16 : decode cX11_appends 16 = .ok (.isub, 1) := zrD zrw_cX11_appends_0 (i := 16) (by decide +kernel) rfl
theorem dX11_appends_17 : decode cX11_appends 17 = .ok (.iconst 1, 1) := zrD zrw_cX11_appends_0 (i := 17) (by decide +kernel) rfl
theorem dX11_appends_18 : decode cX11_appends 18 = .ok (.iadd, 1) := zrD zrw_cX11_appends_0 (i := 18) (by decide +kernel) rfl
theorem dX11_appends_19 : decode cX11_appends 19 = .ok (.i2l, 1) := zrD zrw_cX11_appends_0 (i := 19) (by decide +kernel) rfl
theorem dX11_appends_20 : decode cX11_appends 20 = .ok (.ladd, 1) := zrD zrw_cX11_appends_0 (i := 20) (by decide +kernel) rfl
theorem dX11_appends_21 : decode cX11_appends 21 = .ok (.lreturn, 1) := zrD zrw_cX11_appends_0 (i := 21) (by decide +kernel) rfl
def zrk_cX11_word_0 : ByteArray := .mk #[9, 26, 184, 0, 180, 27, 184, 0, 180, 28, 184, 0, 180, 29, 184, 0, 180, 21, 4, 184, 0, 180, 21, 5, 184, 0, 180, 21, 6, 184, 0, 180]
theorem zrw_cX11_word_0 : zrW 0 cX11_word zrk_cX11_word_0 := by unfold zrW; decide +kernel
theorem dX11_word_0 : decode cX11_word 0 = .ok (.lconst 0, 1) := zrD zrw_cX11_word_0 (i := 0) (by decide +kernel) rfl
theorem dX11_word_1 : decode cX11_word 1 = .ok (.iload_n 0, 1) := zrD zrw_cX11_word_0 (i := 1) (by decide +kernel) rfl
theorem dX11_word_2 : decode cX11_word 2 = .ok (.invokestatic 180, 3) := zrD zrw_cX11_word_0 (i := 2) (by decide +kernel) rfl
theorem dX11_word_5 : decode cX11_word 5 = .ok (.iload_n 1, 1) := zrD zrw_cX11_word_0 (i := 5) (by decide +kernel) rfl
theorem dX11_word_6 : decode cX11_word 6 = .ok (.invokestatic 180, 3) := zrD zrw_cX11_word_0 (i := 6) (by decide +kernel) rfl
theorem dX11_word_9 : decode cX11_word 9 = .ok (.iload_n 2, 1) := zrD zrw_cX11_word_0 (i := 9) (by decide +kernel) rfl
theorem dX11_word_10 : decode cX11_word 10 = .ok (.invokestatic 180, 3) := zrD zrw_cX11_word_0 (i := 10) (by decide +kernel) rfl
theorem dX11_word_13 : decode cX11_word 13 = .ok (.iload_n 3, 1) := zrD zrw_cX11_word_0 (i := 13) (by decide +kernel) rfl
theorem dX11_word_14 : decode cX11_word 14 = .ok (.invokestatic 180, 3) := zrD zrw_cX11_word_0 (i := 14) (by decide +kernel) rfl
theorem dX11_word_17 : decode cX11_word 17 = .ok (.iload 4, 2) := zrD zrw_cX11_word_0 (i := 17) (by decide +kernel) rfl
theorem dX11_word_19 : decode cX11_word 19 = .ok (.invokestatic 180, 3) := zrD zrw_cX11_word_0 (i := 19) (by decide +kernel) rfl
theorem dX11_word_22 : decode cX11_word 22 = .ok (.iload 5, 2) := zrD zrw_cX11_word_0 (i := 22) (by decide +kernel) rfl
theorem dX11_word_24 : decode cX11_word 24 = .ok (.invokestatic 180, 3) := zrD zrw_cX11_word_0 (i := 24) (by decide +kernel) rfl
theorem dX11_word_27 : decode cX11_word 27 = .ok (.iload 6, 2) := zrD zrw_cX11_word_0 (i := 27) (by decide +kernel) rfl
theorem dX11_word_29 : decode cX11_word 29 = .ok (.invokestatic 180, 3) := zrD zrw_cX11_word_0 (i := 29) (by decide +kernel) rfl
def zrk_cX11_word_32 : ByteArray := .mk #[173]
theorem zrw_cX11_word_32 : zrW 32 cX11_word zrk_cX11_word_32 := by unfold zrW; decide +kernel
theorem dX11_word_32 : decode cX11_word 32 = .ok (.lreturn, 1) := zrD zrw_cX11_word_32 (i := 0) (by decide +kernel) rfl
def zrk_cX11_token_0 : ByteArray := .mk #[42, 180, 0, 20, 42, 180, 0, 184, 27, 79, 42, 180, 0, 24, 42, 180, 0, 184, 28, 79, 42, 180, 0, 27, 42, 180, 0, 184, 29, 79, 42]
theorem zrw_cX11_token_0 : zrW 0 cX11_token zrk_cX11_token_0 := by unfold zrW; decide +kernel
theorem dX11_token_0 : decode cX11_token 0 = .ok (.aload_n 0, 1) := zrD zrw_cX11_token_0 (i := 0) (by decide +kernel) rfl
theorem dX11_token_1 : decode cX11_token 1 = .ok (.getfield 20, 3) := zrD zrw_cX11_token_0 (i := 1) (by decide +kernel) rfl
theorem dX11_token_4 : decode cX11_token 4 = .ok (.aload_n 0, 1) := zrD zrw_cX11_token_0 (i := 4) (by decide +kernel) rfl
theorem dX11_token_5 : decode cX11_token 5 = .ok (.getfield 184, 3) := zrD zrw_cX11_token_0 (i := 5) (by decide +kernel) rfl
theorem dX11_token_8 : decode cX11_token 8 = .ok (.iload_n 1, 1) := zrD zrw_cX11_token_0 (i := 8) (by decide +kernel) rfl
theorem dX11_token_9 : decode cX11_token 9 = .ok (.iastore, 1) := zrD zrw_cX11_token_0 (i := 9) (by decide +kernel) rfl
theorem dX11_token_10 : decode cX11_token 10 = .ok (.aload_n 0, 1) := zrD zrw_cX11_token_0 (i := 10) (by decide +kernel) rfl
theorem dX11_token_11 : decode cX11_token 11 = .ok (.getfield 24, 3) := zrD zrw_cX11_token_0 (i := 11) (by decide +kernel) rfl
theorem dX11_token_14 : decode cX11_token 14 = .ok (.aload_n 0, 1) := zrD zrw_cX11_token_0 (i := 14) (by decide +kernel) rfl
theorem dX11_token_15 : decode cX11_token 15 = .ok (.getfield 184, 3) := zrD zrw_cX11_token_0 (i := 15) (by decide +kernel) rfl
theorem dX11_token_18 : decode cX11_token 18 = .ok (.iload_n 2, 1) := zrD zrw_cX11_token_0 (i := 18) (by decide +kernel) rfl
theorem dX11_token_19 : decode cX11_token 19 = .ok (.iastore, 1) := zrD zrw_cX11_token_0 (i := 19) (by decide +kernel) rfl
theorem dX11_token_20 : decode cX11_token 20 = .ok (.aload_n 0, 1) := zrD zrw_cX11_token_0 (i := 20) (by decide +kernel) rfl
theorem dX11_token_21 : decode cX11_token 21 = .ok (.getfield 27, 3) := zrD zrw_cX11_token_0 (i := 21) (by decide +kernel) rfl
theorem dX11_token_24 : decode cX11_token 24 = .ok (.aload_n 0, 1) := zrD zrw_cX11_token_0 (i := 24) (by decide +kernel) rfl
theorem dX11_token_25 : decode cX11_token 25 = .ok (.getfield 184, 3) := zrD zrw_cX11_token_0 (i := 25) (by decide +kernel) rfl
theorem dX11_token_28 : decode cX11_token 28 = .ok (.iload_n 3, 1) := zrD zrw_cX11_token_0 (i := 28) (by decide +kernel) rfl
theorem dX11_token_29 : decode cX11_token 29 = .ok (.iastore, 1) := zrD zrw_cX11_token_0 (i := 29) (by decide +kernel) rfl
theorem dX11_token_30 : decode cX11_token 30 = .ok (.aload_n 0, 1) := zrD zrw_cX11_token_0 (i := 30) (by decide +kernel) rfl
def zrk_cX11_token_31 : ByteArray := .mk #[180, 0, 30, 42, 180, 0, 184, 22, 4, 80, 42, 89, 180, 0, 184, 4, 96, 181, 0, 184, 177]
theorem zrw_cX11_token_31 : zrW 31 cX11_token zrk_cX11_token_31 := by unfold zrW; decide +kernel
theorem dX11_token_31 : decode cX11_token 31 = .ok (.getfield 30, 3) := zrD zrw_cX11_token_31 (i := 0) (by decide +kernel) rfl
theorem dX11_token_34 : decode cX11_token 34 = .ok (.aload_n 0, 1) := zrD zrw_cX11_token_31 (i := 3) (by decide +kernel) rfl
theorem dX11_token_35 : decode cX11_token 35 = .ok (.getfield 184, 3) := zrD zrw_cX11_token_31 (i := 4) (by decide +kernel) rfl
theorem dX11_token_38 : decode cX11_token 38 = .ok (.lload 4, 2) := zrD zrw_cX11_token_31 (i := 7) (by decide +kernel) rfl
theorem dX11_token_40 : decode cX11_token 40 = .ok (.lastore, 1) := zrD zrw_cX11_token_31 (i := 9) (by decide +kernel) rfl
theorem dX11_token_41 : decode cX11_token 41 = .ok (.aload_n 0, 1) := zrD zrw_cX11_token_31 (i := 10) (by decide +kernel) rfl
theorem dX11_token_42 : decode cX11_token 42 = .ok (.dup, 1) := zrD zrw_cX11_token_31 (i := 11) (by decide +kernel) rfl
theorem dX11_token_43 : decode cX11_token 43 = .ok (.getfield 184, 3) := zrD zrw_cX11_token_31 (i := 12) (by decide +kernel) rfl
theorem dX11_token_46 : decode cX11_token 46 = .ok (.iconst 1, 1) := zrD zrw_cX11_token_31 (i := 15) (by decide +kernel) rfl
theorem dX11_token_47 : decode cX11_token 47 = .ok (.iadd, 1) := zrD zrw_cX11_token_31 (i := 16) (by decide +kernel) rfl
theorem dX11_token_48 : decode cX11_token 48 = .ok (.putfield 184, 3) := zrD zrw_cX11_token_31 (i := 17) (by decide +kernel) rfl
theorem dX11_token_51 : decode cX11_token 51 = .ok (.return_, 1) := zrD zrw_cX11_token_31 (i := 20) (by decide +kernel) rfl
def zrk_cX11_cut_0 : ByteArray := .mk #[42, 3, 181, 0, 184, 3, 60, 42, 180, 0, 184, 17, 1, 144, 163, 1, 24, 42, 27, 182, 0, 187, 61, 27, 42, 180, 0, 175, 161, 0, 15, 42]
theorem zrw_cX11_cut_0 : zrW 0 cX11_cut zrk_cX11_cut_0 := by unfold zrW; decide +kernel
theorem dX11_cut_0 : decode cX11_cut 0 = .ok (.aload_n 0, 1) := zrD zrw_cX11_cut_0 (i := 0) (by decide +kernel) rfl
theorem dX11_cut_1 : decode cX11_cut 1 = .ok (.iconst 0, 1) := zrD zrw_cX11_cut_0 (i := 1) (by decide +kernel) rfl
theorem dX11_cut_2 : decode cX11_cut 2 = .ok (.putfield 184, 3) := zrD zrw_cX11_cut_0 (i := 2) (by decide +kernel) rfl
theorem dX11_cut_5 : decode cX11_cut 5 = .ok (.iconst 0, 1) := zrD zrw_cX11_cut_0 (i := 5) (by decide +kernel) rfl
theorem dX11_cut_6 : decode cX11_cut 6 = .ok (.istore_n 1, 1) := zrD zrw_cX11_cut_0 (i := 6) (by decide +kernel) rfl
theorem dX11_cut_7 : decode cX11_cut 7 = .ok (.aload_n 0, 1) := zrD zrw_cX11_cut_0 (i := 7) (by decide +kernel) rfl
theorem dX11_cut_8 : decode cX11_cut 8 = .ok (.getfield 184, 3) := zrD zrw_cX11_cut_0 (i := 8) (by decide +kernel) rfl
theorem dX11_cut_11 : decode cX11_cut 11 = .ok (.sipush 400, 3) := zrD zrw_cX11_cut_0 (i := 11) (by decide +kernel) rfl
theorem dX11_cut_14 : decode cX11_cut 14 = .ok (.if_icmp .gt 280, 3) := zrD zrw_cX11_cut_0 (i := 14) (by decide +kernel) rfl
theorem dX11_cut_17 : decode cX11_cut 17 = .ok (.aload_n 0, 1) := zrD zrw_cX11_cut_0 (i := 17) (by decide +kernel) rfl
theorem dX11_cut_18 : decode cX11_cut 18 = .ok (.iload_n 1, 1) := zrD zrw_cX11_cut_0 (i := 18) (by decide +kernel) rfl
theorem dX11_cut_19 : decode cX11_cut 19 = .ok (.invokevirtual 187, 3) := zrD zrw_cX11_cut_0 (i := 19) (by decide +kernel) rfl
theorem dX11_cut_22 : decode cX11_cut 22 = .ok (.istore_n 2, 1) := zrD zrw_cX11_cut_0 (i := 22) (by decide +kernel) rfl
theorem dX11_cut_23 : decode cX11_cut 23 = .ok (.iload_n 1, 1) := zrD zrw_cX11_cut_0 (i := 23) (by decide +kernel) rfl
theorem dX11_cut_24 : decode cX11_cut 24 = .ok (.aload_n 0, 1) := zrD zrw_cX11_cut_0 (i := 24) (by decide +kernel) rfl
theorem dX11_cut_25 : decode cX11_cut 25 = .ok (.getfield 175, 3) := zrD zrw_cX11_cut_0 (i := 25) (by decide +kernel) rfl
theorem dX11_cut_28 : decode cX11_cut 28 = .ok (.if_icmp .lt 15, 3) := zrD zrw_cX11_cut_0 (i := 28) (by decide +kernel) rfl
theorem dX11_cut_31 : decode cX11_cut 31 = .ok (.aload_n 0, 1) := zrD zrw_cX11_cut_0 (i := 31) (by decide +kernel) rfl
def zrk_cX11_cut_32 : ByteArray := .mk #[3, 42, 180, 0, 175, 3, 9, 182, 0, 191, 177, 28, 16, 9, 159, 0, 21, 28, 16, 10, 159, 0, 15, 28, 16, 13, 159, 0, 9, 28, 16, 32]
theorem zrw_cX11_cut_32 : zrW 32 cX11_cut zrk_cX11_cut_32 := by unfold zrW; decide +kernel
theorem dX11_cut_32 : decode cX11_cut 32 = .ok (.iconst 0, 1) := zrD zrw_cX11_cut_32 (i := 0) (by decide +kernel) rfl
theorem dX11_cut_33 : decode cX11_cut 33 = .ok (.aload_n 0, 1) := zrD zrw_cX11_cut_32 (i := 1) (by decide +kernel) rfl
theorem dX11_cut_34 : decode cX11_cut 34 = .ok (.getfield 175, 3) := zrD zrw_cX11_cut_32 (i := 2) (by decide +kernel) rfl
theorem dX11_cut_37 : decode cX11_cut 37 = .ok (.iconst 0, 1) := zrD zrw_cX11_cut_32 (i := 5) (by decide +kernel) rfl
theorem dX11_cut_38 : decode cX11_cut 38 = .ok (.lconst 0, 1) := zrD zrw_cX11_cut_32 (i := 6) (by decide +kernel) rfl
theorem dX11_cut_39 : decode cX11_cut 39 = .ok (.invokevirtual 191, 3) := zrD zrw_cX11_cut_32 (i := 7) (by decide +kernel) rfl
theorem dX11_cut_42 : decode cX11_cut 42 = .ok (.return_, 1) := zrD zrw_cX11_cut_32 (i := 10) (by decide +kernel) rfl
theorem dX11_cut_43 : decode cX11_cut 43 = .ok (.iload_n 2, 1) := zrD zrw_cX11_cut_32 (i := 11) (by decide +kernel) rfl
theorem dX11_cut_44 : decode cX11_cut 44 = .ok (.bipush 9, 2) := zrD zrw_cX11_cut_32 (i := 12) (by decide +kernel) rfl
theorem dX11_cut_46 : decode cX11_cut 46 = .ok (.if_icmp .eq 21, 3) := zrD zrw_cX11_cut_32 (i := 14) (by decide +kernel) rfl
theorem dX11_cut_49 : decode cX11_cut 49 = .ok (.iload_n 2, 1) := zrD zrw_cX11_cut_32 (i := 17) (by decide +kernel) rfl
theorem dX11_cut_50 : decode cX11_cut 50 = .ok (.bipush 10, 2) := zrD zrw_cX11_cut_32 (i := 18) (by decide +kernel) rfl
theorem dX11_cut_52 : decode cX11_cut 52 = .ok (.if_icmp .eq 15, 3) := zrD zrw_cX11_cut_32 (i := 20) (by decide +kernel) rfl
theorem dX11_cut_55 : decode cX11_cut 55 = .ok (.iload_n 2, 1) := zrD zrw_cX11_cut_32 (i := 23) (by decide +kernel) rfl
theorem dX11_cut_56 : decode cX11_cut 56 = .ok (.bipush 13, 2) := zrD zrw_cX11_cut_32 (i := 24) (by decide +kernel) rfl
theorem dX11_cut_58 : decode cX11_cut 58 = .ok (.if_icmp .eq 9, 3) := zrD zrw_cX11_cut_32 (i := 26) (by decide +kernel) rfl
theorem dX11_cut_61 : decode cX11_cut 61 = .ok (.iload_n 2, 1) := zrD zrw_cX11_cut_32 (i := 29) (by decide +kernel) rfl
theorem dX11_cut_62 : decode cX11_cut 62 = .ok (.bipush 32, 2) := zrD zrw_cX11_cut_32 (i := 30) (by decide +kernel) rfl
def zrk_cX11_cut_64 : ByteArray := .mk #[160, 0, 9, 132, 1, 1, 167, 0, 221, 28, 184, 0, 195, 153, 0, 119, 3, 62, 9, 55, 4, 42, 27, 29, 96, 182, 0, 187, 184, 0, 195]
theorem zrw_cX11_cut_64 : zrW 64 cX11_cut zrk_cX11_cut_64 := by unfold zrW; decide +kernel
theorem dX11_cut_64 : decode cX11_cut 64 = .ok (.if_icmp .ne 9, 3) := zrD zrw_cX11_cut_64 (i := 0) (by decide +kernel) rfl
theorem dX11_cut_67 : decode cX11_cut 67 = .ok (.iinc 1 1, 3) := zrD zrw_cX11_cut_64 (i := 3) (by decide +kernel) rfl
theorem dX11_cut_70 : decode cX11_cut 70 = .ok (.goto 221, 3) := zrD zrw_cX11_cut_64 (i := 6) (by decide +kernel) rfl
theorem dX11_cut_73 : decode cX11_cut 73 = .ok (.iload_n 2, 1) := zrD zrw_cX11_cut_64 (i := 9) (by decide +kernel) rfl
theorem dX11_cut_74 : decode cX11_cut 74 = .ok (.invokestatic 195, 3) := zrD zrw_cX11_cut_64 (i := 10) (by decide +kernel) rfl
theorem dX11_cut_77 : decode cX11_cut 77 = .ok (.ifCond .eq 119, 3) := zrD zrw_cX11_cut_64 (i := 13) (by decide +kernel) rfl
theorem dX11_cut_80 : decode cX11_cut 80 = .ok (.iconst 0, 1) := zrD zrw_cX11_cut_64 (i := 16) (by decide +kernel) rfl
theorem dX11_cut_81 : decode cX11_cut 81 = .ok (.istore_n 3, 1) := zrD zrw_cX11_cut_64 (i := 17) (by decide +kernel) rfl
theorem dX11_cut_82 : decode cX11_cut 82 = .ok (.lconst 0, 1) := zrD zrw_cX11_cut_64 (i := 18) (by decide +kernel) rfl
theorem dX11_cut_83 : decode cX11_cut 83 = .ok (.lstore 4, 2) := zrD zrw_cX11_cut_64 (i := 19) (by decide +kernel) rfl
theorem dX11_cut_85 : decode cX11_cut 85 = .ok (.aload_n 0, 1) := zrD zrw_cX11_cut_64 (i := 21) (by decide +kernel) rfl
theorem dX11_cut_86 : decode cX11_cut 86 = .ok (.iload_n 1, 1) := zrD zrw_cX11_cut_64 (i := 22) (by decide +kernel) rfl
theorem dX11_cut_87 : decode cX11_cut 87 = .ok (.iload_n 3, 1) := zrD zrw_cX11_cut_64 (i := 23) (by decide +kernel) rfl
theorem dX11_cut_88 : decode cX11_cut 88 = .ok (.iadd, 1) := zrD zrw_cX11_cut_64 (i := 24) (by decide +kernel) rfl
theorem dX11_cut_89 : decode cX11_cut 89 = .ok (.invokevirtual 187, 3) := zrD zrw_cX11_cut_64 (i := 25) (by decide +kernel) rfl
theorem dX11_cut_92 : decode cX11_cut 92 = .ok (.invokestatic 195, 3) := zrD zrw_cX11_cut_64 (i := 28) (by decide +kernel) rfl
def zrk_cX11_cut_95 : ByteArray := .mk #[153, 0, 29, 29, 16, 8, 162, 0, 17, 22, 4, 42, 27, 29, 96, 182, 0, 187, 184, 0, 180, 55, 4, 132, 3, 1, 167, 255, 220, 29, 16, 8]
theorem zrw_cX11_cut_95 : zrW 95 cX11_cut zrk_cX11_cut_95 := by unfold zrW; decide +kernel
theorem dX11_cut_95 : decode cX11_cut 95 = .ok (.ifCond .eq 29, 3) := zrD zrw_cX11_cut_95 (i := 0) (by decide +kernel) rfl
theorem dX11_cut_98 : decode cX11_cut 98 = .ok (.iload_n 3, 1) := zrD zrw_cX11_cut_95 (i := 3) (by decide +kernel) rfl
theorem dX11_cut_99 : decode cX11_cut 99 = .ok (.bipush 8, 2) := zrD zrw_cX11_cut_95 (i := 4) (by decide +kernel) rfl
theorem dX11_cut_101 : decode cX11_cut 101 = .ok (.if_icmp .ge 17, 3) := zrD zrw_cX11_cut_95 (i := 6) (by decide +kernel) rfl
theorem dX11_cut_104 : decode cX11_cut 104 = .ok (.lload 4, 2) := zrD zrw_cX11_cut_95 (i := 9) (by decide +kernel) rfl
theorem dX11_cut_106 : decode cX11_cut 106 = .ok (.aload_n 0, 1) := zrD zrw_cX11_cut_95 (i := 11) (by decide +kernel) rfl
theorem dX11_cut_107 : decode cX11_cut 107 = .ok (.iload_n 1, 1) := zrD zrw_cX11_cut_95 (i := 12) (by decide +kernel) rfl
theorem dX11_cut_108 : decode cX11_cut 108 = .ok (.iload_n 3, 1) := zrD zrw_cX11_cut_95 (i := 13) (by decide +kernel) rfl
theorem dX11_cut_109 : decode cX11_cut 109 = .ok (.iadd, 1) := zrD zrw_cX11_cut_95 (i := 14) (by decide +kernel) rfl
theorem dX11_cut_110 : decode cX11_cut 110 = .ok (.invokevirtual 187, 3) := zrD zrw_cX11_cut_95 (i := 15) (by decide +kernel) rfl
theorem dX11_cut_113 : decode cX11_cut 113 = .ok (.invokestatic 180, 3) := zrD zrw_cX11_cut_95 (i := 18) (by decide +kernel) rfl
theorem dX11_cut_116 : decode cX11_cut 116 = .ok (.lstore 4, 2) := zrD zrw_cX11_cut_95 (i := 21) (by decide +kernel) rfl
theorem dX11_cut_118 : decode cX11_cut 118 = .ok (.iinc 3 1, 3) := zrD zrw_cX11_cut_95 (i := 23) (by decide +kernel) rfl
theorem dX11_cut_121 : decode cX11_cut 121 = .ok (.goto (-36), 3) := zrD zrw_cX11_cut_95 (i := 26) (by decide +kernel) rfl
theorem dX11_cut_124 : decode cX11_cut 124 = .ok (.iload_n 3, 1) := zrD zrw_cX11_cut_95 (i := 29) (by decide +kernel) rfl
theorem dX11_cut_125 : decode cX11_cut 125 = .ok (.bipush 8, 2) := zrD zrw_cX11_cut_95 (i := 30) (by decide +kernel) rfl
def zrk_cX11_cut_127 : ByteArray := .mk #[164, 0, 7, 6, 167, 0, 4, 4, 54, 6, 29, 16, 8, 163, 0, 39, 3, 54, 7, 21, 7, 16, 22, 162, 0, 29, 42, 180, 0, 34, 21, 7]
theorem zrw_cX11_cut_127 : zrW 127 cX11_cut zrk_cX11_cut_127 := by unfold zrW; decide +kernel
theorem dX11_cut_127 : decode cX11_cut 127 = .ok (.if_icmp .le 7, 3) := zrD zrw_cX11_cut_127 (i := 0) (by decide +kernel) rfl
theorem dX11_cut_130 : decode cX11_cut 130 = .ok (.iconst 3, 1) := zrD zrw_cX11_cut_127 (i := 3) (by decide +kernel) rfl
theorem dX11_cut_131 : decode cX11_cut 131 = .ok (.goto 4, 3) := zrD zrw_cX11_cut_127 (i := 4) (by decide +kernel) rfl
theorem dX11_cut_134 : decode cX11_cut 134 = .ok (.iconst 1, 1) := zrD zrw_cX11_cut_127 (i := 7) (by decide +kernel) rfl
theorem dX11_cut_135 : decode cX11_cut 135 = .ok (.istore 6, 2) := zrD zrw_cX11_cut_127 (i := 8) (by decide +kernel) rfl
theorem dX11_cut_137 : decode cX11_cut 137 = .ok (.iload_n 3, 1) := zrD zrw_cX11_cut_127 (i := 10) (by decide +kernel) rfl
theorem dX11_cut_138 : decode cX11_cut 138 = .ok (.bipush 8, 2) := zrD zrw_cX11_cut_127 (i := 11) (by decide +kernel) rfl
theorem dX11_cut_140 : decode cX11_cut 140 = .ok (.if_icmp .gt 39, 3) := zrD zrw_cX11_cut_127 (i := 13) (by decide +kernel) rfl
theorem dX11_cut_143 : decode cX11_cut 143 = .ok (.iconst 0, 1) := zrD zrw_cX11_cut_127 (i := 16) (by decide +kernel) rfl
theorem dX11_cut_144 : decode cX11_cut 144 = .ok (.istore 7, 2) := zrD zrw_cX11_cut_127 (i := 17) (by decide +kernel) rfl
theorem dX11_cut_146 : decode cX11_cut 146 = .ok (.iload 7, 2) := zrD zrw_cX11_cut_127 (i := 19) (by decide +kernel) rfl
theorem dX11_cut_148 : decode cX11_cut 148 = .ok (.bipush 22, 2) := zrD zrw_cX11_cut_127 (i := 21) (by decide +kernel) rfl
theorem dX11_cut_150 : decode cX11_cut 150 = .ok (.if_icmp .ge 29, 3) := zrD zrw_cX11_cut_127 (i := 23) (by decide +kernel) rfl
theorem dX11_cut_153 : decode cX11_cut 153 = .ok (.aload_n 0, 1) := zrD zrw_cX11_cut_127 (i := 26) (by decide +kernel) rfl
theorem dX11_cut_154 : decode cX11_cut 154 = .ok (.getfield 34, 3) := zrD zrw_cX11_cut_127 (i := 27) (by decide +kernel) rfl
theorem dX11_cut_157 : decode cX11_cut 157 = .ok (.iload 7, 2) := zrD zrw_cX11_cut_127 (i := 30) (by decide +kernel) rfl
def zrk_cX11_cut_159 : ByteArray := .mk #[47, 22, 4, 148, 154, 0, 10, 16, 20, 21, 7, 96, 54, 6, 132, 7, 1, 167, 255, 226, 42, 21, 6, 27, 3, 22, 4, 182, 0, 191, 27, 29]
theorem zrw_cX11_cut_159 : zrW 159 cX11_cut zrk_cX11_cut_159 := by unfold zrW; decide +kernel
theorem dX11_cut_159 : decode cX11_cut 159 = .ok (.laload, 1) := zrD zrw_cX11_cut_159 (i := 0) (by decide +kernel) rfl
theorem dX11_cut_160 : decode cX11_cut 160 = .ok (.lload 4, 2) := zrD zrw_cX11_cut_159 (i := 1) (by decide +kernel) rfl
theorem dX11_cut_162 : decode cX11_cut 162 = .ok (.lcmp, 1) := zrD zrw_cX11_cut_159 (i := 3) (by decide +kernel) rfl
theorem dX11_cut_163 : decode cX11_cut 163 = .ok (.ifCond .ne 10, 3) := zrD zrw_cX11_cut_159 (i := 4) (by decide +kernel) rfl
theorem dX11_cut_166 : decode cX11_cut 166 = .ok (.bipush 20, 2) := zrD zrw_cX11_cut_159 (i := 7) (by decide +kernel) rfl
theorem dX11_cut_168 : decode cX11_cut 168 = .ok (.iload 7, 2) := zrD zrw_cX11_cut_159 (i := 9) (by decide +kernel) rfl
theorem dX11_cut_170 : decode cX11_cut 170 = .ok (.iadd, 1) := zrD zrw_cX11_cut_159 (i := 11) (by decide +kernel) rfl
theorem dX11_cut_171 : decode cX11_cut 171 = .ok (.istore 6, 2) := zrD zrw_cX11_cut_159 (i := 12) (by decide +kernel) rfl
theorem dX11_cut_173 : decode cX11_cut 173 = .ok (.iinc 7 1, 3) := zrD zrw_cX11_cut_159 (i := 14) (by decide +kernel) rfl
theorem dX11_cut_176 : decode cX11_cut 176 = .ok (.goto (-30), 3) := zrD zrw_cX11_cut_159 (i := 17) (by decide +kernel) rfl
theorem dX11_cut_179 : decode cX11_cut 179 = .ok (.aload_n 0, 1) := zrD zrw_cX11_cut_159 (i := 20) (by decide +kernel) rfl
theorem dX11_cut_180 : decode cX11_cut 180 = .ok (.iload 6, 2) := zrD zrw_cX11_cut_159 (i := 21) (by decide +kernel) rfl
theorem dX11_cut_182 : decode cX11_cut 182 = .ok (.iload_n 1, 1) := zrD zrw_cX11_cut_159 (i := 23) (by decide +kernel) rfl
theorem dX11_cut_183 : decode cX11_cut 183 = .ok (.iconst 0, 1) := zrD zrw_cX11_cut_159 (i := 24) (by decide +kernel) rfl
theorem dX11_cut_184 : decode cX11_cut 184 = .ok (.lload 4, 2) := zrD zrw_cX11_cut_159 (i := 25) (by decide +kernel) rfl
theorem dX11_cut_186 : decode cX11_cut 186 = .ok (.invokevirtual 191, 3) := zrD zrw_cX11_cut_159 (i := 27) (by decide +kernel) rfl
theorem dX11_cut_189 : decode cX11_cut 189 = .ok (.iload_n 1, 1) := zrD zrw_cX11_cut_159 (i := 30) (by decide +kernel) rfl
theorem dX11_cut_190 : decode cX11_cut 190 = .ok (.iload_n 3, 1) := zrD zrw_cX11_cut_159 (i := 31) (by decide +kernel) rfl
def zrk_cX11_cut_191 : ByteArray := .mk #[96, 60, 167, 0, 98, 28, 184, 0, 199, 153, 0, 75, 3, 62, 3, 54, 4, 42, 27, 29, 96, 182, 0, 187, 184, 0, 199, 153, 0, 32, 29, 7]
theorem zrw_cX11_cut_191 : zrW 191 cX11_cut zrk_cX11_cut_191 := by unfold zrW; decide +kernel
theorem dX11_cut_191 : decode cX11_cut 191 = .ok (.iadd, 1) := zrD zrw_cX11_cut_191 (i := 0) (by decide +kernel) rfl
theorem dX11_cut_192 : decode cX11_cut 192 = .ok (.istore_n 1, 1) := zrD zrw_cX11_cut_191 (i := 1) (by decide +kernel) rfl
theorem dX11_cut_193 : decode cX11_cut 193 = .ok (.goto 98, 3) := zrD zrw_cX11_cut_191 (i := 2) (by decide +kernel) rfl
theorem dX11_cut_196 : decode cX11_cut 196 = .ok (.iload_n 2, 1) := zrD zrw_cX11_cut_191 (i := 5) (by decide +kernel) rfl
theorem dX11_cut_197 : decode cX11_cut 197 = .ok (.invokestatic 199, 3) := zrD zrw_cX11_cut_191 (i := 6) (by decide +kernel) rfl
theorem dX11_cut_200 : decode cX11_cut 200 = .ok (.ifCond .eq 75, 3) := zrD zrw_cX11_cut_191 (i := 9) (by decide +kernel) rfl
theorem dX11_cut_203 : decode cX11_cut 203 = .ok (.iconst 0, 1) := zrD zrw_cX11_cut_191 (i := 12) (by decide +kernel) rfl
theorem dX11_cut_204 : decode cX11_cut 204 = .ok (.istore_n 3, 1) := zrD zrw_cX11_cut_191 (i := 13) (by decide +kernel) rfl
theorem dX11_cut_205 : decode cX11_cut 205 = .ok (.iconst 0, 1) := zrD zrw_cX11_cut_191 (i := 14) (by decide +kernel) rfl
theorem dX11_cut_206 : decode cX11_cut 206 = .ok (.istore 4, 2) := zrD zrw_cX11_cut_191 (i := 15) (by decide +kernel) rfl
theorem dX11_cut_208 : decode cX11_cut 208 = .ok (.aload_n 0, 1) := zrD zrw_cX11_cut_191 (i := 17) (by decide +kernel) rfl
theorem dX11_cut_209 : decode cX11_cut 209 = .ok (.iload_n 1, 1) := zrD zrw_cX11_cut_191 (i := 18) (by decide +kernel) rfl
theorem dX11_cut_210 : decode cX11_cut 210 = .ok (.iload_n 3, 1) := zrD zrw_cX11_cut_191 (i := 19) (by decide +kernel) rfl
theorem dX11_cut_211 : decode cX11_cut 211 = .ok (.iadd, 1) := zrD zrw_cX11_cut_191 (i := 20) (by decide +kernel) rfl
theorem dX11_cut_212 : decode cX11_cut 212 = .ok (.invokevirtual 187, 3) := zrD zrw_cX11_cut_191 (i := 21) (by decide +kernel) rfl
theorem dX11_cut_215 : decode cX11_cut 215 = .ok (.invokestatic 199, 3) := zrD zrw_cX11_cut_191 (i := 24) (by decide +kernel) rfl
theorem dX11_cut_218 : decode cX11_cut 218 = .ok (.ifCond .eq 32, 3) := zrD zrw_cX11_cut_191 (i := 27) (by decide +kernel) rfl
theorem dX11_cut_221 : decode cX11_cut 221 = .ok (.iload_n 3, 1) := zrD zrw_cX11_cut_191 (i := 30) (by decide +kernel) rfl
theorem dX11_cut_222 : decode cX11_cut 222 = .ok (.iconst 4, 1) := zrD zrw_cX11_cut_191 (i := 31) (by decide +kernel) rfl
def zrk_cX11_cut_223 : ByteArray := .mk #[162, 0, 21, 16, 10, 21, 4, 104, 42, 27, 29, 96, 182, 0, 187, 96, 16, 48, 100, 54, 4, 132, 3, 1, 167, 255, 217, 42, 29, 7]
theorem zrw_cX11_cut_223 : zrW 223 cX11_cut zrk_cX11_cut_223 := by unfold zrW; decide +kernel
theorem dX11_cut_223 : decode cX11_cut 223 = .ok (.if_icmp .ge 21, 3) := zrD zrw_cX11_cut_223 (i := 0) (by decide +kernel) rfl
theorem dX11_cut_226 : decode cX11_cut 226 = .ok (.bipush 10, 2) := zrD zrw_cX11_cut_223 (i := 3) (by decide +kernel) rfl
theorem dX11_cut_228 : decode cX11_cut 228 = .ok (.iload 4, 2) := zrD zrw_cX11_cut_223 (i := 5) (by decide +kernel) rfl
theorem dX11_cut_230 : decode cX11_cut 230 = .ok (.imul, 1) := zrD zrw_cX11_cut_223 (i := 7) (by decide +kernel) rfl
theorem dX11_cut_231 : decode cX11_cut 231 = .ok (.aload_n 0, 1) := zrD zrw_cX11_cut_223 (i := 8) (by decide +kernel) rfl
theorem dX11_cut_232 : decode cX11_cut 232 = .ok (.iload_n 1, 1) := zrD zrw_cX11_cut_223 (i := 9) (by decide +kernel) rfl
theorem dX11_cut_233 : decode cX11_cut 233 = .ok (.iload_n 3, 1) := zrD zrw_cX11_cut_223 (i := 10) (by decide +kernel) rfl
theorem dX11_cut_234 : decode cX11_cut 234 = .ok (.iadd, 1) := zrD zrw_cX11_cut_223 (i := 11) (by decide +kernel) rfl
theorem dX11_cut_235 : decode cX11_cut 235 = .ok (.invokevirtual 187, 3) := zrD zrw_cX11_cut_223 (i := 12) (by decide +kernel) rfl
theorem dX11_cut_238 : decode cX11_cut 238 = .ok (.iadd, 1) := zrD zrw_cX11_cut_223 (i := 15) (by decide +kernel) rfl
theorem dX11_cut_239 : decode cX11_cut 239 = .ok (.bipush 48, 2) := zrD zrw_cX11_cut_223 (i := 16) (by decide +kernel) rfl
theorem dX11_cut_241 : decode cX11_cut 241 = .ok (.isub, 1) := zrD zrw_cX11_cut_223 (i := 18) (by decide +kernel) rfl
theorem dX11_cut_242 : decode cX11_cut 242 = .ok (.istore 4, 2) := zrD zrw_cX11_cut_223 (i := 19) (by decide +kernel) rfl
theorem dX11_cut_244 : decode cX11_cut 244 = .ok (.iinc 3 1, 3) := zrD zrw_cX11_cut_223 (i := 21) (by decide +kernel) rfl
theorem dX11_cut_247 : decode cX11_cut 247 = .ok (.goto (-39), 3) := zrD zrw_cX11_cut_223 (i := 24) (by decide +kernel) rfl
theorem dX11_cut_250 : decode cX11_cut 250 = .ok (.aload_n 0, 1) := zrD zrw_cX11_cut_223 (i := 27) (by decide +kernel) rfl
theorem dX11_cut_251 : decode cX11_cut 251 = .ok (.iload_n 3, 1) := zrD zrw_cX11_cut_223 (i := 28) (by decide +kernel) rfl
theorem dX11_cut_252 : decode cX11_cut 252 = .ok (.iconst 4, 1) := zrD zrw_cX11_cut_223 (i := 29) (by decide +kernel) rfl
def zrk_cX11_cut_253 : ByteArray := .mk #[164, 0, 7, 6, 167, 0, 4, 5, 27, 21, 4, 9, 182, 0, 191, 27, 29, 96, 60, 167, 0, 19, 27, 42, 27, 28, 42, 27, 4, 96]
theorem zrw_cX11_cut_253 : zrW 253 cX11_cut zrk_cX11_cut_253 := by unfold zrW; decide +kernel
theorem dX11_cut_253 : decode cX11_cut 253 = .ok (.if_icmp .le 7, 3) := zrD zrw_cX11_cut_253 (i := 0) (by decide +kernel) rfl
theorem dX11_cut_256 : decode cX11_cut 256 = .ok (.iconst 3, 1) := zrD zrw_cX11_cut_253 (i := 3) (by decide +kernel) rfl
theorem dX11_cut_257 : decode cX11_cut 257 = .ok (.goto 4, 3) := zrD zrw_cX11_cut_253 (i := 4) (by decide +kernel) rfl
theorem dX11_cut_260 : decode cX11_cut 260 = .ok (.iconst 2, 1) := zrD zrw_cX11_cut_253 (i := 7) (by decide +kernel) rfl
theorem dX11_cut_261 : decode cX11_cut 261 = .ok (.iload_n 1, 1) := zrD zrw_cX11_cut_253 (i := 8) (by decide +kernel) rfl
theorem dX11_cut_262 : decode cX11_cut 262 = .ok (.iload 4, 2) := zrD zrw_cX11_cut_253 (i := 9) (by decide +kernel) rfl
theorem dX11_cut_264 : decode cX11_cut 264 = .ok (.lconst 0, 1) := zrD zrw_cX11_cut_253 (i := 11) (by decide +kernel) rfl
theorem dX11_cut_265 : decode cX11_cut 265 = .ok (.invokevirtual 191, 3) := zrD zrw_cX11_cut_253 (i := 12) (by decide +kernel) rfl
theorem dX11_cut_268 : decode cX11_cut 268 = .ok (.iload_n 1, 1) := zrD zrw_cX11_cut_253 (i := 15) (by decide +kernel) rfl
theorem dX11_cut_269 : decode cX11_cut 269 = .ok (.iload_n 3, 1) := zrD zrw_cX11_cut_253 (i := 16) (by decide +kernel) rfl
theorem dX11_cut_270 : decode cX11_cut 270 = .ok (.iadd, 1) := zrD zrw_cX11_cut_253 (i := 17) (by decide +kernel) rfl
theorem dX11_cut_271 : decode cX11_cut 271 = .ok (.istore_n 1, 1) := zrD zrw_cX11_cut_253 (i := 18) (by decide +kernel) rfl
theorem dX11_cut_272 : decode cX11_cut 272 = .ok (.goto 19, 3) := zrD zrw_cX11_cut_253 (i := 19) (by decide +kernel) rfl
theorem dX11_cut_275 : decode cX11_cut 275 = .ok (.iload_n 1, 1) := zrD zrw_cX11_cut_253 (i := 22) (by decide +kernel) rfl
theorem dX11_cut_276 : decode cX11_cut 276 = .ok (.aload_n 0, 1) := zrD zrw_cX11_cut_253 (i := 23) (by decide +kernel) rfl
theorem dX11_cut_277 : decode cX11_cut 277 = .ok (.iload_n 1, 1) := zrD zrw_cX11_cut_253 (i := 24) (by decide +kernel) rfl
theorem dX11_cut_278 : decode cX11_cut 278 = .ok (.iload_n 2, 1) := zrD zrw_cX11_cut_253 (i := 25) (by decide +kernel) rfl
theorem dX11_cut_279 : decode cX11_cut 279 = .ok (.aload_n 0, 1) := zrD zrw_cX11_cut_253 (i := 26) (by decide +kernel) rfl
theorem dX11_cut_280 : decode cX11_cut 280 = .ok (.iload_n 1, 1) := zrD zrw_cX11_cut_253 (i := 27) (by decide +kernel) rfl
theorem dX11_cut_281 : decode cX11_cut 281 = .ok (.iconst 1, 1) := zrD zrw_cX11_cut_253 (i := 28) (by decide +kernel) rfl
theorem dX11_cut_282 : decode cX11_cut 282 = .ok (.iadd, 1) := zrD zrw_cX11_cut_253 (i := 29) (by decide +kernel) rfl
def zrk_cX11_cut_283 : ByteArray := .mk #[182, 0, 187, 182, 0, 202, 96, 60, 167, 254, 228, 177]
theorem zrw_cX11_cut_283 : zrW 283 cX11_cut zrk_cX11_cut_283 := by unfold zrW; decide +kernel
theorem dX11_cut_283 : decode cX11_cut 283 = .ok (.invokevirtual 187, 3) := zrD zrw_cX11_cut_283 (i := 0) (by decide +kernel) rfl
theorem dX11_cut_286 : decode cX11_cut 286 = .ok (.invokevirtual 202, 3) := zrD zrw_cX11_cut_283 (i := 3) (by decide +kernel) rfl
theorem dX11_cut_289 : decode cX11_cut 289 = .ok (.iadd, 1) := zrD zrw_cX11_cut_283 (i := 6) (by decide +kernel) rfl
theorem dX11_cut_290 : decode cX11_cut 290 = .ok (.istore_n 1, 1) := zrD zrw_cX11_cut_283 (i := 7) (by decide +kernel) rfl
theorem dX11_cut_291 : decode cX11_cut 291 = .ok (.goto (-284), 3) := zrD zrw_cX11_cut_283 (i := 8) (by decide +kernel) rfl
theorem dX11_cut_294 : decode cX11_cut 294 = .ok (.return_, 1) := zrD zrw_cX11_cut_283 (i := 11) (by decide +kernel) rfl
def zrk_cX11_sign_0 : ByteArray := .mk #[28, 16, 59, 160, 0, 7, 7, 167, 0, 36, 28, 16, 61, 160, 0, 7, 8, 167, 0, 26, 28, 16, 40, 160, 0, 8, 16, 6, 167, 0, 15, 28]
theorem zrw_cX11_sign_0 : zrW 0 cX11_sign zrk_cX11_sign_0 := by unfold zrW; decide +kernel
theorem dX11_sign_0 : decode cX11_sign 0 = .ok (.iload_n 2, 1) := zrD zrw_cX11_sign_0 (i := 0) (by decide +kernel) rfl
theorem dX11_sign_1 : decode cX11_sign 1 = .ok (.bipush 59, 2) := zrD zrw_cX11_sign_0 (i := 1) (by decide +kernel) rfl
theorem dX11_sign_3 : decode cX11_sign 3 = .ok (.if_icmp .ne 7, 3) := zrD zrw_cX11_sign_0 (i := 3) (by decide +kernel) rfl
theorem dX11_sign_6 : decode cX11_sign 6 = .ok (.iconst 4, 1) := zrD zrw_cX11_sign_0 (i := 6) (by decide +kernel) rfl
theorem dX11_sign_7 : decode cX11_sign 7 = .ok (.goto 36, 3) := zrD zrw_cX11_sign_0 (i := 7) (by decide +kernel) rfl
theorem dX11_sign_10 : decode cX11_sign 10 = .ok (.iload_n 2, 1) := zrD zrw_cX11_sign_0 (i := 10) (by decide +kernel) rfl
theorem dX11_sign_11 : decode cX11_sign 11 = .ok (.bipush 61, 2) := zrD zrw_cX11_sign_0 (i := 11) (by decide +kernel) rfl
theorem dX11_sign_13 : decode cX11_sign 13 = .ok (.if_icmp .ne 7, 3) := zrD zrw_cX11_sign_0 (i := 13) (by decide +kernel) rfl
theorem dX11_sign_16 : decode cX11_sign 16 = .ok (.iconst 5, 1) := zrD zrw_cX11_sign_0 (i := 16) (by decide +kernel) rfl
theorem dX11_sign_17 : decode cX11_sign 17 = .ok (.goto 26, 3) := zrD zrw_cX11_sign_0 (i := 17) (by decide +kernel) rfl
theorem dX11_sign_20 : decode cX11_sign 20 = .ok (.iload_n 2, 1) := zrD zrw_cX11_sign_0 (i := 20) (by decide +kernel) rfl
theorem dX11_sign_21 : decode cX11_sign 21 = .ok (.bipush 40, 2) := zrD zrw_cX11_sign_0 (i := 21) (by decide +kernel) rfl
theorem dX11_sign_23 : decode cX11_sign 23 = .ok (.if_icmp .ne 8, 3) := zrD zrw_cX11_sign_0 (i := 23) (by decide +kernel) rfl
theorem dX11_sign_26 : decode cX11_sign 26 = .ok (.bipush 6, 2) := zrD zrw_cX11_sign_0 (i := 26) (by decide +kernel) rfl
theorem dX11_sign_28 : decode cX11_sign 28 = .ok (.goto 15, 3) := zrD zrw_cX11_sign_0 (i := 28) (by decide +kernel) rfl
theorem dX11_sign_31 : decode cX11_sign 31 = .ok (.iload_n 2, 1) := zrD zrw_cX11_sign_0 (i := 31) (by decide +kernel) rfl
def zrk_cX11_sign_32 : ByteArray := .mk #[16, 41, 160, 0, 8, 16, 7, 167, 0, 4, 6, 54, 4, 28, 16, 43, 160, 0, 7, 16, 8, 54, 4, 28, 16, 45, 160, 0, 7, 16, 9]
theorem zrw_cX11_sign_32 : zrW 32 cX11_sign zrk_cX11_sign_32 := by unfold zrW; decide +kernel
theorem dX11_sign_32 : decode cX11_sign 32 = .ok (.bipush 41, 2) := zrD zrw_cX11_sign_32 (i := 0) (by decide +kernel) rfl
theorem dX11_sign_34 : decode cX11_sign 34 = .ok (.if_icmp .ne 8, 3) := zrD zrw_cX11_sign_32 (i := 2) (by decide +kernel) rfl
theorem dX11_sign_37 : decode cX11_sign 37 = .ok (.bipush 7, 2) := zrD zrw_cX11_sign_32 (i := 5) (by decide +kernel) rfl
theorem dX11_sign_39 : decode cX11_sign 39 = .ok (.goto 4, 3) := zrD zrw_cX11_sign_32 (i := 7) (by decide +kernel) rfl
theorem dX11_sign_42 : decode cX11_sign 42 = .ok (.iconst 3, 1) := zrD zrw_cX11_sign_32 (i := 10) (by decide +kernel) rfl
theorem dX11_sign_43 : decode cX11_sign 43 = .ok (.istore 4, 2) := zrD zrw_cX11_sign_32 (i := 11) (by decide +kernel) rfl
theorem dX11_sign_45 : decode cX11_sign 45 = .ok (.iload_n 2, 1) := zrD zrw_cX11_sign_32 (i := 13) (by decide +kernel) rfl
theorem dX11_sign_46 : decode cX11_sign 46 = .ok (.bipush 43, 2) := zrD zrw_cX11_sign_32 (i := 14) (by decide +kernel) rfl
theorem dX11_sign_48 : decode cX11_sign 48 = .ok (.if_icmp .ne 7, 3) := zrD zrw_cX11_sign_32 (i := 16) (by decide +kernel) rfl
theorem dX11_sign_51 : decode cX11_sign 51 = .ok (.bipush 8, 2) := zrD zrw_cX11_sign_32 (i := 19) (by decide +kernel) rfl
theorem dX11_sign_53 : decode cX11_sign 53 = .ok (.istore 4, 2) := zrD zrw_cX11_sign_32 (i := 21) (by decide +kernel) rfl
theorem dX11_sign_55 : decode cX11_sign 55 = .ok (.iload_n 2, 1) := zrD zrw_cX11_sign_32 (i := 23) (by decide +kernel) rfl
theorem dX11_sign_56 : decode cX11_sign 56 = .ok (.bipush 45, 2) := zrD zrw_cX11_sign_32 (i := 24) (by decide +kernel) rfl
theorem dX11_sign_58 : decode cX11_sign 58 = .ok (.if_icmp .ne 7, 3) := zrD zrw_cX11_sign_32 (i := 26) (by decide +kernel) rfl
theorem dX11_sign_61 : decode cX11_sign 61 = .ok (.bipush 9, 2) := zrD zrw_cX11_sign_32 (i := 29) (by decide +kernel) rfl
def zrk_cX11_sign_63 : ByteArray := .mk #[54, 4, 28, 16, 42, 160, 0, 7, 16, 10, 54, 4, 28, 16, 47, 160, 0, 7, 16, 15, 54, 4, 28, 16, 60, 160, 0, 7, 16, 13, 54, 4]
theorem zrw_cX11_sign_63 : zrW 63 cX11_sign zrk_cX11_sign_63 := by unfold zrW; decide +kernel
theorem dX11_sign_63 : decode cX11_sign 63 = .ok (.istore 4, 2) := zrD zrw_cX11_sign_63 (i := 0) (by decide +kernel) rfl
theorem dX11_sign_65 : decode cX11_sign 65 = .ok (.iload_n 2, 1) := zrD zrw_cX11_sign_63 (i := 2) (by decide +kernel) rfl
theorem dX11_sign_66 : decode cX11_sign 66 = .ok (.bipush 42, 2) := zrD zrw_cX11_sign_63 (i := 3) (by decide +kernel) rfl
theorem dX11_sign_68 : decode cX11_sign 68 = .ok (.if_icmp .ne 7, 3) := zrD zrw_cX11_sign_63 (i := 5) (by decide +kernel) rfl
theorem dX11_sign_71 : decode cX11_sign 71 = .ok (.bipush 10, 2) := zrD zrw_cX11_sign_63 (i := 8) (by decide +kernel) rfl
theorem dX11_sign_73 : decode cX11_sign 73 = .ok (.istore 4, 2) := zrD zrw_cX11_sign_63 (i := 10) (by decide +kernel) rfl
theorem dX11_sign_75 : decode cX11_sign 75 = .ok (.iload_n 2, 1) := zrD zrw_cX11_sign_63 (i := 12) (by decide +kernel) rfl
theorem dX11_sign_76 : decode cX11_sign 76 = .ok (.bipush 47, 2) := zrD zrw_cX11_sign_63 (i := 13) (by decide +kernel) rfl
theorem dX11_sign_78 : decode cX11_sign 78 = .ok (.if_icmp .ne 7, 3) := zrD zrw_cX11_sign_63 (i := 15) (by decide +kernel) rfl
theorem dX11_sign_81 : decode cX11_sign 81 = .ok (.bipush 15, 2) := zrD zrw_cX11_sign_63 (i := 18) (by decide +kernel) rfl
theorem dX11_sign_83 : decode cX11_sign 83 = .ok (.istore 4, 2) := zrD zrw_cX11_sign_63 (i := 20) (by decide +kernel) rfl
theorem dX11_sign_85 : decode cX11_sign 85 = .ok (.iload_n 2, 1) := zrD zrw_cX11_sign_63 (i := 22) (by decide +kernel) rfl
theorem dX11_sign_86 : decode cX11_sign 86 = .ok (.bipush 60, 2) := zrD zrw_cX11_sign_63 (i := 23) (by decide +kernel) rfl
theorem dX11_sign_88 : decode cX11_sign 88 = .ok (.if_icmp .ne 7, 3) := zrD zrw_cX11_sign_63 (i := 25) (by decide +kernel) rfl
theorem dX11_sign_91 : decode cX11_sign 91 = .ok (.bipush 13, 2) := zrD zrw_cX11_sign_63 (i := 28) (by decide +kernel) rfl
theorem dX11_sign_93 : decode cX11_sign 93 = .ok (.istore 4, 2) := zrD zrw_cX11_sign_63 (i := 30) (by decide +kernel) rfl
def zrk_cX11_sign_95 : ByteArray := .mk #[42, 21, 4, 27, 3, 9, 182, 0, 191, 4, 172]
theorem zrw_cX11_sign_95 : zrW 95 cX11_sign zrk_cX11_sign_95 := by unfold zrW; decide +kernel
theorem dX11_sign_95 : decode cX11_sign 95 = .ok (.aload_n 0, 1) := zrD zrw_cX11_sign_95 (i := 0) (by decide +kernel) rfl
theorem dX11_sign_96 : decode cX11_sign 96 = .ok (.iload 4, 2) := zrD zrw_cX11_sign_95 (i := 1) (by decide +kernel) rfl
theorem dX11_sign_98 : decode cX11_sign 98 = .ok (.iload_n 1, 1) := zrD zrw_cX11_sign_95 (i := 3) (by decide +kernel) rfl
theorem dX11_sign_99 : decode cX11_sign 99 = .ok (.iconst 0, 1) := zrD zrw_cX11_sign_95 (i := 4) (by decide +kernel) rfl
theorem dX11_sign_100 : decode cX11_sign 100 = .ok (.lconst 0, 1) := zrD zrw_cX11_sign_95 (i := 5) (by decide +kernel) rfl
theorem dX11_sign_101 : decode cX11_sign 101 = .ok (.invokevirtual 191, 3) := zrD zrw_cX11_sign_95 (i := 6) (by decide +kernel) rfl
theorem dX11_sign_104 : decode cX11_sign 104 = .ok (.iconst 1, 1) := zrD zrw_cX11_sign_95 (i := 9) (by decide +kernel) rfl
theorem dX11_sign_105 : decode cX11_sign 105 = .ok (.ireturn, 1) := zrD zrw_cX11_sign_95 (i := 10) (by decide +kernel) rfl
def zrk_cX11_is_0 : ByteArray := .mk #[42, 180, 0, 206, 154, 0, 20, 42, 180, 0, 20, 42, 180, 0, 209, 46, 27, 160, 0, 7, 4, 167, 0, 4, 3, 172]
theorem zrw_cX11_is_0 : zrW 0 cX11_is zrk_cX11_is_0 := by unfold zrW; decide +kernel
theorem dX11_is_0 : decode cX11_is 0 = .ok (.aload_n 0, 1) := zrD zrw_cX11_is_0 (i := 0) (by decide +kernel) rfl
theorem dX11_is_1 : decode cX11_is 1 = .ok (.getfield 206, 3) := zrD zrw_cX11_is_0 (i := 1) (by decide +kernel) rfl
theorem dX11_is_4 : decode cX11_is 4 = .ok (.ifCond .ne 20, 3) := zrD zrw_cX11_is_0 (i := 4) (by decide +kernel) rfl
theorem dX11_is_7 : decode cX11_is 7 = .ok (.aload_n 0, 1) := zrD zrw_cX11_is_0 (i := 7) (by decide +kernel) rfl
theorem dX11_is_8 : decode cX11_is 8 = .ok (.getfield 20, 3) := zrD zrw_cX11_is_0 (i := 8) (by decide +kernel) rfl
theorem dX11_is_11 : decode cX11_is 11 = .ok (.aload_n 0, 1) := zrD zrw_cX11_is_0 (i := 11) (by decide +kernel) rfl
theorem dX11_is_12 : decode cX11_is 12 = .ok (.getfield 209, 3) := zrD zrw_cX11_is_0 (i := 12) (by decide +kernel) rfl
theorem dX11_is_15 : decode cX11_is 15 = .ok (.iaload, 1) := zrD zrw_cX11_is_0 (i := 15) (by decide +kernel) rfl
theorem dX11_is_16 : decode cX11_is 16 = .ok (.iload_n 1, 1) := zrD zrw_cX11_is_0 (i := 16) (by decide +kernel) rfl
theorem dX11_is_17 : decode cX11_is 17 = .ok (.if_icmp .ne 7, 3) := zrD zrw_cX11_is_0 (i := 17) (by decide +kernel) rfl
theorem dX11_is_20 : decode cX11_is 20 = .ok (.iconst 1, 1) := zrD zrw_cX11_is_0 (i := 20) (by decide +kernel) rfl
theorem dX11_is_21 : decode cX11_is 21 = .ok (.goto 4, 3) := zrD zrw_cX11_is_0 (i := 21) (by decide +kernel) rfl
theorem dX11_is_24 : decode cX11_is 24 = .ok (.iconst 0, 1) := zrD zrw_cX11_is_0 (i := 24) (by decide +kernel) rfl
theorem dX11_is_25 : decode cX11_is 25 = .ok (.ireturn, 1) := zrD zrw_cX11_is_0 (i := 25) (by decide +kernel) rfl
def zrk_cX11_fail_0 : ByteArray := .mk #[42, 180, 0, 206, 158, 0, 4, 177, 42, 27, 181, 0, 206, 42, 42, 180, 0, 24, 42, 180, 0, 209, 46, 181, 0, 212, 177]
theorem zrw_cX11_fail_0 : zrW 0 cX11_fail zrk_cX11_fail_0 := by unfold zrW; decide +kernel
theorem dX11_fail_0 : decode cX11_fail 0 = .ok (.aload_n 0, 1) := zrD zrw_cX11_fail_0 (i := 0) (by decide +kernel) rfl
theorem dX11_fail_1 : decode cX11_fail 1 = .ok (.getfield 206, 3) := zrD zrw_cX11_fail_0 (i := 1) (by decide +kernel) rfl
theorem dX11_fail_4 : decode cX11_fail 4 = .ok (.ifCond .le 4, 3) := zrD zrw_cX11_fail_0 (i := 4) (by decide +kernel) rfl
theorem dX11_fail_7 : decode cX11_fail 7 = .ok (.return_, 1) := zrD zrw_cX11_fail_0 (i := 7) (by decide +kernel) rfl
theorem dX11_fail_8 : decode cX11_fail 8 = .ok (.aload_n 0, 1) := zrD zrw_cX11_fail_0 (i := 8) (by decide +kernel) rfl
theorem dX11_fail_9 : decode cX11_fail 9 = .ok (.iload_n 1, 1) := zrD zrw_cX11_fail_0 (i := 9) (by decide +kernel) rfl
theorem dX11_fail_10 : decode cX11_fail 10 = .ok (.putfield 206, 3) := zrD zrw_cX11_fail_0 (i := 10) (by decide +kernel) rfl
theorem dX11_fail_13 : decode cX11_fail 13 = .ok (.aload_n 0, 1) := zrD zrw_cX11_fail_0 (i := 13) (by decide +kernel) rfl
theorem dX11_fail_14 : decode cX11_fail 14 = .ok (.aload_n 0, 1) := zrD zrw_cX11_fail_0 (i := 14) (by decide +kernel) rfl
theorem dX11_fail_15 : decode cX11_fail 15 = .ok (.getfield 24, 3) := zrD zrw_cX11_fail_0 (i := 15) (by decide +kernel) rfl
theorem dX11_fail_18 : decode cX11_fail 18 = .ok (.aload_n 0, 1) := zrD zrw_cX11_fail_0 (i := 18) (by decide +kernel) rfl
theorem dX11_fail_19 : decode cX11_fail 19 = .ok (.getfield 209, 3) := zrD zrw_cX11_fail_0 (i := 19) (by decide +kernel) rfl
theorem dX11_fail_22 : decode cX11_fail 22 = .ok (.iaload, 1) := zrD zrw_cX11_fail_0 (i := 22) (by decide +kernel) rfl
theorem dX11_fail_23 : decode cX11_fail 23 = .ok (.putfield 212, 3) := zrD zrw_cX11_fail_0 (i := 23) (by decide +kernel) rfl
theorem dX11_fail_26 : decode cX11_fail 26 = .ok (.return_, 1) := zrD zrw_cX11_fail_0 (i := 26) (by decide +kernel) rfl
def zrk_cX11_wrong_0 : ByteArray := .mk #[42, 180, 0, 24, 28, 46, 62, 42, 180, 0, 206, 157, 0, 34, 42, 180, 0, 215, 153, 0, 28, 29, 42, 180, 0, 218, 163, 0, 19, 29, 42]
theorem zrw_cX11_wrong_0 : zrW 0 cX11_wrong zrk_cX11_wrong_0 := by unfold zrW; decide +kernel
theorem dX11_wrong_0 : decode cX11_wrong 0 = .ok (.aload_n 0, 1) := zrD zrw_cX11_wrong_0 (i := 0) (by decide +kernel) rfl
theorem dX11_wrong_1 : decode cX11_wrong 1 = .ok (.getfield 24, 3) := zrD zrw_cX11_wrong_0 (i := 1) (by decide +kernel) rfl
theorem dX11_wrong_4 : decode cX11_wrong 4 = .ok (.iload_n 2, 1) := zrD zrw_cX11_wrong_0 (i := 4) (by decide +kernel) rfl
theorem dX11_wrong_5 : decode cX11_wrong 5 = .ok (.iaload, 1) := zrD zrw_cX11_wrong_0 (i := 5) (by decide +kernel) rfl
theorem dX11_wrong_6 : decode cX11_wrong 6 = .ok (.istore_n 3, 1) := zrD zrw_cX11_wrong_0 (i := 6) (by decide +kernel) rfl
theorem dX11_wrong_7 : decode cX11_wrong 7 = .ok (.aload_n 0, 1) := zrD zrw_cX11_wrong_0 (i := 7) (by decide +kernel) rfl
theorem dX11_wrong_8 : decode cX11_wrong 8 = .ok (.getfield 206, 3) := zrD zrw_cX11_wrong_0 (i := 8) (by decide +kernel) rfl
theorem dX11_wrong_11 : decode cX11_wrong 11 = .ok (.ifCond .gt 34, 3) := zrD zrw_cX11_wrong_0 (i := 11) (by decide +kernel) rfl
theorem dX11_wrong_14 : decode cX11_wrong 14 = .ok (.aload_n 0, 1) := zrD zrw_cX11_wrong_0 (i := 14) (by decide +kernel) rfl
theorem dX11_wrong_15 : decode cX11_wrong 15 = .ok (.getfield 215, 3) := zrD zrw_cX11_wrong_0 (i := 15) (by decide +kernel) rfl
theorem dX11_wrong_18 : decode cX11_wrong 18 = .ok (.ifCond .eq 28, 3) := zrD zrw_cX11_wrong_0 (i := 18) (by decide +kernel) rfl
theorem dX11_wrong_21 : decode cX11_wrong 21 = .ok (.iload_n 3, 1) := zrD zrw_cX11_wrong_0 (i := 21) (by decide +kernel) rfl
theorem dX11_wrong_22 : decode cX11_wrong 22 = .ok (.aload_n 0, 1) := zrD zrw_cX11_wrong_0 (i := 22) (by decide +kernel) rfl
theorem dX11_wrong_23 : decode cX11_wrong 23 = .ok (.getfield 218, 3) := zrD zrw_cX11_wrong_0 (i := 23) (by decide +kernel) rfl
theorem dX11_wrong_26 : decode cX11_wrong 26 = .ok (.if_icmp .gt 19, 3) := zrD zrw_cX11_wrong_0 (i := 26) (by decide +kernel) rfl
theorem dX11_wrong_29 : decode cX11_wrong 29 = .ok (.iload_n 3, 1) := zrD zrw_cX11_wrong_0 (i := 29) (by decide +kernel) rfl
theorem dX11_wrong_30 : decode cX11_wrong 30 = .ok (.aload_n 0, 1) := zrD zrw_cX11_wrong_0 (i := 30) (by decide +kernel) rfl
def zrk_cX11_wrong_31 : ByteArray := .mk #[180, 0, 218, 160, 0, 12, 27, 42, 180, 0, 215, 161, 0, 4, 177, 42, 27, 181, 0, 215, 42, 29, 181, 0, 218, 177]
theorem zrw_cX11_wrong_31 : zrW 31 cX11_wrong zrk_cX11_wrong_31 := by unfold zrW; decide +kernel
theorem dX11_wrong_31 : decode cX11_wrong 31 = .ok (.getfield 218, 3) := zrD zrw_cX11_wrong_31 (i := 0) (by decide +kernel) rfl
theorem dX11_wrong_34 : decode cX11_wrong 34 = .ok (.if_icmp .ne 12, 3) := zrD zrw_cX11_wrong_31 (i := 3) (by decide +kernel) rfl
theorem dX11_wrong_37 : decode cX11_wrong 37 = .ok (.iload_n 1, 1) := zrD zrw_cX11_wrong_31 (i := 6) (by decide +kernel) rfl
theorem dX11_wrong_38 : decode cX11_wrong 38 = .ok (.aload_n 0, 1) := zrD zrw_cX11_wrong_31 (i := 7) (by decide +kernel) rfl
theorem dX11_wrong_39 : decode cX11_wrong 39 = .ok (.getfield 215, 3) := zrD zrw_cX11_wrong_31 (i := 8) (by decide +kernel) rfl
theorem dX11_wrong_42 : decode cX11_wrong 42 = .ok (.if_icmp .lt 4, 3) := zrD zrw_cX11_wrong_31 (i := 11) (by decide +kernel) rfl
theorem dX11_wrong_45 : decode cX11_wrong 45 = .ok (.return_, 1) := zrD zrw_cX11_wrong_31 (i := 14) (by decide +kernel) rfl
theorem dX11_wrong_46 : decode cX11_wrong 46 = .ok (.aload_n 0, 1) := zrD zrw_cX11_wrong_31 (i := 15) (by decide +kernel) rfl
theorem dX11_wrong_47 : decode cX11_wrong 47 = .ok (.iload_n 1, 1) := zrD zrw_cX11_wrong_31 (i := 16) (by decide +kernel) rfl
theorem dX11_wrong_48 : decode cX11_wrong 48 = .ok (.putfield 215, 3) := zrD zrw_cX11_wrong_31 (i := 17) (by decide +kernel) rfl
theorem dX11_wrong_51 : decode cX11_wrong 51 = .ok (.aload_n 0, 1) := zrD zrw_cX11_wrong_31 (i := 20) (by decide +kernel) rfl
theorem dX11_wrong_52 : decode cX11_wrong 52 = .ok (.iload_n 3, 1) := zrD zrw_cX11_wrong_31 (i := 21) (by decide +kernel) rfl
theorem dX11_wrong_53 : decode cX11_wrong 53 = .ok (.putfield 218, 3) := zrD zrw_cX11_wrong_31 (i := 22) (by decide +kernel) rfl
theorem dX11_wrong_56 : decode cX11_wrong 56 = .ok (.return_, 1) := zrD zrw_cX11_wrong_31 (i := 25) (by decide +kernel) rfl
def zrk_cX11_goesOn_0 : ByteArray := .mk #[42, 180, 0, 209, 17, 1, 144, 160, 0, 11, 42, 5, 182, 0, 221, 167, 0, 13, 42, 89, 180, 0, 209, 4, 96, 181, 0, 209, 177]
theorem zrw_cX11_goesOn_0 : zrW 0 cX11_goesOn zrk_cX11_goesOn_0 := by unfold zrW; decide +kernel
theorem dX11_goesOn_0 : decode cX11_goesOn 0 = .ok (.aload_n 0, 1) := zrD zrw_cX11_goesOn_0 (i := 0) (by decide +kernel) rfl
theorem dX11_goesOn_1 : decode cX11_goesOn 1 = .ok (.getfield 209, 3) := zrD zrw_cX11_goesOn_0 (i := 1) (by decide +kernel) rfl
theorem dX11_goesOn_4 : decode cX11_goesOn 4 = .ok (.sipush 400, 3) := zrD zrw_cX11_goesOn_0 (i := 4) (by decide +kernel) rfl
theorem dX11_goesOn_7 : decode cX11_goesOn 7 = .ok (.if_icmp .ne 11, 3) := zrD zrw_cX11_goesOn_0 (i := 7) (by decide +kernel) rfl
theorem dX11_goesOn_10 : decode cX11_goesOn 10 = .ok (.aload_n 0, 1) := zrD zrw_cX11_goesOn_0 (i := 10) (by decide +kernel) rfl
theorem dX11_goesOn_11 : decode cX11_goesOn 11 = .ok (.iconst 2, 1) := zrD zrw_cX11_goesOn_0 (i := 11) (by decide +kernel) rfl
theorem dX11_goesOn_12 : decode cX11_goesOn 12 = .ok (.invokevirtual 221, 3) := zrD zrw_cX11_goesOn_0 (i := 12) (by decide +kernel) rfl
theorem dX11_goesOn_15 : decode cX11_goesOn 15 = .ok (.goto 13, 3) := zrD zrw_cX11_goesOn_0 (i := 15) (by decide +kernel) rfl
theorem dX11_goesOn_18 : decode cX11_goesOn 18 = .ok (.aload_n 0, 1) := zrD zrw_cX11_goesOn_0 (i := 18) (by decide +kernel) rfl
theorem dX11_goesOn_19 : decode cX11_goesOn 19 = .ok (.dup, 1) := zrD zrw_cX11_goesOn_0 (i := 19) (by decide +kernel) rfl
theorem dX11_goesOn_20 : decode cX11_goesOn 20 = .ok (.getfield 209, 3) := zrD zrw_cX11_goesOn_0 (i := 20) (by decide +kernel) rfl
theorem dX11_goesOn_23 : decode cX11_goesOn 23 = .ok (.iconst 1, 1) := zrD zrw_cX11_goesOn_0 (i := 23) (by decide +kernel) rfl
theorem dX11_goesOn_24 : decode cX11_goesOn 24 = .ok (.iadd, 1) := zrD zrw_cX11_goesOn_0 (i := 24) (by decide +kernel) rfl
theorem dX11_goesOn_25 : decode cX11_goesOn 25 = .ok (.putfield 209, 3) := zrD zrw_cX11_goesOn_0 (i := 25) (by decide +kernel) rfl
theorem dX11_goesOn_28 : decode cX11_goesOn 28 = .ok (.return_, 1) := zrD zrw_cX11_goesOn_0 (i := 28) (by decide +kernel) rfl
def zrk_cX11_must_0 : ByteArray := .mk #[42, 27, 182, 0, 224, 153, 0, 10, 42, 182, 0, 227, 167, 0, 8, 42, 4, 182, 0, 221, 177]
theorem zrw_cX11_must_0 : zrW 0 cX11_must zrk_cX11_must_0 := by unfold zrW; decide +kernel
theorem dX11_must_0 : decode cX11_must 0 = .ok (.aload_n 0, 1) := zrD zrw_cX11_must_0 (i := 0) (by decide +kernel) rfl
theorem dX11_must_1 : decode cX11_must 1 = .ok (.iload_n 1, 1) := zrD zrw_cX11_must_0 (i := 1) (by decide +kernel) rfl
theorem dX11_must_2 : decode cX11_must 2 = .ok (.invokevirtual 224, 3) := zrD zrw_cX11_must_0 (i := 2) (by decide +kernel) rfl
theorem dX11_must_5 : decode cX11_must 5 = .ok (.ifCond .eq 10, 3) := zrD zrw_cX11_must_0 (i := 5) (by decide +kernel) rfl
theorem dX11_must_8 : decode cX11_must 8 = .ok (.aload_n 0, 1) := zrD zrw_cX11_must_0 (i := 8) (by decide +kernel) rfl
theorem dX11_must_9 : decode cX11_must 9 = .ok (.invokevirtual 227, 3) := zrD zrw_cX11_must_0 (i := 9) (by decide +kernel) rfl
theorem dX11_must_12 : decode cX11_must 12 = .ok (.goto 8, 3) := zrD zrw_cX11_must_0 (i := 12) (by decide +kernel) rfl
theorem dX11_must_15 : decode cX11_must 15 = .ok (.aload_n 0, 1) := zrD zrw_cX11_must_0 (i := 15) (by decide +kernel) rfl
theorem dX11_must_16 : decode cX11_must 16 = .ok (.iconst 1, 1) := zrD zrw_cX11_must_0 (i := 16) (by decide +kernel) rfl
theorem dX11_must_17 : decode cX11_must 17 = .ok (.invokevirtual 221, 3) := zrD zrw_cX11_must_0 (i := 17) (by decide +kernel) rfl
theorem dX11_must_20 : decode cX11_must 20 = .ok (.return_, 1) := zrD zrw_cX11_must_0 (i := 20) (by decide +kernel) rfl
def zrk_cX11_plain_0 : ByteArray := .mk #[42, 180, 0, 43, 27, 3, 79, 42, 180, 0, 58, 27, 3, 79, 42, 180, 0, 61, 27, 3, 79, 42, 180, 0, 64, 27, 4, 79, 42, 180, 0, 67]
theorem zrw_cX11_plain_0 : zrW 0 cX11_plain zrk_cX11_plain_0 := by unfold zrW; decide +kernel
theorem dX11_plain_0 : decode cX11_plain 0 = .ok (.aload_n 0, 1) := zrD zrw_cX11_plain_0 (i := 0) (by decide +kernel) rfl
theorem dX11_plain_1 : decode cX11_plain 1 = .ok (.getfield 43, 3) := zrD zrw_cX11_plain_0 (i := 1) (by decide +kernel) rfl
theorem dX11_plain_4 : decode cX11_plain 4 = .ok (.iload_n 1, 1) := zrD zrw_cX11_plain_0 (i := 4) (by decide +kernel) rfl
theorem dX11_plain_5 : decode cX11_plain 5 = .ok (.iconst 0, 1) := zrD zrw_cX11_plain_0 (i := 5) (by decide +kernel) rfl
theorem dX11_plain_6 : decode cX11_plain 6 = .ok (.iastore, 1) := zrD zrw_cX11_plain_0 (i := 6) (by decide +kernel) rfl
theorem dX11_plain_7 : decode cX11_plain 7 = .ok (.aload_n 0, 1) := zrD zrw_cX11_plain_0 (i := 7) (by decide +kernel) rfl
theorem dX11_plain_8 : decode cX11_plain 8 = .ok (.getfield 58, 3) := zrD zrw_cX11_plain_0 (i := 8) (by decide +kernel) rfl
theorem dX11_plain_11 : decode cX11_plain 11 = .ok (.iload_n 1, 1) := zrD zrw_cX11_plain_0 (i := 11) (by decide +kernel) rfl
theorem dX11_plain_12 : decode cX11_plain 12 = .ok (.iconst 0, 1) := zrD zrw_cX11_plain_0 (i := 12) (by decide +kernel) rfl
theorem dX11_plain_13 : decode cX11_plain 13 = .ok (.iastore, 1) := zrD zrw_cX11_plain_0 (i := 13) (by decide +kernel) rfl
theorem dX11_plain_14 : decode cX11_plain 14 = .ok (.aload_n 0, 1) := zrD zrw_cX11_plain_0 (i := 14) (by decide +kernel) rfl
theorem dX11_plain_15 : decode cX11_plain 15 = .ok (.getfield 61, 3) := zrD zrw_cX11_plain_0 (i := 15) (by decide +kernel) rfl
theorem dX11_plain_18 : decode cX11_plain 18 = .ok (.iload_n 1, 1) := zrD zrw_cX11_plain_0 (i := 18) (by decide +kernel) rfl
theorem dX11_plain_19 : decode cX11_plain 19 = .ok (.iconst 0, 1) := zrD zrw_cX11_plain_0 (i := 19) (by decide +kernel) rfl
theorem dX11_plain_20 : decode cX11_plain 20 = .ok (.iastore, 1) := zrD zrw_cX11_plain_0 (i := 20) (by decide +kernel) rfl
theorem dX11_plain_21 : decode cX11_plain 21 = .ok (.aload_n 0, 1) := zrD zrw_cX11_plain_0 (i := 21) (by decide +kernel) rfl
theorem dX11_plain_22 : decode cX11_plain 22 = .ok (.getfield 64, 3) := zrD zrw_cX11_plain_0 (i := 22) (by decide +kernel) rfl
theorem dX11_plain_25 : decode cX11_plain 25 = .ok (.iload_n 1, 1) := zrD zrw_cX11_plain_0 (i := 25) (by decide +kernel) rfl
theorem dX11_plain_26 : decode cX11_plain 26 = .ok (.iconst 1, 1) := zrD zrw_cX11_plain_0 (i := 26) (by decide +kernel) rfl
theorem dX11_plain_27 : decode cX11_plain 27 = .ok (.iastore, 1) := zrD zrw_cX11_plain_0 (i := 27) (by decide +kernel) rfl
theorem dX11_plain_28 : decode cX11_plain 28 = .ok (.aload_n 0, 1) := zrD zrw_cX11_plain_0 (i := 28) (by decide +kernel) rfl
theorem dX11_plain_29 : decode cX11_plain 29 = .ok (.getfield 67, 3) := zrD zrw_cX11_plain_0 (i := 29) (by decide +kernel) rfl
def zrk_cX11_plain_32 : ByteArray := .mk #[27, 3, 79, 3, 61, 28, 8, 162, 0, 31, 42, 180, 0, 70, 8, 27, 104, 28, 96, 3, 79, 42, 180, 0, 73, 8, 27, 104, 28, 96, 3, 79]
theorem zrw_cX11_plain_32 : zrW 32 cX11_plain zrk_cX11_plain_32 := by unfold zrW; decide +kernel
theorem dX11_plain_32 : decode cX11_plain 32 = .ok (.iload_n 1, 1) := zrD zrw_cX11_plain_32 (i := 0) (by decide +kernel) rfl
theorem dX11_plain_33 : decode cX11_plain 33 = .ok (.iconst 0, 1) := zrD zrw_cX11_plain_32 (i := 1) (by decide +kernel) rfl
theorem dX11_plain_34 : decode cX11_plain 34 = .ok (.iastore, 1) := zrD zrw_cX11_plain_32 (i := 2) (by decide +kernel) rfl
theorem dX11_plain_35 : decode cX11_plain 35 = .ok (.iconst 0, 1) := zrD zrw_cX11_plain_32 (i := 3) (by decide +kernel) rfl
theorem dX11_plain_36 : decode cX11_plain 36 = .ok (.istore_n 2, 1) := zrD zrw_cX11_plain_32 (i := 4) (by decide +kernel) rfl
theorem dX11_plain_37 : decode cX11_plain 37 = .ok (.iload_n 2, 1) := zrD zrw_cX11_plain_32 (i := 5) (by decide +kernel) rfl
theorem dX11_plain_38 : decode cX11_plain 38 = .ok (.iconst 5, 1) := zrD zrw_cX11_plain_32 (i := 6) (by decide +kernel) rfl
theorem dX11_plain_39 : decode cX11_plain 39 = .ok (.if_icmp .ge 31, 3) := zrD zrw_cX11_plain_32 (i := 7) (by decide +kernel) rfl
theorem dX11_plain_42 : decode cX11_plain 42 = .ok (.aload_n 0, 1) := zrD zrw_cX11_plain_32 (i := 10) (by decide +kernel) rfl
theorem dX11_plain_43 : decode cX11_plain 43 = .ok (.getfield 70, 3) := zrD zrw_cX11_plain_32 (i := 11) (by decide +kernel) rfl
theorem dX11_plain_46 : decode cX11_plain 46 = .ok (.iconst 5, 1) := zrD zrw_cX11_plain_32 (i := 14) (by decide +kernel) rfl
theorem dX11_plain_47 : decode cX11_plain 47 = .ok (.iload_n 1, 1) := zrD zrw_cX11_plain_32 (i := 15) (by decide +kernel) rfl
theorem dX11_plain_48 : decode cX11_plain 48 = .ok (.imul, 1) := zrD zrw_cX11_plain_32 (i := 16) (by decide +kernel) rfl
theorem dX11_plain_49 : decode cX11_plain 49 = .ok (.iload_n 2, 1) := zrD zrw_cX11_plain_32 (i := 17) (by decide +kernel) rfl
theorem dX11_plain_50 : decode cX11_plain 50 = .ok (.iadd, 1) := zrD zrw_cX11_plain_32 (i := 18) (by decide +kernel) rfl
theorem dX11_plain_51 : decode cX11_plain 51 = .ok (.iconst 0, 1) := zrD zrw_cX11_plain_32 (i := 19) (by decide +kernel) rfl
theorem dX11_plain_52 : decode cX11_plain 52 = .ok (.iastore, 1) := zrD zrw_cX11_plain_32 (i := 20) (by decide +kernel) rfl
theorem dX11_plain_53 : decode cX11_plain 53 = .ok (.aload_n 0, 1) := zrD zrw_cX11_plain_32 (i := 21) (by decide +kernel) rfl
theorem dX11_plain_54 : decode cX11_plain 54 = .ok (.getfield 73, 3) := zrD zrw_cX11_plain_32 (i := 22) (by decide +kernel) rfl
theorem dX11_plain_57 : decode cX11_plain 57 = .ok (.iconst 5, 1) := zrD zrw_cX11_plain_32 (i := 25) (by decide +kernel) rfl
theorem dX11_plain_58 : decode cX11_plain 58 = .ok (.iload_n 1, 1) := zrD zrw_cX11_plain_32 (i := 26) (by decide +kernel) rfl
theorem dX11_plain_59 : decode cX11_plain 59 = .ok (.imul, 1) := zrD zrw_cX11_plain_32 (i := 27) (by decide +kernel) rfl
theorem dX11_plain_60 : decode cX11_plain 60 = .ok (.iload_n 2, 1) := zrD zrw_cX11_plain_32 (i := 28) (by decide +kernel) rfl
theorem dX11_plain_61 : decode cX11_plain 61 = .ok (.iadd, 1) := zrD zrw_cX11_plain_32 (i := 29) (by decide +kernel) rfl
theorem dX11_plain_62 : decode cX11_plain 62 = .ok (.iconst 0, 1) := zrD zrw_cX11_plain_32 (i := 30) (by decide +kernel) rfl
theorem dX11_plain_63 : decode cX11_plain 63 = .ok (.iastore, 1) := zrD zrw_cX11_plain_32 (i := 31) (by decide +kernel) rfl
def zrk_cX11_plain_64 : ByteArray := .mk #[132, 2, 1, 167, 255, 226, 177]
theorem zrw_cX11_plain_64 : zrW 64 cX11_plain zrk_cX11_plain_64 := by unfold zrW; decide +kernel
theorem dX11_plain_64 : decode cX11_plain 64 = .ok (.iinc 2 1, 3) := zrD zrw_cX11_plain_64 (i := 0) (by decide +kernel) rfl
theorem dX11_plain_67 : decode cX11_plain 67 = .ok (.goto (-30), 3) := zrD zrw_cX11_plain_64 (i := 3) (by decide +kernel) rfl
theorem dX11_plain_70 : decode cX11_plain 70 = .ok (.return_, 1) := zrD zrw_cX11_plain_64 (i := 6) (by decide +kernel) rfl
def zrk_cX11_read_0 : ByteArray := .mk #[42, 42, 180, 0, 169, 181, 0, 175, 3, 60, 27, 42, 180, 0, 175, 162, 0, 21, 42, 180, 0, 17, 27, 42, 180, 0, 13, 27, 51, 84]
theorem zrw_cX11_read_0 : zrW 0 cX11_read zrk_cX11_read_0 := by unfold zrW; decide +kernel
theorem dX11_read_0 : decode cX11_read 0 = .ok (.aload_n 0, 1) := zrD zrw_cX11_read_0 (i := 0) (by decide +kernel) rfl
theorem dX11_read_1 : decode cX11_read 1 = .ok (.aload_n 0, 1) := zrD zrw_cX11_read_0 (i := 1) (by decide +kernel) rfl
theorem dX11_read_2 : decode cX11_read 2 = .ok (.getfield 169, 3) := zrD zrw_cX11_read_0 (i := 2) (by decide +kernel) rfl
theorem dX11_read_5 : decode cX11_read 5 = .ok (.putfield 175, 3) := zrD zrw_cX11_read_0 (i := 5) (by decide +kernel) rfl
theorem dX11_read_8 : decode cX11_read 8 = .ok (.iconst 0, 1) := zrD zrw_cX11_read_0 (i := 8) (by decide +kernel) rfl
theorem dX11_read_9 : decode cX11_read 9 = .ok (.istore_n 1, 1) := zrD zrw_cX11_read_0 (i := 9) (by decide +kernel) rfl
theorem dX11_read_10 : decode cX11_read 10 = .ok (.iload_n 1, 1) := zrD zrw_cX11_read_0 (i := 10) (by decide +kernel) rfl
theorem dX11_read_11 : decode cX11_read 11 = .ok (.aload_n 0, 1) := zrD zrw_cX11_read_0 (i := 11) (by decide +kernel) rfl
theorem dX11_read_12 : decode cX11_read 12 = .ok (.getfield 175, 3) := zrD zrw_cX11_read_0 (i := 12) (by decide +kernel) rfl
theorem dX11_read_15 : decode cX11_read 15 = .ok (.if_icmp .ge 21, 3) := zrD zrw_cX11_read_0 (i := 15) (by decide +kernel) rfl
theorem dX11_read_18 : decode cX11_read 18 = .ok (.aload_n 0, 1) := zrD zrw_cX11_read_0 (i := 18) (by decide +kernel) rfl
theorem dX11_read_19 : decode cX11_read 19 = .ok (.getfield 17, 3) := zrD zrw_cX11_read_0 (i := 19) (by decide +kernel) rfl
theorem dX11_read_22 : decode cX11_read 22 = .ok (.iload_n 1, 1) := zrD zrw_cX11_read_0 (i := 22) (by decide +kernel) rfl
theorem dX11_read_23 : decode cX11_read 23 = .ok (.aload_n 0, 1) := zrD zrw_cX11_read_0 (i := 23) (by decide +kernel) rfl
theorem dX11_read_24 : decode cX11_read 24 = .ok (.getfield 13, 3) := zrD zrw_cX11_read_0 (i := 24) (by decide +kernel) rfl
theorem dX11_read_27 : decode cX11_read 27 = .ok (.iload_n 1, 1) := zrD zrw_cX11_read_0 (i := 27) (by decide +kernel) rfl
theorem dX11_read_28 : decode cX11_read 28 = .ok (.baload, 1) := zrD zrw_cX11_read_0 (i := 28) (by decide +kernel) rfl
theorem dX11_read_29 : decode cX11_read 29 = .ok (.bastore, 1) := zrD zrw_cX11_read_0 (i := 29) (by decide +kernel) rfl
def zrk_cX11_read_30 : ByteArray := .mk #[132, 1, 1, 167, 255, 233, 42, 3, 181, 0, 169, 42, 182, 0, 230, 42, 3, 181, 0, 209, 42, 3, 181, 0, 233, 42, 3, 181, 0, 206, 42, 3]
theorem zrw_cX11_read_30 : zrW 30 cX11_read zrk_cX11_read_30 := by unfold zrW; decide +kernel
theorem dX11_read_30 : decode cX11_read 30 = .ok (.iinc 1 1, 3) := zrD zrw_cX11_read_30 (i := 0) (by decide +kernel) rfl
theorem dX11_read_33 : decode cX11_read 33 = .ok (.goto (-23), 3) := zrD zrw_cX11_read_30 (i := 3) (by decide +kernel) rfl
theorem dX11_read_36 : decode cX11_read 36 = .ok (.aload_n 0, 1) := zrD zrw_cX11_read_30 (i := 6) (by decide +kernel) rfl
theorem dX11_read_37 : decode cX11_read 37 = .ok (.iconst 0, 1) := zrD zrw_cX11_read_30 (i := 7) (by decide +kernel) rfl
theorem dX11_read_38 : decode cX11_read 38 = .ok (.putfield 169, 3) := zrD zrw_cX11_read_30 (i := 8) (by decide +kernel) rfl
theorem dX11_read_41 : decode cX11_read 41 = .ok (.aload_n 0, 1) := zrD zrw_cX11_read_30 (i := 11) (by decide +kernel) rfl
theorem dX11_read_42 : decode cX11_read 42 = .ok (.invokevirtual 230, 3) := zrD zrw_cX11_read_30 (i := 12) (by decide +kernel) rfl
theorem dX11_read_45 : decode cX11_read 45 = .ok (.aload_n 0, 1) := zrD zrw_cX11_read_30 (i := 15) (by decide +kernel) rfl
theorem dX11_read_46 : decode cX11_read 46 = .ok (.iconst 0, 1) := zrD zrw_cX11_read_30 (i := 16) (by decide +kernel) rfl
theorem dX11_read_47 : decode cX11_read 47 = .ok (.putfield 209, 3) := zrD zrw_cX11_read_30 (i := 17) (by decide +kernel) rfl
theorem dX11_read_50 : decode cX11_read 50 = .ok (.aload_n 0, 1) := zrD zrw_cX11_read_30 (i := 20) (by decide +kernel) rfl
theorem dX11_read_51 : decode cX11_read 51 = .ok (.iconst 0, 1) := zrD zrw_cX11_read_30 (i := 21) (by decide +kernel) rfl
theorem dX11_read_52 : decode cX11_read 52 = .ok (.putfield 233, 3) := zrD zrw_cX11_read_30 (i := 22) (by decide +kernel) rfl
theorem dX11_read_55 : decode cX11_read 55 = .ok (.aload_n 0, 1) := zrD zrw_cX11_read_30 (i := 25) (by decide +kernel) rfl
theorem dX11_read_56 : decode cX11_read 56 = .ok (.iconst 0, 1) := zrD zrw_cX11_read_30 (i := 26) (by decide +kernel) rfl
theorem dX11_read_57 : decode cX11_read 57 = .ok (.putfield 206, 3) := zrD zrw_cX11_read_30 (i := 27) (by decide +kernel) rfl
theorem dX11_read_60 : decode cX11_read 60 = .ok (.aload_n 0, 1) := zrD zrw_cX11_read_30 (i := 30) (by decide +kernel) rfl
theorem dX11_read_61 : decode cX11_read 61 = .ok (.iconst 0, 1) := zrD zrw_cX11_read_30 (i := 31) (by decide +kernel) rfl
def zrk_cX11_read_62 : ByteArray := .mk #[181, 0, 215, 42, 4, 42, 180, 0, 236, 100, 181, 0, 239, 42, 42, 180, 0, 239, 182, 0, 155, 42, 17, 0, 130, 42, 180, 0, 239, 104]
theorem zrw_cX11_read_62 : zrW 62 cX11_read zrk_cX11_read_62 := by unfold zrW; decide +kernel
theorem dX11_read_62 : decode cX11_read 62 = .ok (.putfield 215, 3) := zrD zrw_cX11_read_62 (i := 0) (by decide +kernel) rfl
theorem dX11_read_65 : decode cX11_read 65 = .ok (.aload_n 0, 1) := zrD zrw_cX11_read_62 (i := 3) (by decide +kernel) rfl
theorem dX11_read_66 : decode cX11_read 66 = .ok (.iconst 1, 1) := zrD zrw_cX11_read_62 (i := 4) (by decide +kernel) rfl
theorem dX11_read_67 : decode cX11_read 67 = .ok (.aload_n 0, 1) := zrD zrw_cX11_read_62 (i := 5) (by decide +kernel) rfl
theorem dX11_read_68 : decode cX11_read 68 = .ok (.getfield 236, 3) := zrD zrw_cX11_read_62 (i := 6) (by decide +kernel) rfl
theorem dX11_read_71 : decode cX11_read 71 = .ok (.isub, 1) := zrD zrw_cX11_read_62 (i := 9) (by decide +kernel) rfl
theorem dX11_read_72 : decode cX11_read 72 = .ok (.putfield 239, 3) := zrD zrw_cX11_read_62 (i := 10) (by decide +kernel) rfl
theorem dX11_read_75 : decode cX11_read 75 = .ok (.aload_n 0, 1) := zrD zrw_cX11_read_62 (i := 13) (by decide +kernel) rfl
theorem dX11_read_76 : decode cX11_read 76 = .ok (.aload_n 0, 1) := zrD zrw_cX11_read_62 (i := 14) (by decide +kernel) rfl
theorem dX11_read_77 : decode cX11_read 77 = .ok (.getfield 239, 3) := zrD zrw_cX11_read_62 (i := 15) (by decide +kernel) rfl
theorem dX11_read_80 : decode cX11_read 80 = .ok (.invokevirtual 155, 3) := zrD zrw_cX11_read_62 (i := 18) (by decide +kernel) rfl
theorem dX11_read_83 : decode cX11_read 83 = .ok (.aload_n 0, 1) := zrD zrw_cX11_read_62 (i := 21) (by decide +kernel) rfl
theorem dX11_read_84 : decode cX11_read 84 = .ok (.sipush 130, 3) := zrD zrw_cX11_read_62 (i := 22) (by decide +kernel) rfl
theorem dX11_read_87 : decode cX11_read 87 = .ok (.aload_n 0, 1) := zrD zrw_cX11_read_62 (i := 25) (by decide +kernel) rfl
theorem dX11_read_88 : decode cX11_read 88 = .ok (.getfield 239, 3) := zrD zrw_cX11_read_62 (i := 26) (by decide +kernel) rfl
theorem dX11_read_91 : decode cX11_read 91 = .ok (.imul, 1) := zrD zrw_cX11_read_62 (i := 29) (by decide +kernel) rfl
def zrk_cX11_read_92 : ByteArray := .mk #[181, 0, 242, 42, 17, 1, 164, 42, 180, 0, 239, 104, 181, 0, 245, 42, 3, 181, 0, 248, 42, 3, 181, 0, 252, 42, 180, 0, 206, 154, 0, 18]
theorem zrw_cX11_read_92 : zrW 92 cX11_read zrk_cX11_read_92 := by unfold zrW; decide +kernel
theorem dX11_read_92 : decode cX11_read 92 = .ok (.putfield 242, 3) := zrD zrw_cX11_read_92 (i := 0) (by decide +kernel) rfl
theorem dX11_read_95 : decode cX11_read 95 = .ok (.aload_n 0, 1) := zrD zrw_cX11_read_92 (i := 3) (by decide +kernel) rfl
theorem dX11_read_96 : decode cX11_read 96 = .ok (.sipush 420, 3) := zrD zrw_cX11_read_92 (i := 4) (by decide +kernel) rfl
theorem dX11_read_99 : decode cX11_read 99 = .ok (.aload_n 0, 1) := zrD zrw_cX11_read_92 (i := 7) (by decide +kernel) rfl
theorem dX11_read_100 : decode cX11_read 100 = .ok (.getfield 239, 3) := zrD zrw_cX11_read_92 (i := 8) (by decide +kernel) rfl
theorem dX11_read_103 : decode cX11_read 103 = .ok (.imul, 1) := zrD zrw_cX11_read_92 (i := 11) (by decide +kernel) rfl
theorem dX11_read_104 : decode cX11_read 104 = .ok (.putfield 245, 3) := zrD zrw_cX11_read_92 (i := 12) (by decide +kernel) rfl
theorem dX11_read_107 : decode cX11_read 107 = .ok (.aload_n 0, 1) := zrD zrw_cX11_read_92 (i := 15) (by decide +kernel) rfl
theorem dX11_read_108 : decode cX11_read 108 = .ok (.iconst 0, 1) := zrD zrw_cX11_read_92 (i := 16) (by decide +kernel) rfl
theorem dX11_read_109 : decode cX11_read 109 = .ok (.putfield 248, 3) := zrD zrw_cX11_read_92 (i := 17) (by decide +kernel) rfl
theorem dX11_read_112 : decode cX11_read 112 = .ok (.aload_n 0, 1) := zrD zrw_cX11_read_92 (i := 20) (by decide +kernel) rfl
theorem dX11_read_113 : decode cX11_read 113 = .ok (.iconst 0, 1) := zrD zrw_cX11_read_92 (i := 21) (by decide +kernel) rfl
theorem dX11_read_114 : decode cX11_read 114 = .ok (.putfield 252, 3) := zrD zrw_cX11_read_92 (i := 22) (by decide +kernel) rfl
theorem dX11_read_117 : decode cX11_read 117 = .ok (.aload_n 0, 1) := zrD zrw_cX11_read_92 (i := 25) (by decide +kernel) rfl
theorem dX11_read_118 : decode cX11_read 118 = .ok (.getfield 206, 3) := zrD zrw_cX11_read_92 (i := 26) (by decide +kernel) rfl
theorem dX11_read_121 : decode cX11_read 121 = .ok (.ifCond .ne 18, 3) := zrD zrw_cX11_read_92 (i := 29) (by decide +kernel) rfl
def zrk_cX11_read_124 : ByteArray := .mk #[42, 3, 182, 0, 224, 154, 0, 10, 42, 182, 0, 255, 167, 255, 237, 42, 42, 180, 0, 206, 158, 0, 10, 42, 180, 0, 212, 167, 0, 18, 42]
theorem zrw_cX11_read_124 : zrW 124 cX11_read zrk_cX11_read_124 := by unfold zrW; decide +kernel
theorem dX11_read_124 : decode cX11_read 124 = .ok (.aload_n 0, 1) := zrD zrw_cX11_read_124 (i := 0) (by decide +kernel) rfl
theorem dX11_read_125 : decode cX11_read 125 = .ok (.iconst 0, 1) := zrD zrw_cX11_read_124 (i := 1) (by decide +kernel) rfl
theorem dX11_read_126 : decode cX11_read 126 = .ok (.invokevirtual 224, 3) := zrD zrw_cX11_read_124 (i := 2) (by decide +kernel) rfl
theorem dX11_read_129 : decode cX11_read 129 = .ok (.ifCond .ne 10, 3) := zrD zrw_cX11_read_124 (i := 5) (by decide +kernel) rfl
theorem dX11_read_132 : decode cX11_read 132 = .ok (.aload_n 0, 1) := zrD zrw_cX11_read_124 (i := 8) (by decide +kernel) rfl
theorem dX11_read_133 : decode cX11_read 133 = .ok (.invokevirtual 255, 3) := zrD zrw_cX11_read_124 (i := 9) (by decide +kernel) rfl
theorem dX11_read_136 : decode cX11_read 136 = .ok (.goto (-19), 3) := zrD zrw_cX11_read_124 (i := 12) (by decide +kernel) rfl
theorem dX11_read_139 : decode cX11_read 139 = .ok (.aload_n 0, 1) := zrD zrw_cX11_read_124 (i := 15) (by decide +kernel) rfl
theorem dX11_read_140 : decode cX11_read 140 = .ok (.aload_n 0, 1) := zrD zrw_cX11_read_124 (i := 16) (by decide +kernel) rfl
theorem dX11_read_141 : decode cX11_read 141 = .ok (.getfield 206, 3) := zrD zrw_cX11_read_124 (i := 17) (by decide +kernel) rfl
theorem dX11_read_144 : decode cX11_read 144 = .ok (.ifCond .le 10, 3) := zrD zrw_cX11_read_124 (i := 20) (by decide +kernel) rfl
theorem dX11_read_147 : decode cX11_read 147 = .ok (.aload_n 0, 1) := zrD zrw_cX11_read_124 (i := 23) (by decide +kernel) rfl
theorem dX11_read_148 : decode cX11_read 148 = .ok (.getfield 212, 3) := zrD zrw_cX11_read_124 (i := 24) (by decide +kernel) rfl
theorem dX11_read_151 : decode cX11_read 151 = .ok (.goto 18, 3) := zrD zrw_cX11_read_124 (i := 27) (by decide +kernel) rfl
theorem dX11_read_154 : decode cX11_read 154 = .ok (.aload_n 0, 1) := zrD zrw_cX11_read_124 (i := 30) (by decide +kernel) rfl
def zrk_cX11_read_155 : ByteArray := .mk #[180, 0, 215, 158, 0, 10, 42, 180, 0, 218, 167, 0, 4, 2, 181, 0, 37, 42, 180, 0, 206, 158, 0, 8, 42, 180, 0, 206, 172, 42]
theorem zrw_cX11_read_155 : zrW 155 cX11_read zrk_cX11_read_155 := by unfold zrW; decide +kernel
theorem dX11_read_155 : decode cX11_read 155 = .ok (.getfield 215, 3) := zrD zrw_cX11_read_155 (i := 0) (by decide +kernel) rfl
theorem dX11_read_158 : decode cX11_read 158 = .ok (.ifCond .le 10, 3) := zrD zrw_cX11_read_155 (i := 3) (by decide +kernel) rfl
theorem dX11_read_161 : decode cX11_read 161 = .ok (.aload_n 0, 1) := zrD zrw_cX11_read_155 (i := 6) (by decide +kernel) rfl
theorem dX11_read_162 : decode cX11_read 162 = .ok (.getfield 218, 3) := zrD zrw_cX11_read_155 (i := 7) (by decide +kernel) rfl
theorem dX11_read_165 : decode cX11_read 165 = .ok (.goto 4, 3) := zrD zrw_cX11_read_155 (i := 10) (by decide +kernel) rfl
theorem dX11_read_168 : decode cX11_read 168 = .ok (.iconst (-1), 1) := zrD zrw_cX11_read_155 (i := 13) (by decide +kernel) rfl
theorem dX11_read_169 : decode cX11_read 169 = .ok (.putfield 37, 3) := zrD zrw_cX11_read_155 (i := 14) (by decide +kernel) rfl
theorem dX11_read_172 : decode cX11_read 172 = .ok (.aload_n 0, 1) := zrD zrw_cX11_read_155 (i := 17) (by decide +kernel) rfl
theorem dX11_read_173 : decode cX11_read 173 = .ok (.getfield 206, 3) := zrD zrw_cX11_read_155 (i := 18) (by decide +kernel) rfl
theorem dX11_read_176 : decode cX11_read 176 = .ok (.ifCond .le 8, 3) := zrD zrw_cX11_read_155 (i := 21) (by decide +kernel) rfl
theorem dX11_read_179 : decode cX11_read 179 = .ok (.aload_n 0, 1) := zrD zrw_cX11_read_155 (i := 24) (by decide +kernel) rfl
theorem dX11_read_180 : decode cX11_read 180 = .ok (.getfield 206, 3) := zrD zrw_cX11_read_155 (i := 25) (by decide +kernel) rfl
theorem dX11_read_183 : decode cX11_read 183 = .ok (.ireturn, 1) := zrD zrw_cX11_read_155 (i := 28) (by decide +kernel) rfl
theorem dX11_read_184 : decode cX11_read 184 = .ok (.aload_n 0, 1) := zrD zrw_cX11_read_155 (i := 29) (by decide +kernel) rfl
def zrk_cX11_read_185 : ByteArray := .mk #[180, 0, 215, 158, 0, 8, 42, 180, 0, 215, 172, 42, 42, 180, 0, 239, 181, 0, 236, 42, 182, 0, 163, 42, 182, 0, 166, 42, 3, 181, 1, 2]
theorem zrw_cX11_read_185 : zrW 185 cX11_read zrk_cX11_read_185 := by unfold zrW; decide +kernel
theorem dX11_read_185 : decode cX11_read 185 = .ok (.getfield 215, 3) := zrD zrw_cX11_read_185 (i := 0) (by decide +kernel) rfl
theorem dX11_read_188 : decode cX11_read 188 = .ok (.ifCond .le 8, 3) := zrD zrw_cX11_read_185 (i := 3) (by decide +kernel) rfl
theorem dX11_read_191 : decode cX11_read 191 = .ok (.aload_n 0, 1) := zrD zrw_cX11_read_185 (i := 6) (by decide +kernel) rfl
theorem dX11_read_192 : decode cX11_read 192 = .ok (.getfield 215, 3) := zrD zrw_cX11_read_185 (i := 7) (by decide +kernel) rfl
theorem dX11_read_195 : decode cX11_read 195 = .ok (.ireturn, 1) := zrD zrw_cX11_read_185 (i := 10) (by decide +kernel) rfl
theorem dX11_read_196 : decode cX11_read 196 = .ok (.aload_n 0, 1) := zrD zrw_cX11_read_185 (i := 11) (by decide +kernel) rfl
theorem dX11_read_197 : decode cX11_read 197 = .ok (.aload_n 0, 1) := zrD zrw_cX11_read_185 (i := 12) (by decide +kernel) rfl
theorem dX11_read_198 : decode cX11_read 198 = .ok (.getfield 239, 3) := zrD zrw_cX11_read_185 (i := 13) (by decide +kernel) rfl
theorem dX11_read_201 : decode cX11_read 201 = .ok (.putfield 236, 3) := zrD zrw_cX11_read_185 (i := 16) (by decide +kernel) rfl
theorem dX11_read_204 : decode cX11_read 204 = .ok (.aload_n 0, 1) := zrD zrw_cX11_read_185 (i := 19) (by decide +kernel) rfl
theorem dX11_read_205 : decode cX11_read 205 = .ok (.invokevirtual 163, 3) := zrD zrw_cX11_read_185 (i := 20) (by decide +kernel) rfl
theorem dX11_read_208 : decode cX11_read 208 = .ok (.aload_n 0, 1) := zrD zrw_cX11_read_185 (i := 23) (by decide +kernel) rfl
theorem dX11_read_209 : decode cX11_read 209 = .ok (.invokevirtual 166, 3) := zrD zrw_cX11_read_185 (i := 24) (by decide +kernel) rfl
theorem dX11_read_212 : decode cX11_read 212 = .ok (.aload_n 0, 1) := zrD zrw_cX11_read_185 (i := 27) (by decide +kernel) rfl
theorem dX11_read_213 : decode cX11_read 213 = .ok (.iconst 0, 1) := zrD zrw_cX11_read_185 (i := 28) (by decide +kernel) rfl
theorem dX11_read_214 : decode cX11_read 214 = .ok (.putfield 258, 3) := zrD zrw_cX11_read_185 (i := 29) (by decide +kernel) rfl
def zrk_cX11_read_217 : ByteArray := .mk #[42, 3, 181, 1, 5, 3, 60, 27, 6, 162, 0, 16, 42, 180, 0, 149, 27, 3, 84, 132, 1, 1, 167, 255, 241, 3, 172]
theorem zrw_cX11_read_217 : zrW 217 cX11_read zrk_cX11_read_217 := by unfold zrW; decide +kernel
theorem dX11_read_217 : decode cX11_read 217 = .ok (.aload_n 0, 1) := zrD zrw_cX11_read_217 (i := 0) (by decide +kernel) rfl
theorem dX11_read_218 : decode cX11_read 218 = .ok (.iconst 0, 1) := zrD zrw_cX11_read_217 (i := 1) (by decide +kernel) rfl
theorem dX11_read_219 : decode cX11_read 219 = .ok (.putfield 261, 3) := zrD zrw_cX11_read_217 (i := 2) (by decide +kernel) rfl
theorem dX11_read_222 : decode cX11_read 222 = .ok (.iconst 0, 1) := zrD zrw_cX11_read_217 (i := 5) (by decide +kernel) rfl
theorem dX11_read_223 : decode cX11_read 223 = .ok (.istore_n 1, 1) := zrD zrw_cX11_read_217 (i := 6) (by decide +kernel) rfl
theorem dX11_read_224 : decode cX11_read 224 = .ok (.iload_n 1, 1) := zrD zrw_cX11_read_217 (i := 7) (by decide +kernel) rfl
theorem dX11_read_225 : decode cX11_read 225 = .ok (.iconst 3, 1) := zrD zrw_cX11_read_217 (i := 8) (by decide +kernel) rfl
theorem dX11_read_226 : decode cX11_read 226 = .ok (.if_icmp .ge 16, 3) := zrD zrw_cX11_read_217 (i := 9) (by decide +kernel) rfl
theorem dX11_read_229 : decode cX11_read 229 = .ok (.aload_n 0, 1) := zrD zrw_cX11_read_217 (i := 12) (by decide +kernel) rfl
theorem dX11_read_230 : decode cX11_read 230 = .ok (.getfield 149, 3) := zrD zrw_cX11_read_217 (i := 13) (by decide +kernel) rfl
theorem dX11_read_233 : decode cX11_read 233 = .ok (.iload_n 1, 1) := zrD zrw_cX11_read_217 (i := 16) (by decide +kernel) rfl
theorem dX11_read_234 : decode cX11_read 234 = .ok (.iconst 0, 1) := zrD zrw_cX11_read_217 (i := 17) (by decide +kernel) rfl
theorem dX11_read_235 : decode cX11_read 235 = .ok (.bastore, 1) := zrD zrw_cX11_read_217 (i := 18) (by decide +kernel) rfl
theorem dX11_read_236 : decode cX11_read 236 = .ok (.iinc 1 1, 3) := zrD zrw_cX11_read_217 (i := 19) (by decide +kernel) rfl
theorem dX11_read_239 : decode cX11_read 239 = .ok (.goto (-15), 3) := zrD zrw_cX11_read_217 (i := 22) (by decide +kernel) rfl
theorem dX11_read_242 : decode cX11_read 242 = .ok (.iconst 0, 1) := zrD zrw_cX11_read_217 (i := 25) (by decide +kernel) rfl
theorem dX11_read_243 : decode cX11_read 243 = .ok (.ireturn, 1) := zrD zrw_cX11_read_217 (i := 26) (by decide +kernel) rfl
def zrk_cX11_place_0 : ByteArray := .mk #[42, 180, 0, 37, 172]
theorem zrw_cX11_place_0 : zrW 0 cX11_place zrk_cX11_place_0 := by unfold zrW; decide +kernel
theorem dX11_place_0 : decode cX11_place 0 = .ok (.aload_n 0, 1) := zrD zrw_cX11_place_0 (i := 0) (by decide +kernel) rfl
theorem dX11_place_1 : decode cX11_place 1 = .ok (.getfield 37, 3) := zrD zrw_cX11_place_0 (i := 1) (by decide +kernel) rfl
theorem dX11_place_4 : decode cX11_place 4 = .ok (.ireturn, 1) := zrD zrw_cX11_place_0 (i := 4) (by decide +kernel) rfl
def zrk_cX11_tellOne_0 : ByteArray := .mk #[42, 180, 0, 20, 42, 180, 0, 209, 46]
theorem zrw_cX11_tellOne_0 : zrW 0 cX11_tellOne zrk_cX11_tellOne_0 := by unfold zrW; decide +kernel
theorem dX11_tellOne_0 : decode cX11_tellOne 0 = .ok (.aload_n 0, 1) := zrD zrw_cX11_tellOne_0 (i := 0) (by decide +kernel) rfl
theorem dX11_tellOne_1 : decode cX11_tellOne 1 = .ok (.getfield 20, 3) := zrD zrw_cX11_tellOne_0 (i := 1) (by decide +kernel) rfl
theorem dX11_tellOne_4 : decode cX11_tellOne 4 = .ok (.aload_n 0, 1) := zrD zrw_cX11_tellOne_0 (i := 4) (by decide +kernel) rfl
theorem dX11_tellOne_5 : decode cX11_tellOne 5 = .ok (.getfield 209, 3) := zrD zrw_cX11_tellOne_0 (i := 5) (by decide +kernel) rfl
theorem dX11_tellOne_8 : decode cX11_tellOne 8 = .ok (.iaload, 1) := zrD zrw_cX11_tellOne_0 (i := 8) (by decide +kernel) rfl
theorem dX11_tellOne_9 : decode cX11_tellOne 9 = .ok (.tableswitch 220 20 29 #[55, 86, 220, 220, 220, 220, 220, 119, 163, 191], 55) := by decide +kernel
def zrk_cX11_tellOne_64 : ByteArray := .mk #[42, 180, 0, 248, 153, 0, 8, 42, 5, 182, 0, 221, 42, 180, 0, 206, 158, 0, 4, 177, 42, 182, 0, 227, 42, 182, 1, 8, 167, 0, 190, 42]
theorem zrw_cX11_tellOne_64 : zrW 64 cX11_tellOne zrk_cX11_tellOne_64 := by unfold zrW; decide +kernel
theorem dX11_tellOne_64 : decode cX11_tellOne 64 = .ok (.aload_n 0, 1) := zrD zrw_cX11_tellOne_64 (i := 0) (by decide +kernel) rfl
theorem dX11_tellOne_65 : decode cX11_tellOne 65 = .ok (.getfield 248, 3) := zrD zrw_cX11_tellOne_64 (i := 1) (by decide +kernel) rfl
theorem dX11_tellOne_68 : decode cX11_tellOne 68 = .ok (.ifCond .eq 8, 3) := zrD zrw_cX11_tellOne_64 (i := 4) (by decide +kernel) rfl
theorem dX11_tellOne_71 : decode cX11_tellOne 71 = .ok (.aload_n 0, 1) := zrD zrw_cX11_tellOne_64 (i := 7) (by decide +kernel) rfl
theorem dX11_tellOne_72 : decode cX11_tellOne 72 = .ok (.iconst 2, 1) := zrD zrw_cX11_tellOne_64 (i := 8) (by decide +kernel) rfl
theorem dX11_tellOne_73 : decode cX11_tellOne 73 = .ok (.invokevirtual 221, 3) := zrD zrw_cX11_tellOne_64 (i := 9) (by decide +kernel) rfl
theorem dX11_tellOne_76 : decode cX11_tellOne 76 = .ok (.aload_n 0, 1) := zrD zrw_cX11_tellOne_64 (i := 12) (by decide +kernel) rfl
theorem dX11_tellOne_77 : decode cX11_tellOne 77 = .ok (.getfield 206, 3) := zrD zrw_cX11_tellOne_64 (i := 13) (by decide +kernel) rfl
theorem dX11_tellOne_80 : decode cX11_tellOne 80 = .ok (.ifCond .le 4, 3) := zrD zrw_cX11_tellOne_64 (i := 16) (by decide +kernel) rfl
theorem dX11_tellOne_83 : decode cX11_tellOne 83 = .ok (.return_, 1) := zrD zrw_cX11_tellOne_64 (i := 19) (by decide +kernel) rfl
theorem dX11_tellOne_84 : decode cX11_tellOne 84 = .ok (.aload_n 0, 1) := zrD zrw_cX11_tellOne_64 (i := 20) (by decide +kernel) rfl
theorem dX11_tellOne_85 : decode cX11_tellOne 85 = .ok (.invokevirtual 227, 3) := zrD zrw_cX11_tellOne_64 (i := 21) (by decide +kernel) rfl
theorem dX11_tellOne_88 : decode cX11_tellOne 88 = .ok (.aload_n 0, 1) := zrD zrw_cX11_tellOne_64 (i := 24) (by decide +kernel) rfl
theorem dX11_tellOne_89 : decode cX11_tellOne 89 = .ok (.invokevirtual 264, 3) := zrD zrw_cX11_tellOne_64 (i := 25) (by decide +kernel) rfl
theorem dX11_tellOne_92 : decode cX11_tellOne 92 = .ok (.goto 190, 3) := zrD zrw_cX11_tellOne_64 (i := 28) (by decide +kernel) rfl
theorem dX11_tellOne_95 : decode cX11_tellOne 95 = .ok (.aload_n 0, 1) := zrD zrw_cX11_tellOne_64 (i := 31) (by decide +kernel) rfl
def zrk_cX11_tellOne_96 : ByteArray := .mk #[180, 0, 252, 16, 11, 160, 0, 8, 42, 5, 182, 0, 221, 42, 180, 0, 206, 158, 0, 4, 177, 42, 182, 0, 227, 42, 182, 1, 11, 167, 0, 157]
theorem zrw_cX11_tellOne_96 : zrW 96 cX11_tellOne zrk_cX11_tellOne_96 := by unfold zrW; decide +kernel
theorem dX11_tellOne_96 : decode cX11_tellOne 96 = .ok (.getfield 252, 3) := zrD zrw_cX11_tellOne_96 (i := 0) (by decide +kernel) rfl
theorem dX11_tellOne_99 : decode cX11_tellOne 99 = .ok (.bipush 11, 2) := zrD zrw_cX11_tellOne_96 (i := 3) (by decide +kernel) rfl
theorem dX11_tellOne_101 : decode cX11_tellOne 101 = .ok (.if_icmp .ne 8, 3) := zrD zrw_cX11_tellOne_96 (i := 5) (by decide +kernel) rfl
theorem dX11_tellOne_104 : decode cX11_tellOne 104 = .ok (.aload_n 0, 1) := zrD zrw_cX11_tellOne_96 (i := 8) (by decide +kernel) rfl
theorem dX11_tellOne_105 : decode cX11_tellOne 105 = .ok (.iconst 2, 1) := zrD zrw_cX11_tellOne_96 (i := 9) (by decide +kernel) rfl
theorem dX11_tellOne_106 : decode cX11_tellOne 106 = .ok (.invokevirtual 221, 3) := zrD zrw_cX11_tellOne_96 (i := 10) (by decide +kernel) rfl
theorem dX11_tellOne_109 : decode cX11_tellOne 109 = .ok (.aload_n 0, 1) := zrD zrw_cX11_tellOne_96 (i := 13) (by decide +kernel) rfl
theorem dX11_tellOne_110 : decode cX11_tellOne 110 = .ok (.getfield 206, 3) := zrD zrw_cX11_tellOne_96 (i := 14) (by decide +kernel) rfl
theorem dX11_tellOne_113 : decode cX11_tellOne 113 = .ok (.ifCond .le 4, 3) := zrD zrw_cX11_tellOne_96 (i := 17) (by decide +kernel) rfl
theorem dX11_tellOne_116 : decode cX11_tellOne 116 = .ok (.return_, 1) := zrD zrw_cX11_tellOne_96 (i := 20) (by decide +kernel) rfl
theorem dX11_tellOne_117 : decode cX11_tellOne 117 = .ok (.aload_n 0, 1) := zrD zrw_cX11_tellOne_96 (i := 21) (by decide +kernel) rfl
theorem dX11_tellOne_118 : decode cX11_tellOne 118 = .ok (.invokevirtual 227, 3) := zrD zrw_cX11_tellOne_96 (i := 22) (by decide +kernel) rfl
theorem dX11_tellOne_121 : decode cX11_tellOne 121 = .ok (.aload_n 0, 1) := zrD zrw_cX11_tellOne_96 (i := 25) (by decide +kernel) rfl
theorem dX11_tellOne_122 : decode cX11_tellOne 122 = .ok (.invokevirtual 267, 3) := zrD zrw_cX11_tellOne_96 (i := 26) (by decide +kernel) rfl
theorem dX11_tellOne_125 : decode cX11_tellOne 125 = .ok (.goto 157, 3) := zrD zrw_cX11_tellOne_96 (i := 29) (by decide +kernel) rfl
def zrk_cX11_tellOne_128 : ByteArray := .mk #[42, 182, 0, 227, 42, 180, 0, 58, 42, 180, 0, 239, 42, 3, 16, 100, 182, 1, 14, 79, 42, 180, 0, 61, 42, 180, 0, 239, 42, 3, 16, 99]
theorem zrw_cX11_tellOne_128 : zrW 128 cX11_tellOne zrk_cX11_tellOne_128 := by unfold zrW; decide +kernel
theorem dX11_tellOne_128 : decode cX11_tellOne 128 = .ok (.aload_n 0, 1) := zrD zrw_cX11_tellOne_128 (i := 0) (by decide +kernel) rfl
theorem dX11_tellOne_129 : decode cX11_tellOne 129 = .ok (.invokevirtual 227, 3) := zrD zrw_cX11_tellOne_128 (i := 1) (by decide +kernel) rfl
theorem dX11_tellOne_132 : decode cX11_tellOne 132 = .ok (.aload_n 0, 1) := zrD zrw_cX11_tellOne_128 (i := 4) (by decide +kernel) rfl
theorem dX11_tellOne_133 : decode cX11_tellOne 133 = .ok (.getfield 58, 3) := zrD zrw_cX11_tellOne_128 (i := 5) (by decide +kernel) rfl
theorem dX11_tellOne_136 : decode cX11_tellOne 136 = .ok (.aload_n 0, 1) := zrD zrw_cX11_tellOne_128 (i := 8) (by decide +kernel) rfl
theorem dX11_tellOne_137 : decode cX11_tellOne 137 = .ok (.getfield 239, 3) := zrD zrw_cX11_tellOne_128 (i := 9) (by decide +kernel) rfl
theorem dX11_tellOne_140 : decode cX11_tellOne 140 = .ok (.aload_n 0, 1) := zrD zrw_cX11_tellOne_128 (i := 12) (by decide +kernel) rfl
theorem dX11_tellOne_141 : decode cX11_tellOne 141 = .ok (.iconst 0, 1) := zrD zrw_cX11_tellOne_128 (i := 13) (by decide +kernel) rfl
theorem dX11_tellOne_142 : decode cX11_tellOne 142 = .ok (.bipush 100, 2) := zrD zrw_cX11_tellOne_128 (i := 14) (by decide +kernel) rfl
theorem dX11_tellOne_144 : decode cX11_tellOne 144 = .ok (.invokevirtual 270, 3) := zrD zrw_cX11_tellOne_128 (i := 16) (by decide +kernel) rfl
theorem dX11_tellOne_147 : decode cX11_tellOne 147 = .ok (.iastore, 1) := zrD zrw_cX11_tellOne_128 (i := 19) (by decide +kernel) rfl
theorem dX11_tellOne_148 : decode cX11_tellOne 148 = .ok (.aload_n 0, 1) := zrD zrw_cX11_tellOne_128 (i := 20) (by decide +kernel) rfl
theorem dX11_tellOne_149 : decode cX11_tellOne 149 = .ok (.getfield 61, 3) := zrD zrw_cX11_tellOne_128 (i := 21) (by decide +kernel) rfl
theorem dX11_tellOne_152 : decode cX11_tellOne 152 = .ok (.aload_n 0, 1) := zrD zrw_cX11_tellOne_128 (i := 24) (by decide +kernel) rfl
theorem dX11_tellOne_153 : decode cX11_tellOne 153 = .ok (.getfield 239, 3) := zrD zrw_cX11_tellOne_128 (i := 25) (by decide +kernel) rfl
theorem dX11_tellOne_156 : decode cX11_tellOne 156 = .ok (.aload_n 0, 1) := zrD zrw_cX11_tellOne_128 (i := 28) (by decide +kernel) rfl
theorem dX11_tellOne_157 : decode cX11_tellOne 157 = .ok (.iconst 0, 1) := zrD zrw_cX11_tellOne_128 (i := 29) (by decide +kernel) rfl
theorem dX11_tellOne_158 : decode cX11_tellOne 158 = .ok (.bipush 99, 2) := zrD zrw_cX11_tellOne_128 (i := 30) (by decide +kernel) rfl
def zrk_cX11_tellOne_160 : ByteArray := .mk #[182, 1, 14, 79, 42, 7, 182, 1, 18, 167, 0, 113, 42, 182, 0, 227, 42, 180, 0, 64, 42, 180, 0, 239, 42, 3, 16, 99, 182, 1, 14, 79]
theorem zrw_cX11_tellOne_160 : zrW 160 cX11_tellOne zrk_cX11_tellOne_160 := by unfold zrW; decide +kernel
theorem dX11_tellOne_160 : decode cX11_tellOne 160 = .ok (.invokevirtual 270, 3) := zrD zrw_cX11_tellOne_160 (i := 0) (by decide +kernel) rfl
theorem dX11_tellOne_163 : decode cX11_tellOne 163 = .ok (.iastore, 1) := zrD zrw_cX11_tellOne_160 (i := 3) (by decide +kernel) rfl
theorem dX11_tellOne_164 : decode cX11_tellOne 164 = .ok (.aload_n 0, 1) := zrD zrw_cX11_tellOne_160 (i := 4) (by decide +kernel) rfl
theorem dX11_tellOne_165 : decode cX11_tellOne 165 = .ok (.iconst 4, 1) := zrD zrw_cX11_tellOne_160 (i := 5) (by decide +kernel) rfl
theorem dX11_tellOne_166 : decode cX11_tellOne 166 = .ok (.invokevirtual 274, 3) := zrD zrw_cX11_tellOne_160 (i := 6) (by decide +kernel) rfl
theorem dX11_tellOne_169 : decode cX11_tellOne 169 = .ok (.goto 113, 3) := zrD zrw_cX11_tellOne_160 (i := 9) (by decide +kernel) rfl
theorem dX11_tellOne_172 : decode cX11_tellOne 172 = .ok (.aload_n 0, 1) := zrD zrw_cX11_tellOne_160 (i := 12) (by decide +kernel) rfl
theorem dX11_tellOne_173 : decode cX11_tellOne 173 = .ok (.invokevirtual 227, 3) := zrD zrw_cX11_tellOne_160 (i := 13) (by decide +kernel) rfl
theorem dX11_tellOne_176 : decode cX11_tellOne 176 = .ok (.aload_n 0, 1) := zrD zrw_cX11_tellOne_160 (i := 16) (by decide +kernel) rfl
theorem dX11_tellOne_177 : decode cX11_tellOne 177 = .ok (.getfield 64, 3) := zrD zrw_cX11_tellOne_160 (i := 17) (by decide +kernel) rfl
theorem dX11_tellOne_180 : decode cX11_tellOne 180 = .ok (.aload_n 0, 1) := zrD zrw_cX11_tellOne_160 (i := 20) (by decide +kernel) rfl
theorem dX11_tellOne_181 : decode cX11_tellOne 181 = .ok (.getfield 239, 3) := zrD zrw_cX11_tellOne_160 (i := 21) (by decide +kernel) rfl
theorem dX11_tellOne_184 : decode cX11_tellOne 184 = .ok (.aload_n 0, 1) := zrD zrw_cX11_tellOne_160 (i := 24) (by decide +kernel) rfl
theorem dX11_tellOne_185 : decode cX11_tellOne 185 = .ok (.iconst 0, 1) := zrD zrw_cX11_tellOne_160 (i := 25) (by decide +kernel) rfl
theorem dX11_tellOne_186 : decode cX11_tellOne 186 = .ok (.bipush 99, 2) := zrD zrw_cX11_tellOne_160 (i := 26) (by decide +kernel) rfl
theorem dX11_tellOne_188 : decode cX11_tellOne 188 = .ok (.invokevirtual 270, 3) := zrD zrw_cX11_tellOne_160 (i := 28) (by decide +kernel) rfl
theorem dX11_tellOne_191 : decode cX11_tellOne 191 = .ok (.iastore, 1) := zrD zrw_cX11_tellOne_160 (i := 31) (by decide +kernel) rfl
def zrk_cX11_tellOne_192 : ByteArray := .mk #[42, 7, 182, 1, 18, 167, 0, 85, 42, 182, 0, 227, 42, 180, 0, 67, 42, 180, 0, 239, 42, 3, 17, 39, 15, 182, 1, 14, 79, 42, 7]
theorem zrw_cX11_tellOne_192 : zrW 192 cX11_tellOne zrk_cX11_tellOne_192 := by unfold zrW; decide +kernel
theorem dX11_tellOne_192 : decode cX11_tellOne 192 = .ok (.aload_n 0, 1) := zrD zrw_cX11_tellOne_192 (i := 0) (by decide +kernel) rfl
theorem dX11_tellOne_193 : decode cX11_tellOne 193 = .ok (.iconst 4, 1) := zrD zrw_cX11_tellOne_192 (i := 1) (by decide +kernel) rfl
theorem dX11_tellOne_194 : decode cX11_tellOne 194 = .ok (.invokevirtual 274, 3) := zrD zrw_cX11_tellOne_192 (i := 2) (by decide +kernel) rfl
theorem dX11_tellOne_197 : decode cX11_tellOne 197 = .ok (.goto 85, 3) := zrD zrw_cX11_tellOne_192 (i := 5) (by decide +kernel) rfl
theorem dX11_tellOne_200 : decode cX11_tellOne 200 = .ok (.aload_n 0, 1) := zrD zrw_cX11_tellOne_192 (i := 8) (by decide +kernel) rfl
theorem dX11_tellOne_201 : decode cX11_tellOne 201 = .ok (.invokevirtual 227, 3) := zrD zrw_cX11_tellOne_192 (i := 9) (by decide +kernel) rfl
theorem dX11_tellOne_204 : decode cX11_tellOne 204 = .ok (.aload_n 0, 1) := zrD zrw_cX11_tellOne_192 (i := 12) (by decide +kernel) rfl
theorem dX11_tellOne_205 : decode cX11_tellOne 205 = .ok (.getfield 67, 3) := zrD zrw_cX11_tellOne_192 (i := 13) (by decide +kernel) rfl
theorem dX11_tellOne_208 : decode cX11_tellOne 208 = .ok (.aload_n 0, 1) := zrD zrw_cX11_tellOne_192 (i := 16) (by decide +kernel) rfl
theorem dX11_tellOne_209 : decode cX11_tellOne 209 = .ok (.getfield 239, 3) := zrD zrw_cX11_tellOne_192 (i := 17) (by decide +kernel) rfl
theorem dX11_tellOne_212 : decode cX11_tellOne 212 = .ok (.aload_n 0, 1) := zrD zrw_cX11_tellOne_192 (i := 20) (by decide +kernel) rfl
theorem dX11_tellOne_213 : decode cX11_tellOne 213 = .ok (.iconst 0, 1) := zrD zrw_cX11_tellOne_192 (i := 21) (by decide +kernel) rfl
theorem dX11_tellOne_214 : decode cX11_tellOne 214 = .ok (.sipush 9999, 3) := zrD zrw_cX11_tellOne_192 (i := 22) (by decide +kernel) rfl
theorem dX11_tellOne_217 : decode cX11_tellOne 217 = .ok (.invokevirtual 270, 3) := zrD zrw_cX11_tellOne_192 (i := 25) (by decide +kernel) rfl
theorem dX11_tellOne_220 : decode cX11_tellOne 220 = .ok (.iastore, 1) := zrD zrw_cX11_tellOne_192 (i := 28) (by decide +kernel) rfl
theorem dX11_tellOne_221 : decode cX11_tellOne 221 = .ok (.aload_n 0, 1) := zrD zrw_cX11_tellOne_192 (i := 29) (by decide +kernel) rfl
theorem dX11_tellOne_222 : decode cX11_tellOne 222 = .ok (.iconst 4, 1) := zrD zrw_cX11_tellOne_192 (i := 30) (by decide +kernel) rfl
def zrk_cX11_tellOne_223 : ByteArray := .mk #[182, 1, 18, 167, 0, 56, 42, 180, 0, 20, 42, 180, 0, 209, 46, 16, 22, 100, 60, 27, 155, 0, 17, 42, 180, 0, 20, 42, 180, 0, 209, 46]
theorem zrw_cX11_tellOne_223 : zrW 223 cX11_tellOne zrk_cX11_tellOne_223 := by unfold zrW; decide +kernel
theorem dX11_tellOne_223 : decode cX11_tellOne 223 = .ok (.invokevirtual 274, 3) := zrD zrw_cX11_tellOne_223 (i := 0) (by decide +kernel) rfl
theorem dX11_tellOne_226 : decode cX11_tellOne 226 = .ok (.goto 56, 3) := zrD zrw_cX11_tellOne_223 (i := 3) (by decide +kernel) rfl
theorem dX11_tellOne_229 : decode cX11_tellOne 229 = .ok (.aload_n 0, 1) := zrD zrw_cX11_tellOne_223 (i := 6) (by decide +kernel) rfl
theorem dX11_tellOne_230 : decode cX11_tellOne 230 = .ok (.getfield 20, 3) := zrD zrw_cX11_tellOne_223 (i := 7) (by decide +kernel) rfl
theorem dX11_tellOne_233 : decode cX11_tellOne 233 = .ok (.aload_n 0, 1) := zrD zrw_cX11_tellOne_223 (i := 10) (by decide +kernel) rfl
theorem dX11_tellOne_234 : decode cX11_tellOne 234 = .ok (.getfield 209, 3) := zrD zrw_cX11_tellOne_223 (i := 11) (by decide +kernel) rfl
theorem dX11_tellOne_237 : decode cX11_tellOne 237 = .ok (.iaload, 1) := zrD zrw_cX11_tellOne_223 (i := 14) (by decide +kernel) rfl
theorem dX11_tellOne_238 : decode cX11_tellOne 238 = .ok (.bipush 22, 2) := zrD zrw_cX11_tellOne_223 (i := 15) (by decide +kernel) rfl
theorem dX11_tellOne_240 : decode cX11_tellOne 240 = .ok (.isub, 1) := zrD zrw_cX11_tellOne_223 (i := 17) (by decide +kernel) rfl
theorem dX11_tellOne_241 : decode cX11_tellOne 241 = .ok (.istore_n 1, 1) := zrD zrw_cX11_tellOne_223 (i := 18) (by decide +kernel) rfl
theorem dX11_tellOne_242 : decode cX11_tellOne 242 = .ok (.iload_n 1, 1) := zrD zrw_cX11_tellOne_223 (i := 19) (by decide +kernel) rfl
theorem dX11_tellOne_243 : decode cX11_tellOne 243 = .ok (.ifCond .lt 17, 3) := zrD zrw_cX11_tellOne_223 (i := 20) (by decide +kernel) rfl
theorem dX11_tellOne_246 : decode cX11_tellOne 246 = .ok (.aload_n 0, 1) := zrD zrw_cX11_tellOne_223 (i := 23) (by decide +kernel) rfl
theorem dX11_tellOne_247 : decode cX11_tellOne 247 = .ok (.getfield 20, 3) := zrD zrw_cX11_tellOne_223 (i := 24) (by decide +kernel) rfl
theorem dX11_tellOne_250 : decode cX11_tellOne 250 = .ok (.aload_n 0, 1) := zrD zrw_cX11_tellOne_223 (i := 27) (by decide +kernel) rfl
theorem dX11_tellOne_251 : decode cX11_tellOne 251 = .ok (.getfield 209, 3) := zrD zrw_cX11_tellOne_223 (i := 28) (by decide +kernel) rfl
theorem dX11_tellOne_254 : decode cX11_tellOne 254 = .ok (.iaload, 1) := zrD zrw_cX11_tellOne_223 (i := 31) (by decide +kernel) rfl
def zrk_cX11_tellOne_255 : ByteArray := .mk #[16, 26, 164, 0, 8, 42, 4, 182, 0, 221, 42, 180, 0, 206, 158, 0, 4, 177, 42, 182, 0, 227, 42, 27, 182, 1, 21, 177]
theorem zrw_cX11_tellOne_255 : zrW 255 cX11_tellOne zrk_cX11_tellOne_255 := by unfold zrW; decide +kernel
theorem dX11_tellOne_255 : decode cX11_tellOne 255 = .ok (.bipush 26, 2) := zrD zrw_cX11_tellOne_255 (i := 0) (by decide +kernel) rfl
theorem dX11_tellOne_257 : decode cX11_tellOne 257 = .ok (.if_icmp .le 8, 3) := zrD zrw_cX11_tellOne_255 (i := 2) (by decide +kernel) rfl
theorem dX11_tellOne_260 : decode cX11_tellOne 260 = .ok (.aload_n 0, 1) := zrD zrw_cX11_tellOne_255 (i := 5) (by decide +kernel) rfl
theorem dX11_tellOne_261 : decode cX11_tellOne 261 = .ok (.iconst 1, 1) := zrD zrw_cX11_tellOne_255 (i := 6) (by decide +kernel) rfl
theorem dX11_tellOne_262 : decode cX11_tellOne 262 = .ok (.invokevirtual 221, 3) := zrD zrw_cX11_tellOne_255 (i := 7) (by decide +kernel) rfl
theorem dX11_tellOne_265 : decode cX11_tellOne 265 = .ok (.aload_n 0, 1) := zrD zrw_cX11_tellOne_255 (i := 10) (by decide +kernel) rfl
theorem dX11_tellOne_266 : decode cX11_tellOne 266 = .ok (.getfield 206, 3) := zrD zrw_cX11_tellOne_255 (i := 11) (by decide +kernel) rfl
theorem dX11_tellOne_269 : decode cX11_tellOne 269 = .ok (.ifCond .le 4, 3) := zrD zrw_cX11_tellOne_255 (i := 14) (by decide +kernel) rfl
theorem dX11_tellOne_272 : decode cX11_tellOne 272 = .ok (.return_, 1) := zrD zrw_cX11_tellOne_255 (i := 17) (by decide +kernel) rfl
theorem dX11_tellOne_273 : decode cX11_tellOne 273 = .ok (.aload_n 0, 1) := zrD zrw_cX11_tellOne_255 (i := 18) (by decide +kernel) rfl
theorem dX11_tellOne_274 : decode cX11_tellOne 274 = .ok (.invokevirtual 227, 3) := zrD zrw_cX11_tellOne_255 (i := 19) (by decide +kernel) rfl
theorem dX11_tellOne_277 : decode cX11_tellOne 277 = .ok (.aload_n 0, 1) := zrD zrw_cX11_tellOne_255 (i := 22) (by decide +kernel) rfl
theorem dX11_tellOne_278 : decode cX11_tellOne 278 = .ok (.iload_n 1, 1) := zrD zrw_cX11_tellOne_255 (i := 23) (by decide +kernel) rfl
theorem dX11_tellOne_279 : decode cX11_tellOne 279 = .ok (.invokevirtual 277, 3) := zrD zrw_cX11_tellOne_255 (i := 24) (by decide +kernel) rfl
theorem dX11_tellOne_282 : decode cX11_tellOne 282 = .ok (.return_, 1) := zrD zrw_cX11_tellOne_255 (i := 27) (by decide +kernel) rfl
def zrk_cX11_named_0 : ByteArray := .mk #[42, 180, 0, 209, 60, 42, 4, 182, 1, 18, 42, 180, 0, 206, 154, 0, 17, 42, 27, 182, 1, 24, 155, 0, 9, 42, 6, 27, 182, 1, 27, 27]
theorem zrw_cX11_named_0 : zrW 0 cX11_named zrk_cX11_named_0 := by unfold zrW; decide +kernel
theorem dX11_named_0 : decode cX11_named 0 = .ok (.aload_n 0, 1) := zrD zrw_cX11_named_0 (i := 0) (by decide +kernel) rfl
theorem dX11_named_1 : decode cX11_named 1 = .ok (.getfield 209, 3) := zrD zrw_cX11_named_0 (i := 1) (by decide +kernel) rfl
theorem dX11_named_4 : decode cX11_named 4 = .ok (.istore_n 1, 1) := zrD zrw_cX11_named_0 (i := 4) (by decide +kernel) rfl
theorem dX11_named_5 : decode cX11_named 5 = .ok (.aload_n 0, 1) := zrD zrw_cX11_named_0 (i := 5) (by decide +kernel) rfl
theorem dX11_named_6 : decode cX11_named 6 = .ok (.iconst 1, 1) := zrD zrw_cX11_named_0 (i := 6) (by decide +kernel) rfl
theorem dX11_named_7 : decode cX11_named 7 = .ok (.invokevirtual 274, 3) := zrD zrw_cX11_named_0 (i := 7) (by decide +kernel) rfl
theorem dX11_named_10 : decode cX11_named 10 = .ok (.aload_n 0, 1) := zrD zrw_cX11_named_0 (i := 10) (by decide +kernel) rfl
theorem dX11_named_11 : decode cX11_named 11 = .ok (.getfield 206, 3) := zrD zrw_cX11_named_0 (i := 11) (by decide +kernel) rfl
theorem dX11_named_14 : decode cX11_named 14 = .ok (.ifCond .ne 17, 3) := zrD zrw_cX11_named_0 (i := 14) (by decide +kernel) rfl
theorem dX11_named_17 : decode cX11_named 17 = .ok (.aload_n 0, 1) := zrD zrw_cX11_named_0 (i := 17) (by decide +kernel) rfl
theorem dX11_named_18 : decode cX11_named 18 = .ok (.iload_n 1, 1) := zrD zrw_cX11_named_0 (i := 18) (by decide +kernel) rfl
theorem dX11_named_19 : decode cX11_named 19 = .ok (.invokevirtual 280, 3) := zrD zrw_cX11_named_0 (i := 19) (by decide +kernel) rfl
theorem dX11_named_22 : decode cX11_named 22 = .ok (.ifCond .lt 9, 3) := zrD zrw_cX11_named_0 (i := 22) (by decide +kernel) rfl
theorem dX11_named_25 : decode cX11_named 25 = .ok (.aload_n 0, 1) := zrD zrw_cX11_named_0 (i := 25) (by decide +kernel) rfl
theorem dX11_named_26 : decode cX11_named 26 = .ok (.iconst 3, 1) := zrD zrw_cX11_named_0 (i := 26) (by decide +kernel) rfl
theorem dX11_named_27 : decode cX11_named 27 = .ok (.iload_n 1, 1) := zrD zrw_cX11_named_0 (i := 27) (by decide +kernel) rfl
theorem dX11_named_28 : decode cX11_named 28 = .ok (.invokevirtual 283, 3) := zrD zrw_cX11_named_0 (i := 28) (by decide +kernel) rfl
theorem dX11_named_31 : decode cX11_named 31 = .ok (.iload_n 1, 1) := zrD zrw_cX11_named_0 (i := 31) (by decide +kernel) rfl
def zrk_cX11_named_32 : ByteArray := .mk #[172]
theorem zrw_cX11_named_32 : zrW 32 cX11_named zrk_cX11_named_32 := by unfold zrW; decide +kernel
theorem dX11_named_32 : decode cX11_named 32 = .ok (.ireturn, 1) := zrD zrw_cX11_named_32 (i := 0) (by decide +kernel) rfl
def zrk_cX11_numberOf_0 : ByteArray := .mk #[42, 180, 0, 248, 153, 0, 21, 42, 180, 0, 40, 3, 47, 42, 180, 0, 30, 27, 47, 148, 154, 0, 5, 3, 172, 4, 61, 28, 42, 180, 0, 252]
theorem zrw_cX11_numberOf_0 : zrW 0 cX11_numberOf zrk_cX11_numberOf_0 := by unfold zrW; decide +kernel
theorem dX11_numberOf_0 : decode cX11_numberOf 0 = .ok (.aload_n 0, 1) := zrD zrw_cX11_numberOf_0 (i := 0) (by decide +kernel) rfl
theorem dX11_numberOf_1 : decode cX11_numberOf 1 = .ok (.getfield 248, 3) := zrD zrw_cX11_numberOf_0 (i := 1) (by decide +kernel) rfl
theorem dX11_numberOf_4 : decode cX11_numberOf 4 = .ok (.ifCond .eq 21, 3) := zrD zrw_cX11_numberOf_0 (i := 4) (by decide +kernel) rfl
theorem dX11_numberOf_7 : decode cX11_numberOf 7 = .ok (.aload_n 0, 1) := zrD zrw_cX11_numberOf_0 (i := 7) (by decide +kernel) rfl
theorem dX11_numberOf_8 : decode cX11_numberOf 8 = .ok (.getfield 40, 3) := zrD zrw_cX11_numberOf_0 (i := 8) (by decide +kernel) rfl
theorem dX11_numberOf_11 : decode cX11_numberOf 11 = .ok (.iconst 0, 1) := zrD zrw_cX11_numberOf_0 (i := 11) (by decide +kernel) rfl
theorem dX11_numberOf_12 : decode cX11_numberOf 12 = .ok (.laload, 1) := zrD zrw_cX11_numberOf_0 (i := 12) (by decide +kernel) rfl
theorem dX11_numberOf_13 : decode cX11_numberOf 13 = .ok (.aload_n 0, 1) := zrD zrw_cX11_numberOf_0 (i := 13) (by decide +kernel) rfl
theorem dX11_numberOf_14 : decode cX11_numberOf 14 = .ok (.getfield 30, 3) := zrD zrw_cX11_numberOf_0 (i := 14) (by decide +kernel) rfl
theorem dX11_numberOf_17 : decode cX11_numberOf 17 = .ok (.iload_n 1, 1) := zrD zrw_cX11_numberOf_0 (i := 17) (by decide +kernel) rfl
theorem dX11_numberOf_18 : decode cX11_numberOf 18 = .ok (.laload, 1) := zrD zrw_cX11_numberOf_0 (i := 18) (by decide +kernel) rfl
theorem dX11_numberOf_19 : decode cX11_numberOf 19 = .ok (.lcmp, 1) := zrD zrw_cX11_numberOf_0 (i := 19) (by decide +kernel) rfl
theorem dX11_numberOf_20 : decode cX11_numberOf 20 = .ok (.ifCond .ne 5, 3) := zrD zrw_cX11_numberOf_0 (i := 20) (by decide +kernel) rfl
theorem dX11_numberOf_23 : decode cX11_numberOf 23 = .ok (.iconst 0, 1) := zrD zrw_cX11_numberOf_0 (i := 23) (by decide +kernel) rfl
theorem dX11_numberOf_24 : decode cX11_numberOf 24 = .ok (.ireturn, 1) := zrD zrw_cX11_numberOf_0 (i := 24) (by decide +kernel) rfl
theorem dX11_numberOf_25 : decode cX11_numberOf 25 = .ok (.iconst 1, 1) := zrD zrw_cX11_numberOf_0 (i := 25) (by decide +kernel) rfl
theorem dX11_numberOf_26 : decode cX11_numberOf 26 = .ok (.istore_n 2, 1) := zrD zrw_cX11_numberOf_0 (i := 26) (by decide +kernel) rfl
theorem dX11_numberOf_27 : decode cX11_numberOf 27 = .ok (.iload_n 2, 1) := zrD zrw_cX11_numberOf_0 (i := 27) (by decide +kernel) rfl
theorem dX11_numberOf_28 : decode cX11_numberOf 28 = .ok (.aload_n 0, 1) := zrD zrw_cX11_numberOf_0 (i := 28) (by decide +kernel) rfl
theorem dX11_numberOf_29 : decode cX11_numberOf 29 = .ok (.getfield 252, 3) := zrD zrw_cX11_numberOf_0 (i := 29) (by decide +kernel) rfl
def zrk_cX11_numberOf_32 : ByteArray := .mk #[163, 0, 27, 42, 180, 0, 40, 28, 47, 42, 180, 0, 30, 27, 47, 148, 154, 0, 5, 28, 172, 132, 2, 1, 167, 255, 227, 2, 172]
theorem zrw_cX11_numberOf_32 : zrW 32 cX11_numberOf zrk_cX11_numberOf_32 := by unfold zrW; decide +kernel
theorem dX11_numberOf_32 : decode cX11_numberOf 32 = .ok (.if_icmp .gt 27, 3) := zrD zrw_cX11_numberOf_32 (i := 0) (by decide +kernel) rfl
theorem dX11_numberOf_35 : decode cX11_numberOf 35 = .ok (.aload_n 0, 1) := zrD zrw_cX11_numberOf_32 (i := 3) (by decide +kernel) rfl
theorem dX11_numberOf_36 : decode cX11_numberOf 36 = .ok (.getfield 40, 3) := zrD zrw_cX11_numberOf_32 (i := 4) (by decide +kernel) rfl
theorem dX11_numberOf_39 : decode cX11_numberOf 39 = .ok (.iload_n 2, 1) := zrD zrw_cX11_numberOf_32 (i := 7) (by decide +kernel) rfl
theorem dX11_numberOf_40 : decode cX11_numberOf 40 = .ok (.laload, 1) := zrD zrw_cX11_numberOf_32 (i := 8) (by decide +kernel) rfl
theorem dX11_numberOf_41 : decode cX11_numberOf 41 = .ok (.aload_n 0, 1) := zrD zrw_cX11_numberOf_32 (i := 9) (by decide +kernel) rfl
theorem dX11_numberOf_42 : decode cX11_numberOf 42 = .ok (.getfield 30, 3) := zrD zrw_cX11_numberOf_32 (i := 10) (by decide +kernel) rfl
theorem dX11_numberOf_45 : decode cX11_numberOf 45 = .ok (.iload_n 1, 1) := zrD zrw_cX11_numberOf_32 (i := 13) (by decide +kernel) rfl
theorem dX11_numberOf_46 : decode cX11_numberOf 46 = .ok (.laload, 1) := zrD zrw_cX11_numberOf_32 (i := 14) (by decide +kernel) rfl
theorem dX11_numberOf_47 : decode cX11_numberOf 47 = .ok (.lcmp, 1) := zrD zrw_cX11_numberOf_32 (i := 15) (by decide +kernel) rfl
theorem dX11_numberOf_48 : decode cX11_numberOf 48 = .ok (.ifCond .ne 5, 3) := zrD zrw_cX11_numberOf_32 (i := 16) (by decide +kernel) rfl
theorem dX11_numberOf_51 : decode cX11_numberOf 51 = .ok (.iload_n 2, 1) := zrD zrw_cX11_numberOf_32 (i := 19) (by decide +kernel) rfl
theorem dX11_numberOf_52 : decode cX11_numberOf 52 = .ok (.ireturn, 1) := zrD zrw_cX11_numberOf_32 (i := 20) (by decide +kernel) rfl
theorem dX11_numberOf_53 : decode cX11_numberOf 53 = .ok (.iinc 2 1, 3) := zrD zrw_cX11_numberOf_32 (i := 21) (by decide +kernel) rfl
theorem dX11_numberOf_56 : decode cX11_numberOf 56 = .ok (.goto (-29), 3) := zrD zrw_cX11_numberOf_32 (i := 24) (by decide +kernel) rfl
theorem dX11_numberOf_59 : decode cX11_numberOf 59 = .ok (.iconst (-1), 1) := zrD zrw_cX11_numberOf_32 (i := 27) (by decide +kernel) rfl
theorem dX11_numberOf_60 : decode cX11_numberOf 60 = .ok (.ireturn, 1) := zrD zrw_cX11_numberOf_32 (i := 28) (by decide +kernel) rfl
def zrk_cX11_bounded_0 : ByteArray := .mk #[42, 180, 0, 206, 157, 0, 11, 42, 5, 182, 0, 224, 154, 0, 10, 42, 4, 182, 0, 221, 27, 172, 42, 180, 0, 27, 42, 180, 0, 209, 46, 62]
theorem zrw_cX11_bounded_0 : zrW 0 cX11_bounded zrk_cX11_bounded_0 := by unfold zrW; decide +kernel
theorem dX11_bounded_0 : decode cX11_bounded 0 = .ok (.aload_n 0, 1) := zrD zrw_cX11_bounded_0 (i := 0) (by decide +kernel) rfl
theorem dX11_bounded_1 : decode cX11_bounded 1 = .ok (.getfield 206, 3) := zrD zrw_cX11_bounded_0 (i := 1) (by decide +kernel) rfl
theorem dX11_bounded_4 : decode cX11_bounded 4 = .ok (.ifCond .gt 11, 3) := zrD zrw_cX11_bounded_0 (i := 4) (by decide +kernel) rfl
theorem dX11_bounded_7 : decode cX11_bounded 7 = .ok (.aload_n 0, 1) := zrD zrw_cX11_bounded_0 (i := 7) (by decide +kernel) rfl
theorem dX11_bounded_8 : decode cX11_bounded 8 = .ok (.iconst 2, 1) := zrD zrw_cX11_bounded_0 (i := 8) (by decide +kernel) rfl
theorem dX11_bounded_9 : decode cX11_bounded 9 = .ok (.invokevirtual 224, 3) := zrD zrw_cX11_bounded_0 (i := 9) (by decide +kernel) rfl
theorem dX11_bounded_12 : decode cX11_bounded 12 = .ok (.ifCond .ne 10, 3) := zrD zrw_cX11_bounded_0 (i := 12) (by decide +kernel) rfl
theorem dX11_bounded_15 : decode cX11_bounded 15 = .ok (.aload_n 0, 1) := zrD zrw_cX11_bounded_0 (i := 15) (by decide +kernel) rfl
theorem dX11_bounded_16 : decode cX11_bounded 16 = .ok (.iconst 1, 1) := zrD zrw_cX11_bounded_0 (i := 16) (by decide +kernel) rfl
theorem dX11_bounded_17 : decode cX11_bounded 17 = .ok (.invokevirtual 221, 3) := zrD zrw_cX11_bounded_0 (i := 17) (by decide +kernel) rfl
theorem dX11_bounded_20 : decode cX11_bounded 20 = .ok (.iload_n 1, 1) := zrD zrw_cX11_bounded_0 (i := 20) (by decide +kernel) rfl
theorem dX11_bounded_21 : decode cX11_bounded 21 = .ok (.ireturn, 1) := zrD zrw_cX11_bounded_0 (i := 21) (by decide +kernel) rfl
theorem dX11_bounded_22 : decode cX11_bounded 22 = .ok (.aload_n 0, 1) := zrD zrw_cX11_bounded_0 (i := 22) (by decide +kernel) rfl
theorem dX11_bounded_23 : decode cX11_bounded 23 = .ok (.getfield 27, 3) := zrD zrw_cX11_bounded_0 (i := 23) (by decide +kernel) rfl
theorem dX11_bounded_26 : decode cX11_bounded 26 = .ok (.aload_n 0, 1) := zrD zrw_cX11_bounded_0 (i := 26) (by decide +kernel) rfl
theorem dX11_bounded_27 : decode cX11_bounded 27 = .ok (.getfield 209, 3) := zrD zrw_cX11_bounded_0 (i := 27) (by decide +kernel) rfl
theorem dX11_bounded_30 : decode cX11_bounded 30 = .ok (.iaload, 1) := zrD zrw_cX11_bounded_0 (i := 30) (by decide +kernel) rfl
theorem dX11_bounded_31 : decode cX11_bounded 31 = .ok (.istore_n 3, 1) := zrD zrw_cX11_bounded_0 (i := 31) (by decide +kernel) rfl
def zrk_cX11_bounded_32 : ByteArray := .mk #[29, 27, 161, 0, 8, 29, 28, 164, 0, 12, 42, 8, 42, 180, 0, 209, 182, 1, 27, 42, 182, 0, 227, 29, 172]
theorem zrw_cX11_bounded_32 : zrW 32 cX11_bounded zrk_cX11_bounded_32 := by unfold zrW; decide +kernel
theorem dX11_bounded_32 : decode cX11_bounded 32 = .ok (.iload_n 3, 1) := zrD zrw_cX11_bounded_32 (i := 0) (by decide +kernel) rfl
theorem dX11_bounded_33 : decode cX11_bounded 33 = .ok (.iload_n 1, 1) := zrD zrw_cX11_bounded_32 (i := 1) (by decide +kernel) rfl
theorem dX11_bounded_34 : decode cX11_bounded 34 = .ok (.if_icmp .lt 8, 3) := zrD zrw_cX11_bounded_32 (i := 2) (by decide +kernel) rfl
theorem dX11_bounded_37 : decode cX11_bounded 37 = .ok (.iload_n 3, 1) := zrD zrw_cX11_bounded_32 (i := 5) (by decide +kernel) rfl
theorem dX11_bounded_38 : decode cX11_bounded 38 = .ok (.iload_n 2, 1) := zrD zrw_cX11_bounded_32 (i := 6) (by decide +kernel) rfl
theorem dX11_bounded_39 : decode cX11_bounded 39 = .ok (.if_icmp .le 12, 3) := zrD zrw_cX11_bounded_32 (i := 7) (by decide +kernel) rfl
theorem dX11_bounded_42 : decode cX11_bounded 42 = .ok (.aload_n 0, 1) := zrD zrw_cX11_bounded_32 (i := 10) (by decide +kernel) rfl
theorem dX11_bounded_43 : decode cX11_bounded 43 = .ok (.iconst 5, 1) := zrD zrw_cX11_bounded_32 (i := 11) (by decide +kernel) rfl
theorem dX11_bounded_44 : decode cX11_bounded 44 = .ok (.aload_n 0, 1) := zrD zrw_cX11_bounded_32 (i := 12) (by decide +kernel) rfl
theorem dX11_bounded_45 : decode cX11_bounded 45 = .ok (.getfield 209, 3) := zrD zrw_cX11_bounded_32 (i := 13) (by decide +kernel) rfl
theorem dX11_bounded_48 : decode cX11_bounded 48 = .ok (.invokevirtual 283, 3) := zrD zrw_cX11_bounded_32 (i := 16) (by decide +kernel) rfl
theorem dX11_bounded_51 : decode cX11_bounded 51 = .ok (.aload_n 0, 1) := zrD zrw_cX11_bounded_32 (i := 19) (by decide +kernel) rfl
theorem dX11_bounded_52 : decode cX11_bounded 52 = .ok (.invokevirtual 227, 3) := zrD zrw_cX11_bounded_32 (i := 20) (by decide +kernel) rfl
theorem dX11_bounded_55 : decode cX11_bounded 55 = .ok (.iload_n 3, 1) := zrD zrw_cX11_bounded_32 (i := 23) (by decide +kernel) rfl
theorem dX11_bounded_56 : decode cX11_bounded 56 = .ok (.ireturn, 1) := zrD zrw_cX11_bounded_32 (i := 24) (by decide +kernel) rfl
def zrk_cX11_tellMouth_0 : ByteArray := .mk #[42, 182, 1, 31, 60, 42, 7, 182, 1, 18, 42, 180, 0, 206, 158, 0, 4, 177, 42, 4, 181, 0, 248, 42, 180, 0, 40, 3, 42, 180, 0, 30]
theorem zrw_cX11_tellMouth_0 : zrW 0 cX11_tellMouth zrk_cX11_tellMouth_0 := by unfold zrW; decide +kernel
theorem dX11_tellMouth_0 : decode cX11_tellMouth 0 = .ok (.aload_n 0, 1) := zrD zrw_cX11_tellMouth_0 (i := 0) (by decide +kernel) rfl
theorem dX11_tellMouth_1 : decode cX11_tellMouth 1 = .ok (.invokevirtual 287, 3) := zrD zrw_cX11_tellMouth_0 (i := 1) (by decide +kernel) rfl
theorem dX11_tellMouth_4 : decode cX11_tellMouth 4 = .ok (.istore_n 1, 1) := zrD zrw_cX11_tellMouth_0 (i := 4) (by decide +kernel) rfl
theorem dX11_tellMouth_5 : decode cX11_tellMouth 5 = .ok (.aload_n 0, 1) := zrD zrw_cX11_tellMouth_0 (i := 5) (by decide +kernel) rfl
theorem dX11_tellMouth_6 : decode cX11_tellMouth 6 = .ok (.iconst 4, 1) := zrD zrw_cX11_tellMouth_0 (i := 6) (by decide +kernel) rfl
theorem dX11_tellMouth_7 : decode cX11_tellMouth 7 = .ok (.invokevirtual 274, 3) := zrD zrw_cX11_tellMouth_0 (i := 7) (by decide +kernel) rfl
theorem dX11_tellMouth_10 : decode cX11_tellMouth 10 = .ok (.aload_n 0, 1) := zrD zrw_cX11_tellMouth_0 (i := 10) (by decide +kernel) rfl
theorem dX11_tellMouth_11 : decode cX11_tellMouth 11 = .ok (.getfield 206, 3) := zrD zrw_cX11_tellMouth_0 (i := 11) (by decide +kernel) rfl
theorem dX11_tellMouth_14 : decode cX11_tellMouth 14 = .ok (.ifCond .le 4, 3) := zrD zrw_cX11_tellMouth_0 (i := 14) (by decide +kernel) rfl
theorem dX11_tellMouth_17 : decode cX11_tellMouth 17 = .ok (.return_, 1) := zrD zrw_cX11_tellMouth_0 (i := 17) (by decide +kernel) rfl
theorem dX11_tellMouth_18 : decode cX11_tellMouth 18 = .ok (.aload_n 0, 1) := zrD zrw_cX11_tellMouth_0 (i := 18) (by decide +kernel) rfl
theorem dX11_tellMouth_19 : decode cX11_tellMouth 19 = .ok (.iconst 1, 1) := zrD zrw_cX11_tellMouth_0 (i := 19) (by decide +kernel) rfl
theorem dX11_tellMouth_20 : decode cX11_tellMouth 20 = .ok (.putfield 248, 3) := zrD zrw_cX11_tellMouth_0 (i := 20) (by decide +kernel) rfl
theorem dX11_tellMouth_23 : decode cX11_tellMouth 23 = .ok (.aload_n 0, 1) := zrD zrw_cX11_tellMouth_0 (i := 23) (by decide +kernel) rfl
theorem dX11_tellMouth_24 : decode cX11_tellMouth 24 = .ok (.getfield 40, 3) := zrD zrw_cX11_tellMouth_0 (i := 24) (by decide +kernel) rfl
theorem dX11_tellMouth_27 : decode cX11_tellMouth 27 = .ok (.iconst 0, 1) := zrD zrw_cX11_tellMouth_0 (i := 27) (by decide +kernel) rfl
theorem dX11_tellMouth_28 : decode cX11_tellMouth 28 = .ok (.aload_n 0, 1) := zrD zrw_cX11_tellMouth_0 (i := 28) (by decide +kernel) rfl
theorem dX11_tellMouth_29 : decode cX11_tellMouth 29 = .ok (.getfield 30, 3) := zrD zrw_cX11_tellMouth_0 (i := 29) (by decide +kernel) rfl
def zrk_cX11_tellMouth_32 : ByteArray := .mk #[27, 47, 80, 16, 12, 42, 180, 0, 239, 104, 61, 42, 180, 0, 46, 28, 16, 254, 79, 42, 180, 0, 49, 28, 3, 79, 42, 180, 0, 52, 28, 3]
theorem zrw_cX11_tellMouth_32 : zrW 32 cX11_tellMouth zrk_cX11_tellMouth_32 := by unfold zrW; decide +kernel
theorem dX11_tellMouth_32 : decode cX11_tellMouth 32 = .ok (.iload_n 1, 1) := zrD zrw_cX11_tellMouth_32 (i := 0) (by decide +kernel) rfl
theorem dX11_tellMouth_33 : decode cX11_tellMouth 33 = .ok (.laload, 1) := zrD zrw_cX11_tellMouth_32 (i := 1) (by decide +kernel) rfl
theorem dX11_tellMouth_34 : decode cX11_tellMouth 34 = .ok (.lastore, 1) := zrD zrw_cX11_tellMouth_32 (i := 2) (by decide +kernel) rfl
theorem dX11_tellMouth_35 : decode cX11_tellMouth 35 = .ok (.bipush 12, 2) := zrD zrw_cX11_tellMouth_32 (i := 3) (by decide +kernel) rfl
theorem dX11_tellMouth_37 : decode cX11_tellMouth 37 = .ok (.aload_n 0, 1) := zrD zrw_cX11_tellMouth_32 (i := 5) (by decide +kernel) rfl
theorem dX11_tellMouth_38 : decode cX11_tellMouth 38 = .ok (.getfield 239, 3) := zrD zrw_cX11_tellMouth_32 (i := 6) (by decide +kernel) rfl
theorem dX11_tellMouth_41 : decode cX11_tellMouth 41 = .ok (.imul, 1) := zrD zrw_cX11_tellMouth_32 (i := 9) (by decide +kernel) rfl
theorem dX11_tellMouth_42 : decode cX11_tellMouth 42 = .ok (.istore_n 2, 1) := zrD zrw_cX11_tellMouth_32 (i := 10) (by decide +kernel) rfl
theorem dX11_tellMouth_43 : decode cX11_tellMouth 43 = .ok (.aload_n 0, 1) := zrD zrw_cX11_tellMouth_32 (i := 11) (by decide +kernel) rfl
theorem dX11_tellMouth_44 : decode cX11_tellMouth 44 = .ok (.getfield 46, 3) := zrD zrw_cX11_tellMouth_32 (i := 12) (by decide +kernel) rfl
theorem dX11_tellMouth_47 : decode cX11_tellMouth 47 = .ok (.iload_n 2, 1) := zrD zrw_cX11_tellMouth_32 (i := 15) (by decide +kernel) rfl
theorem dX11_tellMouth_48 : decode cX11_tellMouth 48 = .ok (.bipush (-2), 2) := zrD zrw_cX11_tellMouth_32 (i := 16) (by decide +kernel) rfl
theorem dX11_tellMouth_50 : decode cX11_tellMouth 50 = .ok (.iastore, 1) := zrD zrw_cX11_tellMouth_32 (i := 18) (by decide +kernel) rfl
theorem dX11_tellMouth_51 : decode cX11_tellMouth 51 = .ok (.aload_n 0, 1) := zrD zrw_cX11_tellMouth_32 (i := 19) (by decide +kernel) rfl
theorem dX11_tellMouth_52 : decode cX11_tellMouth 52 = .ok (.getfield 49, 3) := zrD zrw_cX11_tellMouth_32 (i := 20) (by decide +kernel) rfl
theorem dX11_tellMouth_55 : decode cX11_tellMouth 55 = .ok (.iload_n 2, 1) := zrD zrw_cX11_tellMouth_32 (i := 23) (by decide +kernel) rfl
theorem dX11_tellMouth_56 : decode cX11_tellMouth 56 = .ok (.iconst 0, 1) := zrD zrw_cX11_tellMouth_32 (i := 24) (by decide +kernel) rfl
theorem dX11_tellMouth_57 : decode cX11_tellMouth 57 = .ok (.iastore, 1) := zrD zrw_cX11_tellMouth_32 (i := 25) (by decide +kernel) rfl
theorem dX11_tellMouth_58 : decode cX11_tellMouth 58 = .ok (.aload_n 0, 1) := zrD zrw_cX11_tellMouth_32 (i := 26) (by decide +kernel) rfl
theorem dX11_tellMouth_59 : decode cX11_tellMouth 59 = .ok (.getfield 52, 3) := zrD zrw_cX11_tellMouth_32 (i := 27) (by decide +kernel) rfl
theorem dX11_tellMouth_62 : decode cX11_tellMouth 62 = .ok (.iload_n 2, 1) := zrD zrw_cX11_tellMouth_32 (i := 30) (by decide +kernel) rfl
theorem dX11_tellMouth_63 : decode cX11_tellMouth 63 = .ok (.iconst 0, 1) := zrD zrw_cX11_tellMouth_32 (i := 31) (by decide +kernel) rfl
def zrk_cX11_tellMouth_64 : ByteArray := .mk #[79, 42, 180, 0, 55, 28, 3, 79, 42, 180, 0, 43, 42, 180, 0, 239, 42, 180, 0, 252, 4, 96, 79, 177]
theorem zrw_cX11_tellMouth_64 : zrW 64 cX11_tellMouth zrk_cX11_tellMouth_64 := by unfold zrW; decide +kernel
theorem dX11_tellMouth_64 : decode cX11_tellMouth 64 = .ok (.iastore, 1) := zrD zrw_cX11_tellMouth_64 (i := 0) (by decide +kernel) rfl
theorem dX11_tellMouth_65 : decode cX11_tellMouth 65 = .ok (.aload_n 0, 1) := zrD zrw_cX11_tellMouth_64 (i := 1) (by decide +kernel) rfl
theorem dX11_tellMouth_66 : decode cX11_tellMouth 66 = .ok (.getfield 55, 3) := zrD zrw_cX11_tellMouth_64 (i := 2) (by decide +kernel) rfl
theorem dX11_tellMouth_69 : decode cX11_tellMouth 69 = .ok (.iload_n 2, 1) := zrD zrw_cX11_tellMouth_64 (i := 5) (by decide +kernel) rfl
theorem dX11_tellMouth_70 : decode cX11_tellMouth 70 = .ok (.iconst 0, 1) := zrD zrw_cX11_tellMouth_64 (i := 6) (by decide +kernel) rfl
theorem dX11_tellMouth_71 : decode cX11_tellMouth 71 = .ok (.iastore, 1) := zrD zrw_cX11_tellMouth_64 (i := 7) (by decide +kernel) rfl
theorem dX11_tellMouth_72 : decode cX11_tellMouth 72 = .ok (.aload_n 0, 1) := zrD zrw_cX11_tellMouth_64 (i := 8) (by decide +kernel) rfl
theorem dX11_tellMouth_73 : decode cX11_tellMouth 73 = .ok (.getfield 43, 3) := zrD zrw_cX11_tellMouth_64 (i := 9) (by decide +kernel) rfl
theorem dX11_tellMouth_76 : decode cX11_tellMouth 76 = .ok (.aload_n 0, 1) := zrD zrw_cX11_tellMouth_64 (i := 12) (by decide +kernel) rfl
theorem dX11_tellMouth_77 : decode cX11_tellMouth 77 = .ok (.getfield 239, 3) := zrD zrw_cX11_tellMouth_64 (i := 13) (by decide +kernel) rfl
theorem dX11_tellMouth_80 : decode cX11_tellMouth 80 = .ok (.aload_n 0, 1) := zrD zrw_cX11_tellMouth_64 (i := 16) (by decide +kernel) rfl
theorem dX11_tellMouth_81 : decode cX11_tellMouth 81 = .ok (.getfield 252, 3) := zrD zrw_cX11_tellMouth_64 (i := 17) (by decide +kernel) rfl
theorem dX11_tellMouth_84 : decode cX11_tellMouth 84 = .ok (.iconst 1, 1) := zrD zrw_cX11_tellMouth_64 (i := 20) (by decide +kernel) rfl
theorem dX11_tellMouth_85 : decode cX11_tellMouth 85 = .ok (.iadd, 1) := zrD zrw_cX11_tellMouth_64 (i := 21) (by decide +kernel) rfl
theorem dX11_tellMouth_86 : decode cX11_tellMouth 86 = .ok (.iastore, 1) := zrD zrw_cX11_tellMouth_64 (i := 22) (by decide +kernel) rfl
theorem dX11_tellMouth_87 : decode cX11_tellMouth 87 = .ok (.return_, 1) := zrD zrw_cX11_tellMouth_64 (i := 23) (by decide +kernel) rfl
def zrk_cX11_tellPlace_0 : ByteArray := .mk #[16, 12, 42, 180, 0, 239, 104, 42, 180, 0, 252, 96, 4, 96, 60, 42, 182, 1, 31, 61, 42, 180, 0, 209, 62, 42, 4, 182, 1, 18, 42]
theorem zrw_cX11_tellPlace_0 : zrW 0 cX11_tellPlace zrk_cX11_tellPlace_0 := by unfold zrW; decide +kernel
theorem dX11_tellPlace_0 : decode cX11_tellPlace 0 = .ok (.bipush 12, 2) := zrD zrw_cX11_tellPlace_0 (i := 0) (by decide +kernel) rfl
theorem dX11_tellPlace_2 : decode cX11_tellPlace 2 = .ok (.aload_n 0, 1) := zrD zrw_cX11_tellPlace_0 (i := 2) (by decide +kernel) rfl
theorem dX11_tellPlace_3 : decode cX11_tellPlace 3 = .ok (.getfield 239, 3) := zrD zrw_cX11_tellPlace_0 (i := 3) (by decide +kernel) rfl
theorem dX11_tellPlace_6 : decode cX11_tellPlace 6 = .ok (.imul, 1) := zrD zrw_cX11_tellPlace_0 (i := 6) (by decide +kernel) rfl
theorem dX11_tellPlace_7 : decode cX11_tellPlace 7 = .ok (.aload_n 0, 1) := zrD zrw_cX11_tellPlace_0 (i := 7) (by decide +kernel) rfl
theorem dX11_tellPlace_8 : decode cX11_tellPlace 8 = .ok (.getfield 252, 3) := zrD zrw_cX11_tellPlace_0 (i := 8) (by decide +kernel) rfl
theorem dX11_tellPlace_11 : decode cX11_tellPlace 11 = .ok (.iadd, 1) := zrD zrw_cX11_tellPlace_0 (i := 11) (by decide +kernel) rfl
theorem dX11_tellPlace_12 : decode cX11_tellPlace 12 = .ok (.iconst 1, 1) := zrD zrw_cX11_tellPlace_0 (i := 12) (by decide +kernel) rfl
theorem dX11_tellPlace_13 : decode cX11_tellPlace 13 = .ok (.iadd, 1) := zrD zrw_cX11_tellPlace_0 (i := 13) (by decide +kernel) rfl
theorem dX11_tellPlace_14 : decode cX11_tellPlace 14 = .ok (.istore_n 1, 1) := zrD zrw_cX11_tellPlace_0 (i := 14) (by decide +kernel) rfl
theorem dX11_tellPlace_15 : decode cX11_tellPlace 15 = .ok (.aload_n 0, 1) := zrD zrw_cX11_tellPlace_0 (i := 15) (by decide +kernel) rfl
theorem dX11_tellPlace_16 : decode cX11_tellPlace 16 = .ok (.invokevirtual 287, 3) := zrD zrw_cX11_tellPlace_0 (i := 16) (by decide +kernel) rfl
theorem dX11_tellPlace_19 : decode cX11_tellPlace 19 = .ok (.istore_n 2, 1) := zrD zrw_cX11_tellPlace_0 (i := 19) (by decide +kernel) rfl
theorem dX11_tellPlace_20 : decode cX11_tellPlace 20 = .ok (.aload_n 0, 1) := zrD zrw_cX11_tellPlace_0 (i := 20) (by decide +kernel) rfl
theorem dX11_tellPlace_21 : decode cX11_tellPlace 21 = .ok (.getfield 209, 3) := zrD zrw_cX11_tellPlace_0 (i := 21) (by decide +kernel) rfl
theorem dX11_tellPlace_24 : decode cX11_tellPlace 24 = .ok (.istore_n 3, 1) := zrD zrw_cX11_tellPlace_0 (i := 24) (by decide +kernel) rfl
theorem dX11_tellPlace_25 : decode cX11_tellPlace 25 = .ok (.aload_n 0, 1) := zrD zrw_cX11_tellPlace_0 (i := 25) (by decide +kernel) rfl
theorem dX11_tellPlace_26 : decode cX11_tellPlace 26 = .ok (.iconst 1, 1) := zrD zrw_cX11_tellPlace_0 (i := 26) (by decide +kernel) rfl
theorem dX11_tellPlace_27 : decode cX11_tellPlace 27 = .ok (.invokevirtual 274, 3) := zrD zrw_cX11_tellPlace_0 (i := 27) (by decide +kernel) rfl
theorem dX11_tellPlace_30 : decode cX11_tellPlace 30 = .ok (.aload_n 0, 1) := zrD zrw_cX11_tellPlace_0 (i := 30) (by decide +kernel) rfl
def zrk_cX11_tellPlace_31 : ByteArray := .mk #[180, 0, 206, 158, 0, 4, 177, 42, 180, 0, 46, 27, 42, 29, 182, 1, 24, 79, 42, 180, 0, 46, 27, 46, 156, 0, 9, 42, 7, 29]
theorem zrw_cX11_tellPlace_31 : zrW 31 cX11_tellPlace zrk_cX11_tellPlace_31 := by unfold zrW; decide +kernel
theorem dX11_tellPlace_31 : decode cX11_tellPlace 31 = .ok (.getfield 206, 3) := zrD zrw_cX11_tellPlace_31 (i := 0) (by decide +kernel) rfl
theorem dX11_tellPlace_34 : decode cX11_tellPlace 34 = .ok (.ifCond .le 4, 3) := zrD zrw_cX11_tellPlace_31 (i := 3) (by decide +kernel) rfl
theorem dX11_tellPlace_37 : decode cX11_tellPlace 37 = .ok (.return_, 1) := zrD zrw_cX11_tellPlace_31 (i := 6) (by decide +kernel) rfl
theorem dX11_tellPlace_38 : decode cX11_tellPlace 38 = .ok (.aload_n 0, 1) := zrD zrw_cX11_tellPlace_31 (i := 7) (by decide +kernel) rfl
theorem dX11_tellPlace_39 : decode cX11_tellPlace 39 = .ok (.getfield 46, 3) := zrD zrw_cX11_tellPlace_31 (i := 8) (by decide +kernel) rfl
theorem dX11_tellPlace_42 : decode cX11_tellPlace 42 = .ok (.iload_n 1, 1) := zrD zrw_cX11_tellPlace_31 (i := 11) (by decide +kernel) rfl
theorem dX11_tellPlace_43 : decode cX11_tellPlace 43 = .ok (.aload_n 0, 1) := zrD zrw_cX11_tellPlace_31 (i := 12) (by decide +kernel) rfl
theorem dX11_tellPlace_44 : decode cX11_tellPlace 44 = .ok (.iload_n 3, 1) := zrD zrw_cX11_tellPlace_31 (i := 13) (by decide +kernel) rfl
theorem dX11_tellPlace_45 : decode cX11_tellPlace 45 = .ok (.invokevirtual 280, 3) := zrD zrw_cX11_tellPlace_31 (i := 14) (by decide +kernel) rfl
theorem dX11_tellPlace_48 : decode cX11_tellPlace 48 = .ok (.iastore, 1) := zrD zrw_cX11_tellPlace_31 (i := 17) (by decide +kernel) rfl
theorem dX11_tellPlace_49 : decode cX11_tellPlace 49 = .ok (.aload_n 0, 1) := zrD zrw_cX11_tellPlace_31 (i := 18) (by decide +kernel) rfl
theorem dX11_tellPlace_50 : decode cX11_tellPlace 50 = .ok (.getfield 46, 3) := zrD zrw_cX11_tellPlace_31 (i := 19) (by decide +kernel) rfl
theorem dX11_tellPlace_53 : decode cX11_tellPlace 53 = .ok (.iload_n 1, 1) := zrD zrw_cX11_tellPlace_31 (i := 22) (by decide +kernel) rfl
theorem dX11_tellPlace_54 : decode cX11_tellPlace 54 = .ok (.iaload, 1) := zrD zrw_cX11_tellPlace_31 (i := 23) (by decide +kernel) rfl
theorem dX11_tellPlace_55 : decode cX11_tellPlace 55 = .ok (.ifCond .ge 9, 3) := zrD zrw_cX11_tellPlace_31 (i := 24) (by decide +kernel) rfl
theorem dX11_tellPlace_58 : decode cX11_tellPlace 58 = .ok (.aload_n 0, 1) := zrD zrw_cX11_tellPlace_31 (i := 27) (by decide +kernel) rfl
theorem dX11_tellPlace_59 : decode cX11_tellPlace 59 = .ok (.iconst 4, 1) := zrD zrw_cX11_tellPlace_31 (i := 28) (by decide +kernel) rfl
theorem dX11_tellPlace_60 : decode cX11_tellPlace 60 = .ok (.iload_n 3, 1) := zrD zrw_cX11_tellPlace_31 (i := 29) (by decide +kernel) rfl
def zrk_cX11_tellPlace_61 : ByteArray := .mk #[182, 1, 27, 42, 180, 0, 49, 27, 42, 4, 16, 99, 182, 1, 14, 79, 42, 180, 0, 52, 27, 42, 3, 16, 99, 182, 1, 14, 79, 42]
theorem zrw_cX11_tellPlace_61 : zrW 61 cX11_tellPlace zrk_cX11_tellPlace_61 := by unfold zrW; decide +kernel
theorem dX11_tellPlace_61 : decode cX11_tellPlace 61 = .ok (.invokevirtual 283, 3) := zrD zrw_cX11_tellPlace_61 (i := 0) (by decide +kernel) rfl
theorem dX11_tellPlace_64 : decode cX11_tellPlace 64 = .ok (.aload_n 0, 1) := zrD zrw_cX11_tellPlace_61 (i := 3) (by decide +kernel) rfl
theorem dX11_tellPlace_65 : decode cX11_tellPlace 65 = .ok (.getfield 49, 3) := zrD zrw_cX11_tellPlace_61 (i := 4) (by decide +kernel) rfl
theorem dX11_tellPlace_68 : decode cX11_tellPlace 68 = .ok (.iload_n 1, 1) := zrD zrw_cX11_tellPlace_61 (i := 7) (by decide +kernel) rfl
theorem dX11_tellPlace_69 : decode cX11_tellPlace 69 = .ok (.aload_n 0, 1) := zrD zrw_cX11_tellPlace_61 (i := 8) (by decide +kernel) rfl
theorem dX11_tellPlace_70 : decode cX11_tellPlace 70 = .ok (.iconst 1, 1) := zrD zrw_cX11_tellPlace_61 (i := 9) (by decide +kernel) rfl
theorem dX11_tellPlace_71 : decode cX11_tellPlace 71 = .ok (.bipush 99, 2) := zrD zrw_cX11_tellPlace_61 (i := 10) (by decide +kernel) rfl
theorem dX11_tellPlace_73 : decode cX11_tellPlace 73 = .ok (.invokevirtual 270, 3) := zrD zrw_cX11_tellPlace_61 (i := 12) (by decide +kernel) rfl
theorem dX11_tellPlace_76 : decode cX11_tellPlace 76 = .ok (.iastore, 1) := zrD zrw_cX11_tellPlace_61 (i := 15) (by decide +kernel) rfl
theorem dX11_tellPlace_77 : decode cX11_tellPlace 77 = .ok (.aload_n 0, 1) := zrD zrw_cX11_tellPlace_61 (i := 16) (by decide +kernel) rfl
theorem dX11_tellPlace_78 : decode cX11_tellPlace 78 = .ok (.getfield 52, 3) := zrD zrw_cX11_tellPlace_61 (i := 17) (by decide +kernel) rfl
theorem dX11_tellPlace_81 : decode cX11_tellPlace 81 = .ok (.iload_n 1, 1) := zrD zrw_cX11_tellPlace_61 (i := 20) (by decide +kernel) rfl
theorem dX11_tellPlace_82 : decode cX11_tellPlace 82 = .ok (.aload_n 0, 1) := zrD zrw_cX11_tellPlace_61 (i := 21) (by decide +kernel) rfl
theorem dX11_tellPlace_83 : decode cX11_tellPlace 83 = .ok (.iconst 0, 1) := zrD zrw_cX11_tellPlace_61 (i := 22) (by decide +kernel) rfl
theorem dX11_tellPlace_84 : decode cX11_tellPlace 84 = .ok (.bipush 99, 2) := zrD zrw_cX11_tellPlace_61 (i := 23) (by decide +kernel) rfl
theorem dX11_tellPlace_86 : decode cX11_tellPlace 86 = .ok (.invokevirtual 270, 3) := zrD zrw_cX11_tellPlace_61 (i := 25) (by decide +kernel) rfl
theorem dX11_tellPlace_89 : decode cX11_tellPlace 89 = .ok (.iastore, 1) := zrD zrw_cX11_tellPlace_61 (i := 28) (by decide +kernel) rfl
theorem dX11_tellPlace_90 : decode cX11_tellPlace 90 = .ok (.aload_n 0, 1) := zrD zrw_cX11_tellPlace_61 (i := 29) (by decide +kernel) rfl
def zrk_cX11_tellPlace_91 : ByteArray := .mk #[180, 0, 55, 27, 42, 3, 16, 99, 182, 1, 14, 79, 42, 7, 182, 1, 18, 42, 180, 0, 206, 158, 0, 4, 177, 42, 89, 180, 0, 252, 4, 96]
theorem zrw_cX11_tellPlace_91 : zrW 91 cX11_tellPlace zrk_cX11_tellPlace_91 := by unfold zrW; decide +kernel
theorem dX11_tellPlace_91 : decode cX11_tellPlace 91 = .ok (.getfield 55, 3) := zrD zrw_cX11_tellPlace_91 (i := 0) (by decide +kernel) rfl
theorem dX11_tellPlace_94 : decode cX11_tellPlace 94 = .ok (.iload_n 1, 1) := zrD zrw_cX11_tellPlace_91 (i := 3) (by decide +kernel) rfl
theorem dX11_tellPlace_95 : decode cX11_tellPlace 95 = .ok (.aload_n 0, 1) := zrD zrw_cX11_tellPlace_91 (i := 4) (by decide +kernel) rfl
theorem dX11_tellPlace_96 : decode cX11_tellPlace 96 = .ok (.iconst 0, 1) := zrD zrw_cX11_tellPlace_91 (i := 5) (by decide +kernel) rfl
theorem dX11_tellPlace_97 : decode cX11_tellPlace 97 = .ok (.bipush 99, 2) := zrD zrw_cX11_tellPlace_91 (i := 6) (by decide +kernel) rfl
theorem dX11_tellPlace_99 : decode cX11_tellPlace 99 = .ok (.invokevirtual 270, 3) := zrD zrw_cX11_tellPlace_91 (i := 8) (by decide +kernel) rfl
theorem dX11_tellPlace_102 : decode cX11_tellPlace 102 = .ok (.iastore, 1) := zrD zrw_cX11_tellPlace_91 (i := 11) (by decide +kernel) rfl
theorem dX11_tellPlace_103 : decode cX11_tellPlace 103 = .ok (.aload_n 0, 1) := zrD zrw_cX11_tellPlace_91 (i := 12) (by decide +kernel) rfl
theorem dX11_tellPlace_104 : decode cX11_tellPlace 104 = .ok (.iconst 4, 1) := zrD zrw_cX11_tellPlace_91 (i := 13) (by decide +kernel) rfl
theorem dX11_tellPlace_105 : decode cX11_tellPlace 105 = .ok (.invokevirtual 274, 3) := zrD zrw_cX11_tellPlace_91 (i := 14) (by decide +kernel) rfl
theorem dX11_tellPlace_108 : decode cX11_tellPlace 108 = .ok (.aload_n 0, 1) := zrD zrw_cX11_tellPlace_91 (i := 17) (by decide +kernel) rfl
theorem dX11_tellPlace_109 : decode cX11_tellPlace 109 = .ok (.getfield 206, 3) := zrD zrw_cX11_tellPlace_91 (i := 18) (by decide +kernel) rfl
theorem dX11_tellPlace_112 : decode cX11_tellPlace 112 = .ok (.ifCond .le 4, 3) := zrD zrw_cX11_tellPlace_91 (i := 21) (by decide +kernel) rfl
theorem dX11_tellPlace_115 : decode cX11_tellPlace 115 = .ok (.return_, 1) := zrD zrw_cX11_tellPlace_91 (i := 24) (by decide +kernel) rfl
theorem dX11_tellPlace_116 : decode cX11_tellPlace 116 = .ok (.aload_n 0, 1) := zrD zrw_cX11_tellPlace_91 (i := 25) (by decide +kernel) rfl
theorem dX11_tellPlace_117 : decode cX11_tellPlace 117 = .ok (.dup, 1) := zrD zrw_cX11_tellPlace_91 (i := 26) (by decide +kernel) rfl
theorem dX11_tellPlace_118 : decode cX11_tellPlace 118 = .ok (.getfield 252, 3) := zrD zrw_cX11_tellPlace_91 (i := 27) (by decide +kernel) rfl
theorem dX11_tellPlace_121 : decode cX11_tellPlace 121 = .ok (.iconst 1, 1) := zrD zrw_cX11_tellPlace_91 (i := 30) (by decide +kernel) rfl
theorem dX11_tellPlace_122 : decode cX11_tellPlace 122 = .ok (.iadd, 1) := zrD zrw_cX11_tellPlace_91 (i := 31) (by decide +kernel) rfl
def zrk_cX11_tellPlace_123 : ByteArray := .mk #[181, 0, 252, 42, 180, 0, 40, 42, 180, 0, 252, 42, 180, 0, 30, 28, 47, 80, 42, 180, 0, 248, 153, 0, 18, 42, 180, 0, 43, 42]
theorem zrw_cX11_tellPlace_123 : zrW 123 cX11_tellPlace zrk_cX11_tellPlace_123 := by unfold zrW; decide +kernel
theorem dX11_tellPlace_123 : decode cX11_tellPlace 123 = .ok (.putfield 252, 3) := zrD zrw_cX11_tellPlace_123 (i := 0) (by decide +kernel) rfl
theorem dX11_tellPlace_126 : decode cX11_tellPlace 126 = .ok (.aload_n 0, 1) := zrD zrw_cX11_tellPlace_123 (i := 3) (by decide +kernel) rfl
theorem dX11_tellPlace_127 : decode cX11_tellPlace 127 = .ok (.getfield 40, 3) := zrD zrw_cX11_tellPlace_123 (i := 4) (by decide +kernel) rfl
theorem dX11_tellPlace_130 : decode cX11_tellPlace 130 = .ok (.aload_n 0, 1) := zrD zrw_cX11_tellPlace_123 (i := 7) (by decide +kernel) rfl
theorem dX11_tellPlace_131 : decode cX11_tellPlace 131 = .ok (.getfield 252, 3) := zrD zrw_cX11_tellPlace_123 (i := 8) (by decide +kernel) rfl
theorem dX11_tellPlace_134 : decode cX11_tellPlace 134 = .ok (.aload_n 0, 1) := zrD zrw_cX11_tellPlace_123 (i := 11) (by decide +kernel) rfl
theorem dX11_tellPlace_135 : decode cX11_tellPlace 135 = .ok (.getfield 30, 3) := zrD zrw_cX11_tellPlace_123 (i := 12) (by decide +kernel) rfl
theorem dX11_tellPlace_138 : decode cX11_tellPlace 138 = .ok (.iload_n 2, 1) := zrD zrw_cX11_tellPlace_123 (i := 15) (by decide +kernel) rfl
theorem dX11_tellPlace_139 : decode cX11_tellPlace 139 = .ok (.laload, 1) := zrD zrw_cX11_tellPlace_123 (i := 16) (by decide +kernel) rfl
theorem dX11_tellPlace_140 : decode cX11_tellPlace 140 = .ok (.lastore, 1) := zrD zrw_cX11_tellPlace_123 (i := 17) (by decide +kernel) rfl
theorem dX11_tellPlace_141 : decode cX11_tellPlace 141 = .ok (.aload_n 0, 1) := zrD zrw_cX11_tellPlace_123 (i := 18) (by decide +kernel) rfl
theorem dX11_tellPlace_142 : decode cX11_tellPlace 142 = .ok (.getfield 248, 3) := zrD zrw_cX11_tellPlace_123 (i := 19) (by decide +kernel) rfl
theorem dX11_tellPlace_145 : decode cX11_tellPlace 145 = .ok (.ifCond .eq 18, 3) := zrD zrw_cX11_tellPlace_123 (i := 22) (by decide +kernel) rfl
theorem dX11_tellPlace_148 : decode cX11_tellPlace 148 = .ok (.aload_n 0, 1) := zrD zrw_cX11_tellPlace_123 (i := 25) (by decide +kernel) rfl
theorem dX11_tellPlace_149 : decode cX11_tellPlace 149 = .ok (.getfield 43, 3) := zrD zrw_cX11_tellPlace_123 (i := 26) (by decide +kernel) rfl
theorem dX11_tellPlace_152 : decode cX11_tellPlace 152 = .ok (.aload_n 0, 1) := zrD zrw_cX11_tellPlace_123 (i := 29) (by decide +kernel) rfl
def zrk_cX11_tellPlace_153 : ByteArray := .mk #[180, 0, 239, 42, 180, 0, 252, 4, 96, 79, 177]
theorem zrw_cX11_tellPlace_153 : zrW 153 cX11_tellPlace zrk_cX11_tellPlace_153 := by unfold zrW; decide +kernel
theorem dX11_tellPlace_153 : decode cX11_tellPlace 153 = .ok (.getfield 239, 3) := zrD zrw_cX11_tellPlace_153 (i := 0) (by decide +kernel) rfl
theorem dX11_tellPlace_156 : decode cX11_tellPlace 156 = .ok (.aload_n 0, 1) := zrD zrw_cX11_tellPlace_153 (i := 3) (by decide +kernel) rfl
theorem dX11_tellPlace_157 : decode cX11_tellPlace 157 = .ok (.getfield 252, 3) := zrD zrw_cX11_tellPlace_153 (i := 4) (by decide +kernel) rfl
theorem dX11_tellPlace_160 : decode cX11_tellPlace 160 = .ok (.iconst 1, 1) := zrD zrw_cX11_tellPlace_153 (i := 7) (by decide +kernel) rfl
theorem dX11_tellPlace_161 : decode cX11_tellPlace 161 = .ok (.iadd, 1) := zrD zrw_cX11_tellPlace_153 (i := 8) (by decide +kernel) rfl
theorem dX11_tellPlace_162 : decode cX11_tellPlace 162 = .ok (.iastore, 1) := zrD zrw_cX11_tellPlace_153 (i := 9) (by decide +kernel) rfl
theorem dX11_tellPlace_163 : decode cX11_tellPlace 163 = .ok (.return_, 1) := zrD zrw_cX11_tellPlace_153 (i := 10) (by decide +kernel) rfl
def zrk_cX11_tellLaw_0 : ByteArray := .mk #[42, 8, 182, 1, 18, 42, 180, 0, 242, 61, 3, 62, 42, 180, 0, 206, 154, 0, 113, 42, 16, 30, 182, 0, 224, 153, 0, 104, 29, 7]
theorem zrw_cX11_tellLaw_0 : zrW 0 cX11_tellLaw zrk_cX11_tellLaw_0 := by unfold zrW; decide +kernel
theorem dX11_tellLaw_0 : decode cX11_tellLaw 0 = .ok (.aload_n 0, 1) := zrD zrw_cX11_tellLaw_0 (i := 0) (by decide +kernel) rfl
theorem dX11_tellLaw_1 : decode cX11_tellLaw 1 = .ok (.iconst 5, 1) := zrD zrw_cX11_tellLaw_0 (i := 1) (by decide +kernel) rfl
theorem dX11_tellLaw_2 : decode cX11_tellLaw 2 = .ok (.invokevirtual 274, 3) := zrD zrw_cX11_tellLaw_0 (i := 2) (by decide +kernel) rfl
theorem dX11_tellLaw_5 : decode cX11_tellLaw 5 = .ok (.aload_n 0, 1) := zrD zrw_cX11_tellLaw_0 (i := 5) (by decide +kernel) rfl
theorem dX11_tellLaw_6 : decode cX11_tellLaw 6 = .ok (.getfield 242, 3) := zrD zrw_cX11_tellLaw_0 (i := 6) (by decide +kernel) rfl
theorem dX11_tellLaw_9 : decode cX11_tellLaw 9 = .ok (.istore_n 2, 1) := zrD zrw_cX11_tellLaw_0 (i := 9) (by decide +kernel) rfl
theorem dX11_tellLaw_10 : decode cX11_tellLaw 10 = .ok (.iconst 0, 1) := zrD zrw_cX11_tellLaw_0 (i := 10) (by decide +kernel) rfl
theorem dX11_tellLaw_11 : decode cX11_tellLaw 11 = .ok (.istore_n 3, 1) := zrD zrw_cX11_tellLaw_0 (i := 11) (by decide +kernel) rfl
theorem dX11_tellLaw_12 : decode cX11_tellLaw 12 = .ok (.aload_n 0, 1) := zrD zrw_cX11_tellLaw_0 (i := 12) (by decide +kernel) rfl
theorem dX11_tellLaw_13 : decode cX11_tellLaw 13 = .ok (.getfield 206, 3) := zrD zrw_cX11_tellLaw_0 (i := 13) (by decide +kernel) rfl
theorem dX11_tellLaw_16 : decode cX11_tellLaw 16 = .ok (.ifCond .ne 113, 3) := zrD zrw_cX11_tellLaw_0 (i := 16) (by decide +kernel) rfl
theorem dX11_tellLaw_19 : decode cX11_tellLaw 19 = .ok (.aload_n 0, 1) := zrD zrw_cX11_tellLaw_0 (i := 19) (by decide +kernel) rfl
theorem dX11_tellLaw_20 : decode cX11_tellLaw 20 = .ok (.bipush 30, 2) := zrD zrw_cX11_tellLaw_0 (i := 20) (by decide +kernel) rfl
theorem dX11_tellLaw_22 : decode cX11_tellLaw 22 = .ok (.invokevirtual 224, 3) := zrD zrw_cX11_tellLaw_0 (i := 22) (by decide +kernel) rfl
theorem dX11_tellLaw_25 : decode cX11_tellLaw 25 = .ok (.ifCond .eq 104, 3) := zrD zrw_cX11_tellLaw_0 (i := 25) (by decide +kernel) rfl
theorem dX11_tellLaw_28 : decode cX11_tellLaw 28 = .ok (.iload_n 3, 1) := zrD zrw_cX11_tellLaw_0 (i := 28) (by decide +kernel) rfl
theorem dX11_tellLaw_29 : decode cX11_tellLaw 29 = .ok (.iconst 4, 1) := zrD zrw_cX11_tellLaw_0 (i := 29) (by decide +kernel) rfl
def zrk_cX11_tellLaw_30 : ByteArray := .mk #[160, 0, 8, 42, 5, 182, 0, 221, 42, 180, 0, 206, 158, 0, 4, 177, 132, 3, 1, 42, 182, 0, 227, 42, 180, 0, 76, 42, 180, 0, 242, 4]
theorem zrw_cX11_tellLaw_30 : zrW 30 cX11_tellLaw zrk_cX11_tellLaw_30 := by unfold zrW; decide +kernel
theorem dX11_tellLaw_30 : decode cX11_tellLaw 30 = .ok (.if_icmp .ne 8, 3) := zrD zrw_cX11_tellLaw_30 (i := 0) (by decide +kernel) rfl
theorem dX11_tellLaw_33 : decode cX11_tellLaw 33 = .ok (.aload_n 0, 1) := zrD zrw_cX11_tellLaw_30 (i := 3) (by decide +kernel) rfl
theorem dX11_tellLaw_34 : decode cX11_tellLaw 34 = .ok (.iconst 2, 1) := zrD zrw_cX11_tellLaw_30 (i := 4) (by decide +kernel) rfl
theorem dX11_tellLaw_35 : decode cX11_tellLaw 35 = .ok (.invokevirtual 221, 3) := zrD zrw_cX11_tellLaw_30 (i := 5) (by decide +kernel) rfl
theorem dX11_tellLaw_38 : decode cX11_tellLaw 38 = .ok (.aload_n 0, 1) := zrD zrw_cX11_tellLaw_30 (i := 8) (by decide +kernel) rfl
theorem dX11_tellLaw_39 : decode cX11_tellLaw 39 = .ok (.getfield 206, 3) := zrD zrw_cX11_tellLaw_30 (i := 9) (by decide +kernel) rfl
theorem dX11_tellLaw_42 : decode cX11_tellLaw 42 = .ok (.ifCond .le 4, 3) := zrD zrw_cX11_tellLaw_30 (i := 12) (by decide +kernel) rfl
theorem dX11_tellLaw_45 : decode cX11_tellLaw 45 = .ok (.return_, 1) := zrD zrw_cX11_tellLaw_30 (i := 15) (by decide +kernel) rfl
theorem dX11_tellLaw_46 : decode cX11_tellLaw 46 = .ok (.iinc 3 1, 3) := zrD zrw_cX11_tellLaw_30 (i := 16) (by decide +kernel) rfl
theorem dX11_tellLaw_49 : decode cX11_tellLaw 49 = .ok (.aload_n 0, 1) := zrD zrw_cX11_tellLaw_30 (i := 19) (by decide +kernel) rfl
theorem dX11_tellLaw_50 : decode cX11_tellLaw 50 = .ok (.invokevirtual 227, 3) := zrD zrw_cX11_tellLaw_30 (i := 20) (by decide +kernel) rfl
theorem dX11_tellLaw_53 : decode cX11_tellLaw 53 = .ok (.aload_n 0, 1) := zrD zrw_cX11_tellLaw_30 (i := 23) (by decide +kernel) rfl
theorem dX11_tellLaw_54 : decode cX11_tellLaw 54 = .ok (.getfield 76, 3) := zrD zrw_cX11_tellLaw_30 (i := 24) (by decide +kernel) rfl
theorem dX11_tellLaw_57 : decode cX11_tellLaw 57 = .ok (.aload_n 0, 1) := zrD zrw_cX11_tellLaw_30 (i := 27) (by decide +kernel) rfl
theorem dX11_tellLaw_58 : decode cX11_tellLaw 58 = .ok (.getfield 242, 3) := zrD zrw_cX11_tellLaw_30 (i := 28) (by decide +kernel) rfl
theorem dX11_tellLaw_61 : decode cX11_tellLaw 61 = .ok (.iconst 1, 1) := zrD zrw_cX11_tellLaw_30 (i := 31) (by decide +kernel) rfl
def zrk_cX11_tellLaw_62 : ByteArray := .mk #[84, 42, 180, 0, 80, 42, 180, 0, 242, 42, 180, 0, 245, 79, 42, 182, 1, 35, 42, 16, 13, 182, 1, 18, 42, 180, 0, 83, 42, 180, 0, 242]
theorem zrw_cX11_tellLaw_62 : zrW 62 cX11_tellLaw zrk_cX11_tellLaw_62 := by unfold zrW; decide +kernel
theorem dX11_tellLaw_62 : decode cX11_tellLaw 62 = .ok (.bastore, 1) := zrD zrw_cX11_tellLaw_62 (i := 0) (by decide +kernel) rfl
theorem dX11_tellLaw_63 : decode cX11_tellLaw 63 = .ok (.aload_n 0, 1) := zrD zrw_cX11_tellLaw_62 (i := 1) (by decide +kernel) rfl
theorem dX11_tellLaw_64 : decode cX11_tellLaw 64 = .ok (.getfield 80, 3) := zrD zrw_cX11_tellLaw_62 (i := 2) (by decide +kernel) rfl
theorem dX11_tellLaw_67 : decode cX11_tellLaw 67 = .ok (.aload_n 0, 1) := zrD zrw_cX11_tellLaw_62 (i := 5) (by decide +kernel) rfl
theorem dX11_tellLaw_68 : decode cX11_tellLaw 68 = .ok (.getfield 242, 3) := zrD zrw_cX11_tellLaw_62 (i := 6) (by decide +kernel) rfl
theorem dX11_tellLaw_71 : decode cX11_tellLaw 71 = .ok (.aload_n 0, 1) := zrD zrw_cX11_tellLaw_62 (i := 9) (by decide +kernel) rfl
theorem dX11_tellLaw_72 : decode cX11_tellLaw 72 = .ok (.getfield 245, 3) := zrD zrw_cX11_tellLaw_62 (i := 10) (by decide +kernel) rfl
theorem dX11_tellLaw_75 : decode cX11_tellLaw 75 = .ok (.iastore, 1) := zrD zrw_cX11_tellLaw_62 (i := 13) (by decide +kernel) rfl
theorem dX11_tellLaw_76 : decode cX11_tellLaw 76 = .ok (.aload_n 0, 1) := zrD zrw_cX11_tellLaw_62 (i := 14) (by decide +kernel) rfl
theorem dX11_tellLaw_77 : decode cX11_tellLaw 77 = .ok (.invokevirtual 291, 3) := zrD zrw_cX11_tellLaw_62 (i := 15) (by decide +kernel) rfl
theorem dX11_tellLaw_80 : decode cX11_tellLaw 80 = .ok (.aload_n 0, 1) := zrD zrw_cX11_tellLaw_62 (i := 18) (by decide +kernel) rfl
theorem dX11_tellLaw_81 : decode cX11_tellLaw 81 = .ok (.bipush 13, 2) := zrD zrw_cX11_tellLaw_62 (i := 19) (by decide +kernel) rfl
theorem dX11_tellLaw_83 : decode cX11_tellLaw 83 = .ok (.invokevirtual 274, 3) := zrD zrw_cX11_tellLaw_62 (i := 21) (by decide +kernel) rfl
theorem dX11_tellLaw_86 : decode cX11_tellLaw 86 = .ok (.aload_n 0, 1) := zrD zrw_cX11_tellLaw_62 (i := 24) (by decide +kernel) rfl
theorem dX11_tellLaw_87 : decode cX11_tellLaw 87 = .ok (.getfield 83, 3) := zrD zrw_cX11_tellLaw_62 (i := 25) (by decide +kernel) rfl
theorem dX11_tellLaw_90 : decode cX11_tellLaw 90 = .ok (.aload_n 0, 1) := zrD zrw_cX11_tellLaw_62 (i := 28) (by decide +kernel) rfl
theorem dX11_tellLaw_91 : decode cX11_tellLaw 91 = .ok (.getfield 242, 3) := zrD zrw_cX11_tellLaw_62 (i := 29) (by decide +kernel) rfl
def zrk_cX11_tellLaw_94 : ByteArray := .mk #[42, 180, 0, 245, 79, 42, 180, 0, 206, 154, 0, 7, 42, 182, 1, 35, 42, 16, 31, 182, 1, 18, 42, 182, 1, 38, 42, 16, 32, 182, 1, 18]
theorem zrw_cX11_tellLaw_94 : zrW 94 cX11_tellLaw zrk_cX11_tellLaw_94 := by unfold zrW; decide +kernel
theorem dX11_tellLaw_94 : decode cX11_tellLaw 94 = .ok (.aload_n 0, 1) := zrD zrw_cX11_tellLaw_94 (i := 0) (by decide +kernel) rfl
theorem dX11_tellLaw_95 : decode cX11_tellLaw 95 = .ok (.getfield 245, 3) := zrD zrw_cX11_tellLaw_94 (i := 1) (by decide +kernel) rfl
theorem dX11_tellLaw_98 : decode cX11_tellLaw 98 = .ok (.iastore, 1) := zrD zrw_cX11_tellLaw_94 (i := 4) (by decide +kernel) rfl
theorem dX11_tellLaw_99 : decode cX11_tellLaw 99 = .ok (.aload_n 0, 1) := zrD zrw_cX11_tellLaw_94 (i := 5) (by decide +kernel) rfl
theorem dX11_tellLaw_100 : decode cX11_tellLaw 100 = .ok (.getfield 206, 3) := zrD zrw_cX11_tellLaw_94 (i := 6) (by decide +kernel) rfl
theorem dX11_tellLaw_103 : decode cX11_tellLaw 103 = .ok (.ifCond .ne 7, 3) := zrD zrw_cX11_tellLaw_94 (i := 9) (by decide +kernel) rfl
theorem dX11_tellLaw_106 : decode cX11_tellLaw 106 = .ok (.aload_n 0, 1) := zrD zrw_cX11_tellLaw_94 (i := 12) (by decide +kernel) rfl
theorem dX11_tellLaw_107 : decode cX11_tellLaw 107 = .ok (.invokevirtual 291, 3) := zrD zrw_cX11_tellLaw_94 (i := 13) (by decide +kernel) rfl
theorem dX11_tellLaw_110 : decode cX11_tellLaw 110 = .ok (.aload_n 0, 1) := zrD zrw_cX11_tellLaw_94 (i := 16) (by decide +kernel) rfl
theorem dX11_tellLaw_111 : decode cX11_tellLaw 111 = .ok (.bipush 31, 2) := zrD zrw_cX11_tellLaw_94 (i := 17) (by decide +kernel) rfl
theorem dX11_tellLaw_113 : decode cX11_tellLaw 113 = .ok (.invokevirtual 274, 3) := zrD zrw_cX11_tellLaw_94 (i := 19) (by decide +kernel) rfl
theorem dX11_tellLaw_116 : decode cX11_tellLaw 116 = .ok (.aload_n 0, 1) := zrD zrw_cX11_tellLaw_94 (i := 22) (by decide +kernel) rfl
theorem dX11_tellLaw_117 : decode cX11_tellLaw 117 = .ok (.invokevirtual 294, 3) := zrD zrw_cX11_tellLaw_94 (i := 23) (by decide +kernel) rfl
theorem dX11_tellLaw_120 : decode cX11_tellLaw 120 = .ok (.aload_n 0, 1) := zrD zrw_cX11_tellLaw_94 (i := 26) (by decide +kernel) rfl
theorem dX11_tellLaw_121 : decode cX11_tellLaw 121 = .ok (.bipush 32, 2) := zrD zrw_cX11_tellLaw_94 (i := 27) (by decide +kernel) rfl
theorem dX11_tellLaw_123 : decode cX11_tellLaw 123 = .ok (.invokevirtual 274, 3) := zrD zrw_cX11_tellLaw_94 (i := 29) (by decide +kernel) rfl
def zrk_cX11_tellLaw_126 : ByteArray := .mk #[167, 255, 142, 42, 180, 0, 76, 42, 180, 0, 242, 3, 84, 42, 182, 1, 38, 42, 7, 182, 1, 18, 42, 180, 0, 206, 158, 0, 4, 177, 42]
theorem zrw_cX11_tellLaw_126 : zrW 126 cX11_tellLaw zrk_cX11_tellLaw_126 := by unfold zrW; decide +kernel
theorem dX11_tellLaw_126 : decode cX11_tellLaw 126 = .ok (.goto (-114), 3) := zrD zrw_cX11_tellLaw_126 (i := 0) (by decide +kernel) rfl
theorem dX11_tellLaw_129 : decode cX11_tellLaw 129 = .ok (.aload_n 0, 1) := zrD zrw_cX11_tellLaw_126 (i := 3) (by decide +kernel) rfl
theorem dX11_tellLaw_130 : decode cX11_tellLaw 130 = .ok (.getfield 76, 3) := zrD zrw_cX11_tellLaw_126 (i := 4) (by decide +kernel) rfl
theorem dX11_tellLaw_133 : decode cX11_tellLaw 133 = .ok (.aload_n 0, 1) := zrD zrw_cX11_tellLaw_126 (i := 7) (by decide +kernel) rfl
theorem dX11_tellLaw_134 : decode cX11_tellLaw 134 = .ok (.getfield 242, 3) := zrD zrw_cX11_tellLaw_126 (i := 8) (by decide +kernel) rfl
theorem dX11_tellLaw_137 : decode cX11_tellLaw 137 = .ok (.iconst 0, 1) := zrD zrw_cX11_tellLaw_126 (i := 11) (by decide +kernel) rfl
theorem dX11_tellLaw_138 : decode cX11_tellLaw 138 = .ok (.bastore, 1) := zrD zrw_cX11_tellLaw_126 (i := 12) (by decide +kernel) rfl
theorem dX11_tellLaw_139 : decode cX11_tellLaw 139 = .ok (.aload_n 0, 1) := zrD zrw_cX11_tellLaw_126 (i := 13) (by decide +kernel) rfl
theorem dX11_tellLaw_140 : decode cX11_tellLaw 140 = .ok (.invokevirtual 294, 3) := zrD zrw_cX11_tellLaw_126 (i := 14) (by decide +kernel) rfl
theorem dX11_tellLaw_143 : decode cX11_tellLaw 143 = .ok (.aload_n 0, 1) := zrD zrw_cX11_tellLaw_126 (i := 17) (by decide +kernel) rfl
theorem dX11_tellLaw_144 : decode cX11_tellLaw 144 = .ok (.iconst 4, 1) := zrD zrw_cX11_tellLaw_126 (i := 18) (by decide +kernel) rfl
theorem dX11_tellLaw_145 : decode cX11_tellLaw 145 = .ok (.invokevirtual 274, 3) := zrD zrw_cX11_tellLaw_126 (i := 19) (by decide +kernel) rfl
theorem dX11_tellLaw_148 : decode cX11_tellLaw 148 = .ok (.aload_n 0, 1) := zrD zrw_cX11_tellLaw_126 (i := 22) (by decide +kernel) rfl
theorem dX11_tellLaw_149 : decode cX11_tellLaw 149 = .ok (.getfield 206, 3) := zrD zrw_cX11_tellLaw_126 (i := 23) (by decide +kernel) rfl
theorem dX11_tellLaw_152 : decode cX11_tellLaw 152 = .ok (.ifCond .le 4, 3) := zrD zrw_cX11_tellLaw_126 (i := 26) (by decide +kernel) rfl
theorem dX11_tellLaw_155 : decode cX11_tellLaw 155 = .ok (.return_, 1) := zrD zrw_cX11_tellLaw_126 (i := 29) (by decide +kernel) rfl
theorem dX11_tellLaw_156 : decode cX11_tellLaw 156 = .ok (.aload_n 0, 1) := zrD zrw_cX11_tellLaw_126 (i := 30) (by decide +kernel) rfl
def zrk_cX11_tellLaw_157 : ByteArray := .mk #[180, 0, 70, 8, 42, 180, 0, 239, 104, 27, 96, 28, 79, 42, 180, 0, 73, 8, 42, 180, 0, 239, 104, 27, 96, 42, 180, 0, 242, 79, 177]
theorem zrw_cX11_tellLaw_157 : zrW 157 cX11_tellLaw zrk_cX11_tellLaw_157 := by unfold zrW; decide +kernel
theorem dX11_tellLaw_157 : decode cX11_tellLaw 157 = .ok (.getfield 70, 3) := zrD zrw_cX11_tellLaw_157 (i := 0) (by decide +kernel) rfl
theorem dX11_tellLaw_160 : decode cX11_tellLaw 160 = .ok (.iconst 5, 1) := zrD zrw_cX11_tellLaw_157 (i := 3) (by decide +kernel) rfl
theorem dX11_tellLaw_161 : decode cX11_tellLaw 161 = .ok (.aload_n 0, 1) := zrD zrw_cX11_tellLaw_157 (i := 4) (by decide +kernel) rfl
theorem dX11_tellLaw_162 : decode cX11_tellLaw 162 = .ok (.getfield 239, 3) := zrD zrw_cX11_tellLaw_157 (i := 5) (by decide +kernel) rfl
theorem dX11_tellLaw_165 : decode cX11_tellLaw 165 = .ok (.imul, 1) := zrD zrw_cX11_tellLaw_157 (i := 8) (by decide +kernel) rfl
theorem dX11_tellLaw_166 : decode cX11_tellLaw 166 = .ok (.iload_n 1, 1) := zrD zrw_cX11_tellLaw_157 (i := 9) (by decide +kernel) rfl
theorem dX11_tellLaw_167 : decode cX11_tellLaw 167 = .ok (.iadd, 1) := zrD zrw_cX11_tellLaw_157 (i := 10) (by decide +kernel) rfl
theorem dX11_tellLaw_168 : decode cX11_tellLaw 168 = .ok (.iload_n 2, 1) := zrD zrw_cX11_tellLaw_157 (i := 11) (by decide +kernel) rfl
theorem dX11_tellLaw_169 : decode cX11_tellLaw 169 = .ok (.iastore, 1) := zrD zrw_cX11_tellLaw_157 (i := 12) (by decide +kernel) rfl
theorem dX11_tellLaw_170 : decode cX11_tellLaw 170 = .ok (.aload_n 0, 1) := zrD zrw_cX11_tellLaw_157 (i := 13) (by decide +kernel) rfl
theorem dX11_tellLaw_171 : decode cX11_tellLaw 171 = .ok (.getfield 73, 3) := zrD zrw_cX11_tellLaw_157 (i := 14) (by decide +kernel) rfl
theorem dX11_tellLaw_174 : decode cX11_tellLaw 174 = .ok (.iconst 5, 1) := zrD zrw_cX11_tellLaw_157 (i := 17) (by decide +kernel) rfl
theorem dX11_tellLaw_175 : decode cX11_tellLaw 175 = .ok (.aload_n 0, 1) := zrD zrw_cX11_tellLaw_157 (i := 18) (by decide +kernel) rfl
theorem dX11_tellLaw_176 : decode cX11_tellLaw 176 = .ok (.getfield 239, 3) := zrD zrw_cX11_tellLaw_157 (i := 19) (by decide +kernel) rfl
theorem dX11_tellLaw_179 : decode cX11_tellLaw 179 = .ok (.imul, 1) := zrD zrw_cX11_tellLaw_157 (i := 22) (by decide +kernel) rfl
theorem dX11_tellLaw_180 : decode cX11_tellLaw 180 = .ok (.iload_n 1, 1) := zrD zrw_cX11_tellLaw_157 (i := 23) (by decide +kernel) rfl
theorem dX11_tellLaw_181 : decode cX11_tellLaw 181 = .ok (.iadd, 1) := zrD zrw_cX11_tellLaw_157 (i := 24) (by decide +kernel) rfl
theorem dX11_tellLaw_182 : decode cX11_tellLaw 182 = .ok (.aload_n 0, 1) := zrD zrw_cX11_tellLaw_157 (i := 25) (by decide +kernel) rfl
theorem dX11_tellLaw_183 : decode cX11_tellLaw 183 = .ok (.getfield 242, 3) := zrD zrw_cX11_tellLaw_157 (i := 26) (by decide +kernel) rfl
theorem dX11_tellLaw_186 : decode cX11_tellLaw 186 = .ok (.iastore, 1) := zrD zrw_cX11_tellLaw_157 (i := 29) (by decide +kernel) rfl
theorem dX11_tellLaw_187 : decode cX11_tellLaw 187 = .ok (.return_, 1) := zrD zrw_cX11_tellLaw_157 (i := 30) (by decide +kernel) rfl
def zrk_cX11_term_0 : ByteArray := .mk #[42, 180, 0, 86, 42, 180, 0, 242, 42, 180, 0, 245, 79, 42, 180, 0, 206, 154, 0, 7, 42, 182, 1, 35, 42, 180, 0, 89, 42, 180, 0, 242]
theorem zrw_cX11_term_0 : zrW 0 cX11_term zrk_cX11_term_0 := by unfold zrW; decide +kernel
theorem dX11_term_0 : decode cX11_term 0 = .ok (.aload_n 0, 1) := zrD zrw_cX11_term_0 (i := 0) (by decide +kernel) rfl
theorem dX11_term_1 : decode cX11_term 1 = .ok (.getfield 86, 3) := zrD zrw_cX11_term_0 (i := 1) (by decide +kernel) rfl
theorem dX11_term_4 : decode cX11_term 4 = .ok (.aload_n 0, 1) := zrD zrw_cX11_term_0 (i := 4) (by decide +kernel) rfl
theorem dX11_term_5 : decode cX11_term 5 = .ok (.getfield 242, 3) := zrD zrw_cX11_term_0 (i := 5) (by decide +kernel) rfl
theorem dX11_term_8 : decode cX11_term 8 = .ok (.aload_n 0, 1) := zrD zrw_cX11_term_0 (i := 8) (by decide +kernel) rfl
theorem dX11_term_9 : decode cX11_term 9 = .ok (.getfield 245, 3) := zrD zrw_cX11_term_0 (i := 9) (by decide +kernel) rfl
theorem dX11_term_12 : decode cX11_term 12 = .ok (.iastore, 1) := zrD zrw_cX11_term_0 (i := 12) (by decide +kernel) rfl
theorem dX11_term_13 : decode cX11_term 13 = .ok (.aload_n 0, 1) := zrD zrw_cX11_term_0 (i := 13) (by decide +kernel) rfl
theorem dX11_term_14 : decode cX11_term 14 = .ok (.getfield 206, 3) := zrD zrw_cX11_term_0 (i := 14) (by decide +kernel) rfl
theorem dX11_term_17 : decode cX11_term 17 = .ok (.ifCond .ne 7, 3) := zrD zrw_cX11_term_0 (i := 17) (by decide +kernel) rfl
theorem dX11_term_20 : decode cX11_term 20 = .ok (.aload_n 0, 1) := zrD zrw_cX11_term_0 (i := 20) (by decide +kernel) rfl
theorem dX11_term_21 : decode cX11_term 21 = .ok (.invokevirtual 291, 3) := zrD zrw_cX11_term_0 (i := 21) (by decide +kernel) rfl
theorem dX11_term_24 : decode cX11_term 24 = .ok (.aload_n 0, 1) := zrD zrw_cX11_term_0 (i := 24) (by decide +kernel) rfl
theorem dX11_term_25 : decode cX11_term 25 = .ok (.getfield 89, 3) := zrD zrw_cX11_term_0 (i := 25) (by decide +kernel) rfl
theorem dX11_term_28 : decode cX11_term 28 = .ok (.aload_n 0, 1) := zrD zrw_cX11_term_0 (i := 28) (by decide +kernel) rfl
theorem dX11_term_29 : decode cX11_term 29 = .ok (.getfield 242, 3) := zrD zrw_cX11_term_0 (i := 29) (by decide +kernel) rfl
def zrk_cX11_term_32 : ByteArray := .mk #[42, 180, 0, 245, 79, 42, 89, 180, 0, 242, 4, 96, 181, 0, 242, 177]
theorem zrw_cX11_term_32 : zrW 32 cX11_term zrk_cX11_term_32 := by unfold zrW; decide +kernel
theorem dX11_term_32 : decode cX11_term 32 = .ok (.aload_n 0, 1) := zrD zrw_cX11_term_32 (i := 0) (by decide +kernel) rfl
theorem dX11_term_33 : decode cX11_term 33 = .ok (.getfield 245, 3) := zrD zrw_cX11_term_32 (i := 1) (by decide +kernel) rfl
theorem dX11_term_36 : decode cX11_term 36 = .ok (.iastore, 1) := zrD zrw_cX11_term_32 (i := 4) (by decide +kernel) rfl
theorem dX11_term_37 : decode cX11_term 37 = .ok (.aload_n 0, 1) := zrD zrw_cX11_term_32 (i := 5) (by decide +kernel) rfl
theorem dX11_term_38 : decode cX11_term 38 = .ok (.dup, 1) := zrD zrw_cX11_term_32 (i := 6) (by decide +kernel) rfl
theorem dX11_term_39 : decode cX11_term 39 = .ok (.getfield 242, 3) := zrD zrw_cX11_term_32 (i := 7) (by decide +kernel) rfl
theorem dX11_term_42 : decode cX11_term 42 = .ok (.iconst 1, 1) := zrD zrw_cX11_term_32 (i := 10) (by decide +kernel) rfl
theorem dX11_term_43 : decode cX11_term 43 = .ok (.iadd, 1) := zrD zrw_cX11_term_32 (i := 11) (by decide +kernel) rfl
theorem dX11_term_44 : decode cX11_term 44 = .ok (.putfield 242, 3) := zrD zrw_cX11_term_32 (i := 12) (by decide +kernel) rfl
theorem dX11_term_47 : decode cX11_term 47 = .ok (.return_, 1) := zrD zrw_cX11_term_32 (i := 15) (by decide +kernel) rfl
def zrk_cX11_emit_0 : ByteArray := .mk #[42, 180, 0, 92, 42, 180, 0, 245, 27, 79, 42, 180, 0, 95, 42, 180, 0, 245, 28, 79, 42, 89, 180, 0, 245, 4, 96, 181, 0, 245, 177]
theorem zrw_cX11_emit_0 : zrW 0 cX11_emit zrk_cX11_emit_0 := by unfold zrW; decide +kernel
theorem dX11_emit_0 : decode cX11_emit 0 = .ok (.aload_n 0, 1) := zrD zrw_cX11_emit_0 (i := 0) (by decide +kernel) rfl
theorem dX11_emit_1 : decode cX11_emit 1 = .ok (.getfield 92, 3) := zrD zrw_cX11_emit_0 (i := 1) (by decide +kernel) rfl
theorem dX11_emit_4 : decode cX11_emit 4 = .ok (.aload_n 0, 1) := zrD zrw_cX11_emit_0 (i := 4) (by decide +kernel) rfl
theorem dX11_emit_5 : decode cX11_emit 5 = .ok (.getfield 245, 3) := zrD zrw_cX11_emit_0 (i := 5) (by decide +kernel) rfl
theorem dX11_emit_8 : decode cX11_emit 8 = .ok (.iload_n 1, 1) := zrD zrw_cX11_emit_0 (i := 8) (by decide +kernel) rfl
theorem dX11_emit_9 : decode cX11_emit 9 = .ok (.iastore, 1) := zrD zrw_cX11_emit_0 (i := 9) (by decide +kernel) rfl
theorem dX11_emit_10 : decode cX11_emit 10 = .ok (.aload_n 0, 1) := zrD zrw_cX11_emit_0 (i := 10) (by decide +kernel) rfl
theorem dX11_emit_11 : decode cX11_emit 11 = .ok (.getfield 95, 3) := zrD zrw_cX11_emit_0 (i := 11) (by decide +kernel) rfl
theorem dX11_emit_14 : decode cX11_emit 14 = .ok (.aload_n 0, 1) := zrD zrw_cX11_emit_0 (i := 14) (by decide +kernel) rfl
theorem dX11_emit_15 : decode cX11_emit 15 = .ok (.getfield 245, 3) := zrD zrw_cX11_emit_0 (i := 15) (by decide +kernel) rfl
theorem dX11_emit_18 : decode cX11_emit 18 = .ok (.iload_n 2, 1) := zrD zrw_cX11_emit_0 (i := 18) (by decide +kernel) rfl
theorem dX11_emit_19 : decode cX11_emit 19 = .ok (.iastore, 1) := zrD zrw_cX11_emit_0 (i := 19) (by decide +kernel) rfl
theorem dX11_emit_20 : decode cX11_emit 20 = .ok (.aload_n 0, 1) := zrD zrw_cX11_emit_0 (i := 20) (by decide +kernel) rfl
theorem dX11_emit_21 : decode cX11_emit 21 = .ok (.dup, 1) := zrD zrw_cX11_emit_0 (i := 21) (by decide +kernel) rfl
theorem dX11_emit_22 : decode cX11_emit 22 = .ok (.getfield 245, 3) := zrD zrw_cX11_emit_0 (i := 22) (by decide +kernel) rfl
theorem dX11_emit_25 : decode cX11_emit 25 = .ok (.iconst 1, 1) := zrD zrw_cX11_emit_0 (i := 25) (by decide +kernel) rfl
theorem dX11_emit_26 : decode cX11_emit 26 = .ok (.iadd, 1) := zrD zrw_cX11_emit_0 (i := 26) (by decide +kernel) rfl
theorem dX11_emit_27 : decode cX11_emit 27 = .ok (.putfield 245, 3) := zrD zrw_cX11_emit_0 (i := 27) (by decide +kernel) rfl
theorem dX11_emit_30 : decode cX11_emit 30 = .ok (.return_, 1) := zrD zrw_cX11_emit_0 (i := 30) (by decide +kernel) rfl
def zrk_cX11_comesOut_0 : ByteArray := .mk #[42, 180, 1, 41, 158, 0, 87, 42, 180, 0, 98, 42, 180, 1, 41, 4, 100, 46, 61, 28, 16, 6, 159, 0, 19, 27, 153, 0, 16, 28, 16, 8]
theorem zrw_cX11_comesOut_0 : zrW 0 cX11_comesOut zrk_cX11_comesOut_0 := by unfold zrW; decide +kernel
theorem dX11_comesOut_0 : decode cX11_comesOut 0 = .ok (.aload_n 0, 1) := zrD zrw_cX11_comesOut_0 (i := 0) (by decide +kernel) rfl
theorem dX11_comesOut_1 : decode cX11_comesOut 1 = .ok (.getfield 297, 3) := zrD zrw_cX11_comesOut_0 (i := 1) (by decide +kernel) rfl
theorem dX11_comesOut_4 : decode cX11_comesOut 4 = .ok (.ifCond .le 87, 3) := zrD zrw_cX11_comesOut_0 (i := 4) (by decide +kernel) rfl
theorem dX11_comesOut_7 : decode cX11_comesOut 7 = .ok (.aload_n 0, 1) := zrD zrw_cX11_comesOut_0 (i := 7) (by decide +kernel) rfl
theorem dX11_comesOut_8 : decode cX11_comesOut 8 = .ok (.getfield 98, 3) := zrD zrw_cX11_comesOut_0 (i := 8) (by decide +kernel) rfl
theorem dX11_comesOut_11 : decode cX11_comesOut 11 = .ok (.aload_n 0, 1) := zrD zrw_cX11_comesOut_0 (i := 11) (by decide +kernel) rfl
theorem dX11_comesOut_12 : decode cX11_comesOut 12 = .ok (.getfield 297, 3) := zrD zrw_cX11_comesOut_0 (i := 12) (by decide +kernel) rfl
theorem dX11_comesOut_15 : decode cX11_comesOut 15 = .ok (.iconst 1, 1) := zrD zrw_cX11_comesOut_0 (i := 15) (by decide +kernel) rfl
theorem dX11_comesOut_16 : decode cX11_comesOut 16 = .ok (.isub, 1) := zrD zrw_cX11_comesOut_0 (i := 16) (by decide +kernel) rfl
theorem dX11_comesOut_17 : decode cX11_comesOut 17 = .ok (.iaload, 1) := zrD zrw_cX11_comesOut_0 (i := 17) (by decide +kernel) rfl
theorem dX11_comesOut_18 : decode cX11_comesOut 18 = .ok (.istore_n 2, 1) := zrD zrw_cX11_comesOut_0 (i := 18) (by decide +kernel) rfl
theorem dX11_comesOut_19 : decode cX11_comesOut 19 = .ok (.iload_n 2, 1) := zrD zrw_cX11_comesOut_0 (i := 19) (by decide +kernel) rfl
theorem dX11_comesOut_20 : decode cX11_comesOut 20 = .ok (.bipush 6, 2) := zrD zrw_cX11_comesOut_0 (i := 20) (by decide +kernel) rfl
theorem dX11_comesOut_22 : decode cX11_comesOut 22 = .ok (.if_icmp .eq 19, 3) := zrD zrw_cX11_comesOut_0 (i := 22) (by decide +kernel) rfl
theorem dX11_comesOut_25 : decode cX11_comesOut 25 = .ok (.iload_n 1, 1) := zrD zrw_cX11_comesOut_0 (i := 25) (by decide +kernel) rfl
theorem dX11_comesOut_26 : decode cX11_comesOut 26 = .ok (.ifCond .eq 16, 3) := zrD zrw_cX11_comesOut_0 (i := 26) (by decide +kernel) rfl
theorem dX11_comesOut_29 : decode cX11_comesOut 29 = .ok (.iload_n 2, 1) := zrD zrw_cX11_comesOut_0 (i := 29) (by decide +kernel) rfl
theorem dX11_comesOut_30 : decode cX11_comesOut 30 = .ok (.bipush 8, 2) := zrD zrw_cX11_comesOut_0 (i := 30) (by decide +kernel) rfl
def zrk_cX11_comesOut_32 : ByteArray := .mk #[159, 0, 9, 28, 16, 9, 160, 0, 4, 177, 42, 89, 180, 1, 41, 4, 100, 181, 1, 41, 42, 28, 16, 8, 160, 0, 7, 5, 167, 0, 24, 28]
theorem zrw_cX11_comesOut_32 : zrW 32 cX11_comesOut zrk_cX11_comesOut_32 := by unfold zrW; decide +kernel
theorem dX11_comesOut_32 : decode cX11_comesOut 32 = .ok (.if_icmp .eq 9, 3) := zrD zrw_cX11_comesOut_32 (i := 0) (by decide +kernel) rfl
theorem dX11_comesOut_35 : decode cX11_comesOut 35 = .ok (.iload_n 2, 1) := zrD zrw_cX11_comesOut_32 (i := 3) (by decide +kernel) rfl
theorem dX11_comesOut_36 : decode cX11_comesOut 36 = .ok (.bipush 9, 2) := zrD zrw_cX11_comesOut_32 (i := 4) (by decide +kernel) rfl
theorem dX11_comesOut_38 : decode cX11_comesOut 38 = .ok (.if_icmp .ne 4, 3) := zrD zrw_cX11_comesOut_32 (i := 6) (by decide +kernel) rfl
theorem dX11_comesOut_41 : decode cX11_comesOut 41 = .ok (.return_, 1) := zrD zrw_cX11_comesOut_32 (i := 9) (by decide +kernel) rfl
theorem dX11_comesOut_42 : decode cX11_comesOut 42 = .ok (.aload_n 0, 1) := zrD zrw_cX11_comesOut_32 (i := 10) (by decide +kernel) rfl
theorem dX11_comesOut_43 : decode cX11_comesOut 43 = .ok (.dup, 1) := zrD zrw_cX11_comesOut_32 (i := 11) (by decide +kernel) rfl
theorem dX11_comesOut_44 : decode cX11_comesOut 44 = .ok (.getfield 297, 3) := zrD zrw_cX11_comesOut_32 (i := 12) (by decide +kernel) rfl
theorem dX11_comesOut_47 : decode cX11_comesOut 47 = .ok (.iconst 1, 1) := zrD zrw_cX11_comesOut_32 (i := 15) (by decide +kernel) rfl
theorem dX11_comesOut_48 : decode cX11_comesOut 48 = .ok (.isub, 1) := zrD zrw_cX11_comesOut_32 (i := 16) (by decide +kernel) rfl
theorem dX11_comesOut_49 : decode cX11_comesOut 49 = .ok (.putfield 297, 3) := zrD zrw_cX11_comesOut_32 (i := 17) (by decide +kernel) rfl
theorem dX11_comesOut_52 : decode cX11_comesOut 52 = .ok (.aload_n 0, 1) := zrD zrw_cX11_comesOut_32 (i := 20) (by decide +kernel) rfl
theorem dX11_comesOut_53 : decode cX11_comesOut 53 = .ok (.iload_n 2, 1) := zrD zrw_cX11_comesOut_32 (i := 21) (by decide +kernel) rfl
theorem dX11_comesOut_54 : decode cX11_comesOut 54 = .ok (.bipush 8, 2) := zrD zrw_cX11_comesOut_32 (i := 22) (by decide +kernel) rfl
theorem dX11_comesOut_56 : decode cX11_comesOut 56 = .ok (.if_icmp .ne 7, 3) := zrD zrw_cX11_comesOut_32 (i := 24) (by decide +kernel) rfl
theorem dX11_comesOut_59 : decode cX11_comesOut 59 = .ok (.iconst 2, 1) := zrD zrw_cX11_comesOut_32 (i := 27) (by decide +kernel) rfl
theorem dX11_comesOut_60 : decode cX11_comesOut 60 = .ok (.goto 24, 3) := zrD zrw_cX11_comesOut_32 (i := 28) (by decide +kernel) rfl
theorem dX11_comesOut_63 : decode cX11_comesOut 63 = .ok (.iload_n 2, 1) := zrD zrw_cX11_comesOut_32 (i := 31) (by decide +kernel) rfl
def zrk_cX11_comesOut_64 : ByteArray := .mk #[16, 9, 160, 0, 7, 6, 167, 0, 14, 28, 16, 10, 160, 0, 7, 7, 167, 0, 4, 8, 3, 182, 1, 44, 167, 255, 168, 177]
theorem zrw_cX11_comesOut_64 : zrW 64 cX11_comesOut zrk_cX11_comesOut_64 := by unfold zrW; decide +kernel
theorem dX11_comesOut_64 : decode cX11_comesOut 64 = .ok (.bipush 9, 2) := zrD zrw_cX11_comesOut_64 (i := 0) (by decide +kernel) rfl
theorem dX11_comesOut_66 : decode cX11_comesOut 66 = .ok (.if_icmp .ne 7, 3) := zrD zrw_cX11_comesOut_64 (i := 2) (by decide +kernel) rfl
theorem dX11_comesOut_69 : decode cX11_comesOut 69 = .ok (.iconst 3, 1) := zrD zrw_cX11_comesOut_64 (i := 5) (by decide +kernel) rfl
theorem dX11_comesOut_70 : decode cX11_comesOut 70 = .ok (.goto 14, 3) := zrD zrw_cX11_comesOut_64 (i := 6) (by decide +kernel) rfl
theorem dX11_comesOut_73 : decode cX11_comesOut 73 = .ok (.iload_n 2, 1) := zrD zrw_cX11_comesOut_64 (i := 9) (by decide +kernel) rfl
theorem dX11_comesOut_74 : decode cX11_comesOut 74 = .ok (.bipush 10, 2) := zrD zrw_cX11_comesOut_64 (i := 10) (by decide +kernel) rfl
theorem dX11_comesOut_76 : decode cX11_comesOut 76 = .ok (.if_icmp .ne 7, 3) := zrD zrw_cX11_comesOut_64 (i := 12) (by decide +kernel) rfl
theorem dX11_comesOut_79 : decode cX11_comesOut 79 = .ok (.iconst 4, 1) := zrD zrw_cX11_comesOut_64 (i := 15) (by decide +kernel) rfl
theorem dX11_comesOut_80 : decode cX11_comesOut 80 = .ok (.goto 4, 3) := zrD zrw_cX11_comesOut_64 (i := 16) (by decide +kernel) rfl
theorem dX11_comesOut_83 : decode cX11_comesOut 83 = .ok (.iconst 5, 1) := zrD zrw_cX11_comesOut_64 (i := 19) (by decide +kernel) rfl
theorem dX11_comesOut_84 : decode cX11_comesOut 84 = .ok (.iconst 0, 1) := zrD zrw_cX11_comesOut_64 (i := 20) (by decide +kernel) rfl
theorem dX11_comesOut_85 : decode cX11_comesOut 85 = .ok (.invokevirtual 300, 3) := zrD zrw_cX11_comesOut_64 (i := 21) (by decide +kernel) rfl
theorem dX11_comesOut_88 : decode cX11_comesOut 88 = .ok (.goto (-88), 3) := zrD zrw_cX11_comesOut_64 (i := 24) (by decide +kernel) rfl
theorem dX11_comesOut_91 : decode cX11_comesOut 91 = .ok (.return_, 1) := zrD zrw_cX11_comesOut_64 (i := 27) (by decide +kernel) rfl
def zrk_cX11_expression_0 : ByteArray := .mk #[42, 3, 181, 1, 41, 42, 180, 0, 233, 60, 4, 61, 28, 153, 1, 3, 42, 180, 0, 206, 154, 0, 252, 42, 16, 6, 182, 0, 224, 153, 0, 55]
theorem zrw_cX11_expression_0 : zrW 0 cX11_expression zrk_cX11_expression_0 := by unfold zrW; decide +kernel
theorem dX11_expression_0 : decode cX11_expression 0 = .ok (.aload_n 0, 1) := zrD zrw_cX11_expression_0 (i := 0) (by decide +kernel) rfl
theorem dX11_expression_1 : decode cX11_expression 1 = .ok (.iconst 0, 1) := zrD zrw_cX11_expression_0 (i := 1) (by decide +kernel) rfl
theorem dX11_expression_2 : decode cX11_expression 2 = .ok (.putfield 297, 3) := zrD zrw_cX11_expression_0 (i := 2) (by decide +kernel) rfl
theorem dX11_expression_5 : decode cX11_expression 5 = .ok (.aload_n 0, 1) := zrD zrw_cX11_expression_0 (i := 5) (by decide +kernel) rfl
theorem dX11_expression_6 : decode cX11_expression 6 = .ok (.getfield 233, 3) := zrD zrw_cX11_expression_0 (i := 6) (by decide +kernel) rfl
theorem dX11_expression_9 : decode cX11_expression 9 = .ok (.istore_n 1, 1) := zrD zrw_cX11_expression_0 (i := 9) (by decide +kernel) rfl
theorem dX11_expression_10 : decode cX11_expression 10 = .ok (.iconst 1, 1) := zrD zrw_cX11_expression_0 (i := 10) (by decide +kernel) rfl
theorem dX11_expression_11 : decode cX11_expression 11 = .ok (.istore_n 2, 1) := zrD zrw_cX11_expression_0 (i := 11) (by decide +kernel) rfl
theorem dX11_expression_12 : decode cX11_expression 12 = .ok (.iload_n 2, 1) := zrD zrw_cX11_expression_0 (i := 12) (by decide +kernel) rfl
theorem dX11_expression_13 : decode cX11_expression 13 = .ok (.ifCond .eq 259, 3) := zrD zrw_cX11_expression_0 (i := 13) (by decide +kernel) rfl
theorem dX11_expression_16 : decode cX11_expression 16 = .ok (.aload_n 0, 1) := zrD zrw_cX11_expression_0 (i := 16) (by decide +kernel) rfl
theorem dX11_expression_17 : decode cX11_expression 17 = .ok (.getfield 206, 3) := zrD zrw_cX11_expression_0 (i := 17) (by decide +kernel) rfl
theorem dX11_expression_20 : decode cX11_expression 20 = .ok (.ifCond .ne 252, 3) := zrD zrw_cX11_expression_0 (i := 20) (by decide +kernel) rfl
theorem dX11_expression_23 : decode cX11_expression 23 = .ok (.aload_n 0, 1) := zrD zrw_cX11_expression_0 (i := 23) (by decide +kernel) rfl
theorem dX11_expression_24 : decode cX11_expression 24 = .ok (.bipush 6, 2) := zrD zrw_cX11_expression_0 (i := 24) (by decide +kernel) rfl
theorem dX11_expression_26 : decode cX11_expression 26 = .ok (.invokevirtual 224, 3) := zrD zrw_cX11_expression_0 (i := 26) (by decide +kernel) rfl
theorem dX11_expression_29 : decode cX11_expression 29 = .ok (.ifCond .eq 55, 3) := zrD zrw_cX11_expression_0 (i := 29) (by decide +kernel) rfl
def zrk_cX11_expression_32 : ByteArray := .mk #[42, 180, 0, 233, 16, 6, 160, 0, 8, 42, 5, 182, 0, 221, 42, 89, 180, 0, 233, 4, 96, 181, 0, 233, 42, 182, 0, 227, 42, 180, 0, 98]
theorem zrw_cX11_expression_32 : zrW 32 cX11_expression zrk_cX11_expression_32 := by unfold zrW; decide +kernel
theorem dX11_expression_32 : decode cX11_expression 32 = .ok (.aload_n 0, 1) := zrD zrw_cX11_expression_32 (i := 0) (by decide +kernel) rfl
theorem dX11_expression_33 : decode cX11_expression 33 = .ok (.getfield 233, 3) := zrD zrw_cX11_expression_32 (i := 1) (by decide +kernel) rfl
theorem dX11_expression_36 : decode cX11_expression 36 = .ok (.bipush 6, 2) := zrD zrw_cX11_expression_32 (i := 4) (by decide +kernel) rfl
theorem dX11_expression_38 : decode cX11_expression 38 = .ok (.if_icmp .ne 8, 3) := zrD zrw_cX11_expression_32 (i := 6) (by decide +kernel) rfl
theorem dX11_expression_41 : decode cX11_expression 41 = .ok (.aload_n 0, 1) := zrD zrw_cX11_expression_32 (i := 9) (by decide +kernel) rfl
theorem dX11_expression_42 : decode cX11_expression 42 = .ok (.iconst 2, 1) := zrD zrw_cX11_expression_32 (i := 10) (by decide +kernel) rfl
theorem dX11_expression_43 : decode cX11_expression 43 = .ok (.invokevirtual 221, 3) := zrD zrw_cX11_expression_32 (i := 11) (by decide +kernel) rfl
theorem dX11_expression_46 : decode cX11_expression 46 = .ok (.aload_n 0, 1) := zrD zrw_cX11_expression_32 (i := 14) (by decide +kernel) rfl
theorem dX11_expression_47 : decode cX11_expression 47 = .ok (.dup, 1) := zrD zrw_cX11_expression_32 (i := 15) (by decide +kernel) rfl
theorem dX11_expression_48 : decode cX11_expression 48 = .ok (.getfield 233, 3) := zrD zrw_cX11_expression_32 (i := 16) (by decide +kernel) rfl
theorem dX11_expression_51 : decode cX11_expression 51 = .ok (.iconst 1, 1) := zrD zrw_cX11_expression_32 (i := 19) (by decide +kernel) rfl
theorem dX11_expression_52 : decode cX11_expression 52 = .ok (.iadd, 1) := zrD zrw_cX11_expression_32 (i := 20) (by decide +kernel) rfl
theorem dX11_expression_53 : decode cX11_expression 53 = .ok (.putfield 233, 3) := zrD zrw_cX11_expression_32 (i := 21) (by decide +kernel) rfl
theorem dX11_expression_56 : decode cX11_expression 56 = .ok (.aload_n 0, 1) := zrD zrw_cX11_expression_32 (i := 24) (by decide +kernel) rfl
theorem dX11_expression_57 : decode cX11_expression 57 = .ok (.invokevirtual 227, 3) := zrD zrw_cX11_expression_32 (i := 25) (by decide +kernel) rfl
theorem dX11_expression_60 : decode cX11_expression 60 = .ok (.aload_n 0, 1) := zrD zrw_cX11_expression_32 (i := 28) (by decide +kernel) rfl
theorem dX11_expression_61 : decode cX11_expression 61 = .ok (.getfield 98, 3) := zrD zrw_cX11_expression_32 (i := 29) (by decide +kernel) rfl
def zrk_cX11_expression_64 : ByteArray := .mk #[42, 180, 1, 41, 16, 6, 79, 42, 89, 180, 1, 41, 4, 96, 181, 1, 41, 167, 255, 198, 42, 182, 1, 47, 42, 180, 0, 206, 158, 0, 4, 177]
theorem zrw_cX11_expression_64 : zrW 64 cX11_expression zrk_cX11_expression_64 := by unfold zrW; decide +kernel
theorem dX11_expression_64 : decode cX11_expression 64 = .ok (.aload_n 0, 1) := zrD zrw_cX11_expression_64 (i := 0) (by decide +kernel) rfl
theorem dX11_expression_65 : decode cX11_expression 65 = .ok (.getfield 297, 3) := zrD zrw_cX11_expression_64 (i := 1) (by decide +kernel) rfl
theorem dX11_expression_68 : decode cX11_expression 68 = .ok (.bipush 6, 2) := zrD zrw_cX11_expression_64 (i := 4) (by decide +kernel) rfl
theorem dX11_expression_70 : decode cX11_expression 70 = .ok (.iastore, 1) := zrD zrw_cX11_expression_64 (i := 6) (by decide +kernel) rfl
theorem dX11_expression_71 : decode cX11_expression 71 = .ok (.aload_n 0, 1) := zrD zrw_cX11_expression_64 (i := 7) (by decide +kernel) rfl
theorem dX11_expression_72 : decode cX11_expression 72 = .ok (.dup, 1) := zrD zrw_cX11_expression_64 (i := 8) (by decide +kernel) rfl
theorem dX11_expression_73 : decode cX11_expression 73 = .ok (.getfield 297, 3) := zrD zrw_cX11_expression_64 (i := 9) (by decide +kernel) rfl
theorem dX11_expression_76 : decode cX11_expression 76 = .ok (.iconst 1, 1) := zrD zrw_cX11_expression_64 (i := 12) (by decide +kernel) rfl
theorem dX11_expression_77 : decode cX11_expression 77 = .ok (.iadd, 1) := zrD zrw_cX11_expression_64 (i := 13) (by decide +kernel) rfl
theorem dX11_expression_78 : decode cX11_expression 78 = .ok (.putfield 297, 3) := zrD zrw_cX11_expression_64 (i := 14) (by decide +kernel) rfl
theorem dX11_expression_81 : decode cX11_expression 81 = .ok (.goto (-58), 3) := zrD zrw_cX11_expression_64 (i := 17) (by decide +kernel) rfl
theorem dX11_expression_84 : decode cX11_expression 84 = .ok (.aload_n 0, 1) := zrD zrw_cX11_expression_64 (i := 20) (by decide +kernel) rfl
theorem dX11_expression_85 : decode cX11_expression 85 = .ok (.invokevirtual 303, 3) := zrD zrw_cX11_expression_64 (i := 21) (by decide +kernel) rfl
theorem dX11_expression_88 : decode cX11_expression 88 = .ok (.aload_n 0, 1) := zrD zrw_cX11_expression_64 (i := 24) (by decide +kernel) rfl
theorem dX11_expression_89 : decode cX11_expression 89 = .ok (.getfield 206, 3) := zrD zrw_cX11_expression_64 (i := 25) (by decide +kernel) rfl
theorem dX11_expression_92 : decode cX11_expression 92 = .ok (.ifCond .le 4, 3) := zrD zrw_cX11_expression_64 (i := 28) (by decide +kernel) rfl
theorem dX11_expression_95 : decode cX11_expression 95 = .ok (.return_, 1) := zrD zrw_cX11_expression_64 (i := 31) (by decide +kernel) rfl
def zrk_cX11_expression_96 : ByteArray := .mk #[42, 16, 7, 182, 0, 224, 153, 0, 43, 42, 180, 0, 233, 27, 164, 0, 35, 42, 3, 182, 1, 50, 42, 89, 180, 1, 41, 4, 100, 181, 1, 41]
theorem zrw_cX11_expression_96 : zrW 96 cX11_expression zrk_cX11_expression_96 := by unfold zrW; decide +kernel
theorem dX11_expression_96 : decode cX11_expression 96 = .ok (.aload_n 0, 1) := zrD zrw_cX11_expression_96 (i := 0) (by decide +kernel) rfl
theorem dX11_expression_97 : decode cX11_expression 97 = .ok (.bipush 7, 2) := zrD zrw_cX11_expression_96 (i := 1) (by decide +kernel) rfl
theorem dX11_expression_99 : decode cX11_expression 99 = .ok (.invokevirtual 224, 3) := zrD zrw_cX11_expression_96 (i := 3) (by decide +kernel) rfl
theorem dX11_expression_102 : decode cX11_expression 102 = .ok (.ifCond .eq 43, 3) := zrD zrw_cX11_expression_96 (i := 6) (by decide +kernel) rfl
theorem dX11_expression_105 : decode cX11_expression 105 = .ok (.aload_n 0, 1) := zrD zrw_cX11_expression_96 (i := 9) (by decide +kernel) rfl
theorem dX11_expression_106 : decode cX11_expression 106 = .ok (.getfield 233, 3) := zrD zrw_cX11_expression_96 (i := 10) (by decide +kernel) rfl
theorem dX11_expression_109 : decode cX11_expression 109 = .ok (.iload_n 1, 1) := zrD zrw_cX11_expression_96 (i := 13) (by decide +kernel) rfl
theorem dX11_expression_110 : decode cX11_expression 110 = .ok (.if_icmp .le 35, 3) := zrD zrw_cX11_expression_96 (i := 14) (by decide +kernel) rfl
theorem dX11_expression_113 : decode cX11_expression 113 = .ok (.aload_n 0, 1) := zrD zrw_cX11_expression_96 (i := 17) (by decide +kernel) rfl
theorem dX11_expression_114 : decode cX11_expression 114 = .ok (.iconst 0, 1) := zrD zrw_cX11_expression_96 (i := 18) (by decide +kernel) rfl
theorem dX11_expression_115 : decode cX11_expression 115 = .ok (.invokevirtual 306, 3) := zrD zrw_cX11_expression_96 (i := 19) (by decide +kernel) rfl
theorem dX11_expression_118 : decode cX11_expression 118 = .ok (.aload_n 0, 1) := zrD zrw_cX11_expression_96 (i := 22) (by decide +kernel) rfl
theorem dX11_expression_119 : decode cX11_expression 119 = .ok (.dup, 1) := zrD zrw_cX11_expression_96 (i := 23) (by decide +kernel) rfl
theorem dX11_expression_120 : decode cX11_expression 120 = .ok (.getfield 297, 3) := zrD zrw_cX11_expression_96 (i := 24) (by decide +kernel) rfl
theorem dX11_expression_123 : decode cX11_expression 123 = .ok (.iconst 1, 1) := zrD zrw_cX11_expression_96 (i := 27) (by decide +kernel) rfl
theorem dX11_expression_124 : decode cX11_expression 124 = .ok (.isub, 1) := zrD zrw_cX11_expression_96 (i := 28) (by decide +kernel) rfl
theorem dX11_expression_125 : decode cX11_expression 125 = .ok (.putfield 297, 3) := zrD zrw_cX11_expression_96 (i := 29) (by decide +kernel) rfl
def zrk_cX11_expression_128 : ByteArray := .mk #[42, 89, 180, 0, 233, 4, 100, 181, 0, 233, 42, 182, 0, 227, 167, 255, 210, 42, 16, 8, 182, 0, 224, 154, 0, 30, 42, 16, 9, 182, 0, 224]
theorem zrw_cX11_expression_128 : zrW 128 cX11_expression zrk_cX11_expression_128 := by unfold zrW; decide +kernel
theorem dX11_expression_128 : decode cX11_expression 128 = .ok (.aload_n 0, 1) := zrD zrw_cX11_expression_128 (i := 0) (by decide +kernel) rfl
theorem dX11_expression_129 : decode cX11_expression 129 = .ok (.dup, 1) := zrD zrw_cX11_expression_128 (i := 1) (by decide +kernel) rfl
theorem dX11_expression_130 : decode cX11_expression 130 = .ok (.getfield 233, 3) := zrD zrw_cX11_expression_128 (i := 2) (by decide +kernel) rfl
theorem dX11_expression_133 : decode cX11_expression 133 = .ok (.iconst 1, 1) := zrD zrw_cX11_expression_128 (i := 5) (by decide +kernel) rfl
theorem dX11_expression_134 : decode cX11_expression 134 = .ok (.isub, 1) := zrD zrw_cX11_expression_128 (i := 6) (by decide +kernel) rfl
theorem dX11_expression_135 : decode cX11_expression 135 = .ok (.putfield 233, 3) := zrD zrw_cX11_expression_128 (i := 7) (by decide +kernel) rfl
theorem dX11_expression_138 : decode cX11_expression 138 = .ok (.aload_n 0, 1) := zrD zrw_cX11_expression_128 (i := 10) (by decide +kernel) rfl
theorem dX11_expression_139 : decode cX11_expression 139 = .ok (.invokevirtual 227, 3) := zrD zrw_cX11_expression_128 (i := 11) (by decide +kernel) rfl
theorem dX11_expression_142 : decode cX11_expression 142 = .ok (.goto (-46), 3) := zrD zrw_cX11_expression_128 (i := 14) (by decide +kernel) rfl
theorem dX11_expression_145 : decode cX11_expression 145 = .ok (.aload_n 0, 1) := zrD zrw_cX11_expression_128 (i := 17) (by decide +kernel) rfl
theorem dX11_expression_146 : decode cX11_expression 146 = .ok (.bipush 8, 2) := zrD zrw_cX11_expression_128 (i := 18) (by decide +kernel) rfl
theorem dX11_expression_148 : decode cX11_expression 148 = .ok (.invokevirtual 224, 3) := zrD zrw_cX11_expression_128 (i := 20) (by decide +kernel) rfl
theorem dX11_expression_151 : decode cX11_expression 151 = .ok (.ifCond .ne 30, 3) := zrD zrw_cX11_expression_128 (i := 23) (by decide +kernel) rfl
theorem dX11_expression_154 : decode cX11_expression 154 = .ok (.aload_n 0, 1) := zrD zrw_cX11_expression_128 (i := 26) (by decide +kernel) rfl
theorem dX11_expression_155 : decode cX11_expression 155 = .ok (.bipush 9, 2) := zrD zrw_cX11_expression_128 (i := 27) (by decide +kernel) rfl
theorem dX11_expression_157 : decode cX11_expression 157 = .ok (.invokevirtual 224, 3) := zrD zrw_cX11_expression_128 (i := 29) (by decide +kernel) rfl
def zrk_cX11_expression_160 : ByteArray := .mk #[154, 0, 21, 42, 16, 10, 182, 0, 224, 154, 0, 12, 42, 16, 15, 182, 0, 224, 153, 0, 7, 4, 167, 0, 4, 3, 61, 28, 154, 0, 22, 42]
theorem zrw_cX11_expression_160 : zrW 160 cX11_expression zrk_cX11_expression_160 := by unfold zrW; decide +kernel
theorem dX11_expression_160 : decode cX11_expression 160 = .ok (.ifCond .ne 21, 3) := zrD zrw_cX11_expression_160 (i := 0) (by decide +kernel) rfl
theorem dX11_expression_163 : decode cX11_expression 163 = .ok (.aload_n 0, 1) := zrD zrw_cX11_expression_160 (i := 3) (by decide +kernel) rfl
theorem dX11_expression_164 : decode cX11_expression 164 = .ok (.bipush 10, 2) := zrD zrw_cX11_expression_160 (i := 4) (by decide +kernel) rfl
theorem dX11_expression_166 : decode cX11_expression 166 = .ok (.invokevirtual 224, 3) := zrD zrw_cX11_expression_160 (i := 6) (by decide +kernel) rfl
theorem dX11_expression_169 : decode cX11_expression 169 = .ok (.ifCond .ne 12, 3) := zrD zrw_cX11_expression_160 (i := 9) (by decide +kernel) rfl
theorem dX11_expression_172 : decode cX11_expression 172 = .ok (.aload_n 0, 1) := zrD zrw_cX11_expression_160 (i := 12) (by decide +kernel) rfl
theorem dX11_expression_173 : decode cX11_expression 173 = .ok (.bipush 15, 2) := zrD zrw_cX11_expression_160 (i := 13) (by decide +kernel) rfl
theorem dX11_expression_175 : decode cX11_expression 175 = .ok (.invokevirtual 224, 3) := zrD zrw_cX11_expression_160 (i := 15) (by decide +kernel) rfl
theorem dX11_expression_178 : decode cX11_expression 178 = .ok (.ifCond .eq 7, 3) := zrD zrw_cX11_expression_160 (i := 18) (by decide +kernel) rfl
theorem dX11_expression_181 : decode cX11_expression 181 = .ok (.iconst 1, 1) := zrD zrw_cX11_expression_160 (i := 21) (by decide +kernel) rfl
theorem dX11_expression_182 : decode cX11_expression 182 = .ok (.goto 4, 3) := zrD zrw_cX11_expression_160 (i := 22) (by decide +kernel) rfl
theorem dX11_expression_185 : decode cX11_expression 185 = .ok (.iconst 0, 1) := zrD zrw_cX11_expression_160 (i := 25) (by decide +kernel) rfl
theorem dX11_expression_186 : decode cX11_expression 186 = .ok (.istore_n 2, 1) := zrD zrw_cX11_expression_160 (i := 26) (by decide +kernel) rfl
theorem dX11_expression_187 : decode cX11_expression 187 = .ok (.iload_n 2, 1) := zrD zrw_cX11_expression_160 (i := 27) (by decide +kernel) rfl
theorem dX11_expression_188 : decode cX11_expression 188 = .ok (.ifCond .ne 22, 3) := zrD zrw_cX11_expression_160 (i := 28) (by decide +kernel) rfl
theorem dX11_expression_191 : decode cX11_expression 191 = .ok (.aload_n 0, 1) := zrD zrw_cX11_expression_160 (i := 31) (by decide +kernel) rfl
def zrk_cX11_expression_192 : ByteArray := .mk #[180, 0, 233, 27, 164, 0, 8, 42, 4, 182, 0, 221, 42, 3, 182, 1, 50, 177, 42, 42, 16, 10, 182, 0, 224, 154, 0, 12, 42, 16, 15]
theorem zrw_cX11_expression_192 : zrW 192 cX11_expression zrk_cX11_expression_192 := by unfold zrW; decide +kernel
theorem dX11_expression_192 : decode cX11_expression 192 = .ok (.getfield 233, 3) := zrD zrw_cX11_expression_192 (i := 0) (by decide +kernel) rfl
theorem dX11_expression_195 : decode cX11_expression 195 = .ok (.iload_n 1, 1) := zrD zrw_cX11_expression_192 (i := 3) (by decide +kernel) rfl
theorem dX11_expression_196 : decode cX11_expression 196 = .ok (.if_icmp .le 8, 3) := zrD zrw_cX11_expression_192 (i := 4) (by decide +kernel) rfl
theorem dX11_expression_199 : decode cX11_expression 199 = .ok (.aload_n 0, 1) := zrD zrw_cX11_expression_192 (i := 7) (by decide +kernel) rfl
theorem dX11_expression_200 : decode cX11_expression 200 = .ok (.iconst 1, 1) := zrD zrw_cX11_expression_192 (i := 8) (by decide +kernel) rfl
theorem dX11_expression_201 : decode cX11_expression 201 = .ok (.invokevirtual 221, 3) := zrD zrw_cX11_expression_192 (i := 9) (by decide +kernel) rfl
theorem dX11_expression_204 : decode cX11_expression 204 = .ok (.aload_n 0, 1) := zrD zrw_cX11_expression_192 (i := 12) (by decide +kernel) rfl
theorem dX11_expression_205 : decode cX11_expression 205 = .ok (.iconst 0, 1) := zrD zrw_cX11_expression_192 (i := 13) (by decide +kernel) rfl
theorem dX11_expression_206 : decode cX11_expression 206 = .ok (.invokevirtual 306, 3) := zrD zrw_cX11_expression_192 (i := 14) (by decide +kernel) rfl
theorem dX11_expression_209 : decode cX11_expression 209 = .ok (.return_, 1) := zrD zrw_cX11_expression_192 (i := 17) (by decide +kernel) rfl
theorem dX11_expression_210 : decode cX11_expression 210 = .ok (.aload_n 0, 1) := zrD zrw_cX11_expression_192 (i := 18) (by decide +kernel) rfl
theorem dX11_expression_211 : decode cX11_expression 211 = .ok (.aload_n 0, 1) := zrD zrw_cX11_expression_192 (i := 19) (by decide +kernel) rfl
theorem dX11_expression_212 : decode cX11_expression 212 = .ok (.bipush 10, 2) := zrD zrw_cX11_expression_192 (i := 20) (by decide +kernel) rfl
theorem dX11_expression_214 : decode cX11_expression 214 = .ok (.invokevirtual 224, 3) := zrD zrw_cX11_expression_192 (i := 22) (by decide +kernel) rfl
theorem dX11_expression_217 : decode cX11_expression 217 = .ok (.ifCond .ne 12, 3) := zrD zrw_cX11_expression_192 (i := 25) (by decide +kernel) rfl
theorem dX11_expression_220 : decode cX11_expression 220 = .ok (.aload_n 0, 1) := zrD zrw_cX11_expression_192 (i := 28) (by decide +kernel) rfl
theorem dX11_expression_221 : decode cX11_expression 221 = .ok (.bipush 15, 2) := zrD zrw_cX11_expression_192 (i := 29) (by decide +kernel) rfl
def zrk_cX11_expression_223 : ByteArray := .mk #[182, 0, 224, 153, 0, 7, 4, 167, 0, 4, 3, 182, 1, 50, 42, 180, 0, 98, 42, 180, 1, 41, 42, 180, 0, 20, 42, 180, 0, 209, 46, 79]
theorem zrw_cX11_expression_223 : zrW 223 cX11_expression zrk_cX11_expression_223 := by unfold zrW; decide +kernel
theorem dX11_expression_223 : decode cX11_expression 223 = .ok (.invokevirtual 224, 3) := zrD zrw_cX11_expression_223 (i := 0) (by decide +kernel) rfl
theorem dX11_expression_226 : decode cX11_expression 226 = .ok (.ifCond .eq 7, 3) := zrD zrw_cX11_expression_223 (i := 3) (by decide +kernel) rfl
theorem dX11_expression_229 : decode cX11_expression 229 = .ok (.iconst 1, 1) := zrD zrw_cX11_expression_223 (i := 6) (by decide +kernel) rfl
theorem dX11_expression_230 : decode cX11_expression 230 = .ok (.goto 4, 3) := zrD zrw_cX11_expression_223 (i := 7) (by decide +kernel) rfl
theorem dX11_expression_233 : decode cX11_expression 233 = .ok (.iconst 0, 1) := zrD zrw_cX11_expression_223 (i := 10) (by decide +kernel) rfl
theorem dX11_expression_234 : decode cX11_expression 234 = .ok (.invokevirtual 306, 3) := zrD zrw_cX11_expression_223 (i := 11) (by decide +kernel) rfl
theorem dX11_expression_237 : decode cX11_expression 237 = .ok (.aload_n 0, 1) := zrD zrw_cX11_expression_223 (i := 14) (by decide +kernel) rfl
theorem dX11_expression_238 : decode cX11_expression 238 = .ok (.getfield 98, 3) := zrD zrw_cX11_expression_223 (i := 15) (by decide +kernel) rfl
theorem dX11_expression_241 : decode cX11_expression 241 = .ok (.aload_n 0, 1) := zrD zrw_cX11_expression_223 (i := 18) (by decide +kernel) rfl
theorem dX11_expression_242 : decode cX11_expression 242 = .ok (.getfield 297, 3) := zrD zrw_cX11_expression_223 (i := 19) (by decide +kernel) rfl
theorem dX11_expression_245 : decode cX11_expression 245 = .ok (.aload_n 0, 1) := zrD zrw_cX11_expression_223 (i := 22) (by decide +kernel) rfl
theorem dX11_expression_246 : decode cX11_expression 246 = .ok (.getfield 20, 3) := zrD zrw_cX11_expression_223 (i := 23) (by decide +kernel) rfl
theorem dX11_expression_249 : decode cX11_expression 249 = .ok (.aload_n 0, 1) := zrD zrw_cX11_expression_223 (i := 26) (by decide +kernel) rfl
theorem dX11_expression_250 : decode cX11_expression 250 = .ok (.getfield 209, 3) := zrD zrw_cX11_expression_223 (i := 27) (by decide +kernel) rfl
theorem dX11_expression_253 : decode cX11_expression 253 = .ok (.iaload, 1) := zrD zrw_cX11_expression_223 (i := 30) (by decide +kernel) rfl
theorem dX11_expression_254 : decode cX11_expression 254 = .ok (.iastore, 1) := zrD zrw_cX11_expression_223 (i := 31) (by decide +kernel) rfl
def zrk_cX11_expression_255 : ByteArray := .mk #[42, 89, 180, 1, 41, 4, 96, 181, 1, 41, 42, 182, 0, 227, 167, 254, 255, 177]
theorem zrw_cX11_expression_255 : zrW 255 cX11_expression zrk_cX11_expression_255 := by unfold zrW; decide +kernel
theorem dX11_expression_255 : decode cX11_expression 255 = .ok (.aload_n 0, 1) := zrD zrw_cX11_expression_255 (i := 0) (by decide +kernel) rfl
theorem dX11_expression_256 : decode cX11_expression 256 = .ok (.dup, 1) := zrD zrw_cX11_expression_255 (i := 1) (by decide +kernel) rfl
theorem dX11_expression_257 : decode cX11_expression 257 = .ok (.getfield 297, 3) := zrD zrw_cX11_expression_255 (i := 2) (by decide +kernel) rfl
theorem dX11_expression_260 : decode cX11_expression 260 = .ok (.iconst 1, 1) := zrD zrw_cX11_expression_255 (i := 5) (by decide +kernel) rfl
theorem dX11_expression_261 : decode cX11_expression 261 = .ok (.iadd, 1) := zrD zrw_cX11_expression_255 (i := 6) (by decide +kernel) rfl
theorem dX11_expression_262 : decode cX11_expression 262 = .ok (.putfield 297, 3) := zrD zrw_cX11_expression_255 (i := 7) (by decide +kernel) rfl
theorem dX11_expression_265 : decode cX11_expression 265 = .ok (.aload_n 0, 1) := zrD zrw_cX11_expression_255 (i := 10) (by decide +kernel) rfl
theorem dX11_expression_266 : decode cX11_expression 266 = .ok (.invokevirtual 227, 3) := zrD zrw_cX11_expression_255 (i := 11) (by decide +kernel) rfl
theorem dX11_expression_269 : decode cX11_expression 269 = .ok (.goto (-257), 3) := zrD zrw_cX11_expression_255 (i := 14) (by decide +kernel) rfl
theorem dX11_expression_272 : decode cX11_expression 272 = .ok (.return_, 1) := zrD zrw_cX11_expression_255 (i := 17) (by decide +kernel) rfl
def zrk_cX11_unit_0 : ByteArray := .mk #[42, 5, 182, 0, 224, 153, 0, 24, 42, 3, 42, 180, 0, 27, 42, 180, 0, 209, 46, 182, 1, 44, 42, 182, 0, 227, 167, 0, 67, 42]
theorem zrw_cX11_unit_0 : zrW 0 cX11_unit zrk_cX11_unit_0 := by unfold zrW; decide +kernel
theorem dX11_unit_0 : decode cX11_unit 0 = .ok (.aload_n 0, 1) := zrD zrw_cX11_unit_0 (i := 0) (by decide +kernel) rfl
theorem dX11_unit_1 : decode cX11_unit 1 = .ok (.iconst 2, 1) := zrD zrw_cX11_unit_0 (i := 1) (by decide +kernel) rfl
theorem dX11_unit_2 : decode cX11_unit 2 = .ok (.invokevirtual 224, 3) := zrD zrw_cX11_unit_0 (i := 2) (by decide +kernel) rfl
theorem dX11_unit_5 : decode cX11_unit 5 = .ok (.ifCond .eq 24, 3) := zrD zrw_cX11_unit_0 (i := 5) (by decide +kernel) rfl
theorem dX11_unit_8 : decode cX11_unit 8 = .ok (.aload_n 0, 1) := zrD zrw_cX11_unit_0 (i := 8) (by decide +kernel) rfl
theorem dX11_unit_9 : decode cX11_unit 9 = .ok (.iconst 0, 1) := zrD zrw_cX11_unit_0 (i := 9) (by decide +kernel) rfl
theorem dX11_unit_10 : decode cX11_unit 10 = .ok (.aload_n 0, 1) := zrD zrw_cX11_unit_0 (i := 10) (by decide +kernel) rfl
theorem dX11_unit_11 : decode cX11_unit 11 = .ok (.getfield 27, 3) := zrD zrw_cX11_unit_0 (i := 11) (by decide +kernel) rfl
theorem dX11_unit_14 : decode cX11_unit 14 = .ok (.aload_n 0, 1) := zrD zrw_cX11_unit_0 (i := 14) (by decide +kernel) rfl
theorem dX11_unit_15 : decode cX11_unit 15 = .ok (.getfield 209, 3) := zrD zrw_cX11_unit_0 (i := 15) (by decide +kernel) rfl
theorem dX11_unit_18 : decode cX11_unit 18 = .ok (.iaload, 1) := zrD zrw_cX11_unit_0 (i := 18) (by decide +kernel) rfl
theorem dX11_unit_19 : decode cX11_unit 19 = .ok (.invokevirtual 300, 3) := zrD zrw_cX11_unit_0 (i := 19) (by decide +kernel) rfl
theorem dX11_unit_22 : decode cX11_unit 22 = .ok (.aload_n 0, 1) := zrD zrw_cX11_unit_0 (i := 22) (by decide +kernel) rfl
theorem dX11_unit_23 : decode cX11_unit 23 = .ok (.invokevirtual 227, 3) := zrD zrw_cX11_unit_0 (i := 23) (by decide +kernel) rfl
theorem dX11_unit_26 : decode cX11_unit 26 = .ok (.goto 67, 3) := zrD zrw_cX11_unit_0 (i := 26) (by decide +kernel) rfl
theorem dX11_unit_29 : decode cX11_unit 29 = .ok (.aload_n 0, 1) := zrD zrw_cX11_unit_0 (i := 29) (by decide +kernel) rfl
def zrk_cX11_unit_30 : ByteArray := .mk #[180, 0, 206, 154, 0, 55, 42, 180, 0, 20, 42, 180, 0, 209, 46, 16, 33, 161, 0, 41, 42, 180, 0, 20, 42, 180, 0, 209, 46, 16, 41]
theorem zrw_cX11_unit_30 : zrW 30 cX11_unit zrk_cX11_unit_30 := by unfold zrW; decide +kernel
theorem dX11_unit_30 : decode cX11_unit 30 = .ok (.getfield 206, 3) := zrD zrw_cX11_unit_30 (i := 0) (by decide +kernel) rfl
theorem dX11_unit_33 : decode cX11_unit 33 = .ok (.ifCond .ne 55, 3) := zrD zrw_cX11_unit_30 (i := 3) (by decide +kernel) rfl
theorem dX11_unit_36 : decode cX11_unit 36 = .ok (.aload_n 0, 1) := zrD zrw_cX11_unit_30 (i := 6) (by decide +kernel) rfl
theorem dX11_unit_37 : decode cX11_unit 37 = .ok (.getfield 20, 3) := zrD zrw_cX11_unit_30 (i := 7) (by decide +kernel) rfl
theorem dX11_unit_40 : decode cX11_unit 40 = .ok (.aload_n 0, 1) := zrD zrw_cX11_unit_30 (i := 10) (by decide +kernel) rfl
theorem dX11_unit_41 : decode cX11_unit 41 = .ok (.getfield 209, 3) := zrD zrw_cX11_unit_30 (i := 11) (by decide +kernel) rfl
theorem dX11_unit_44 : decode cX11_unit 44 = .ok (.iaload, 1) := zrD zrw_cX11_unit_30 (i := 14) (by decide +kernel) rfl
theorem dX11_unit_45 : decode cX11_unit 45 = .ok (.bipush 33, 2) := zrD zrw_cX11_unit_30 (i := 15) (by decide +kernel) rfl
theorem dX11_unit_47 : decode cX11_unit 47 = .ok (.if_icmp .lt 41, 3) := zrD zrw_cX11_unit_30 (i := 17) (by decide +kernel) rfl
theorem dX11_unit_50 : decode cX11_unit 50 = .ok (.aload_n 0, 1) := zrD zrw_cX11_unit_30 (i := 20) (by decide +kernel) rfl
theorem dX11_unit_51 : decode cX11_unit 51 = .ok (.getfield 20, 3) := zrD zrw_cX11_unit_30 (i := 21) (by decide +kernel) rfl
theorem dX11_unit_54 : decode cX11_unit 54 = .ok (.aload_n 0, 1) := zrD zrw_cX11_unit_30 (i := 24) (by decide +kernel) rfl
theorem dX11_unit_55 : decode cX11_unit 55 = .ok (.getfield 209, 3) := zrD zrw_cX11_unit_30 (i := 25) (by decide +kernel) rfl
theorem dX11_unit_58 : decode cX11_unit 58 = .ok (.iaload, 1) := zrD zrw_cX11_unit_30 (i := 28) (by decide +kernel) rfl
theorem dX11_unit_59 : decode cX11_unit 59 = .ok (.bipush 41, 2) := zrD zrw_cX11_unit_30 (i := 29) (by decide +kernel) rfl
def zrk_cX11_unit_61 : ByteArray := .mk #[163, 0, 27, 42, 4, 42, 180, 0, 20, 42, 180, 0, 209, 46, 16, 33, 100, 182, 1, 44, 42, 182, 0, 227, 167, 0, 8, 42, 4, 182, 0, 221]
theorem zrw_cX11_unit_61 : zrW 61 cX11_unit zrk_cX11_unit_61 := by unfold zrW; decide +kernel
theorem dX11_unit_61 : decode cX11_unit 61 = .ok (.if_icmp .gt 27, 3) := zrD zrw_cX11_unit_61 (i := 0) (by decide +kernel) rfl
theorem dX11_unit_64 : decode cX11_unit 64 = .ok (.aload_n 0, 1) := zrD zrw_cX11_unit_61 (i := 3) (by decide +kernel) rfl
theorem dX11_unit_65 : decode cX11_unit 65 = .ok (.iconst 1, 1) := zrD zrw_cX11_unit_61 (i := 4) (by decide +kernel) rfl
theorem dX11_unit_66 : decode cX11_unit 66 = .ok (.aload_n 0, 1) := zrD zrw_cX11_unit_61 (i := 5) (by decide +kernel) rfl
theorem dX11_unit_67 : decode cX11_unit 67 = .ok (.getfield 20, 3) := zrD zrw_cX11_unit_61 (i := 6) (by decide +kernel) rfl
theorem dX11_unit_70 : decode cX11_unit 70 = .ok (.aload_n 0, 1) := zrD zrw_cX11_unit_61 (i := 9) (by decide +kernel) rfl
theorem dX11_unit_71 : decode cX11_unit 71 = .ok (.getfield 209, 3) := zrD zrw_cX11_unit_61 (i := 10) (by decide +kernel) rfl
theorem dX11_unit_74 : decode cX11_unit 74 = .ok (.iaload, 1) := zrD zrw_cX11_unit_61 (i := 13) (by decide +kernel) rfl
theorem dX11_unit_75 : decode cX11_unit 75 = .ok (.bipush 33, 2) := zrD zrw_cX11_unit_61 (i := 14) (by decide +kernel) rfl
theorem dX11_unit_77 : decode cX11_unit 77 = .ok (.isub, 1) := zrD zrw_cX11_unit_61 (i := 16) (by decide +kernel) rfl
theorem dX11_unit_78 : decode cX11_unit 78 = .ok (.invokevirtual 300, 3) := zrD zrw_cX11_unit_61 (i := 17) (by decide +kernel) rfl
theorem dX11_unit_81 : decode cX11_unit 81 = .ok (.aload_n 0, 1) := zrD zrw_cX11_unit_61 (i := 20) (by decide +kernel) rfl
theorem dX11_unit_82 : decode cX11_unit 82 = .ok (.invokevirtual 227, 3) := zrD zrw_cX11_unit_61 (i := 21) (by decide +kernel) rfl
theorem dX11_unit_85 : decode cX11_unit 85 = .ok (.goto 8, 3) := zrD zrw_cX11_unit_61 (i := 24) (by decide +kernel) rfl
theorem dX11_unit_88 : decode cX11_unit 88 = .ok (.aload_n 0, 1) := zrD zrw_cX11_unit_61 (i := 27) (by decide +kernel) rfl
theorem dX11_unit_89 : decode cX11_unit 89 = .ok (.iconst 1, 1) := zrD zrw_cX11_unit_61 (i := 28) (by decide +kernel) rfl
theorem dX11_unit_90 : decode cX11_unit 90 = .ok (.invokevirtual 221, 3) := zrD zrw_cX11_unit_61 (i := 29) (by decide +kernel) rfl
def zrk_cX11_unit_93 : ByteArray := .mk #[177]
theorem zrw_cX11_unit_93 : zrW 93 cX11_unit zrk_cX11_unit_93 := by unfold zrW; decide +kernel
theorem dX11_unit_93 : decode cX11_unit 93 = .ok (.return_, 1) := zrD zrw_cX11_unit_93 (i := 0) (by decide +kernel) rfl
def zrk_cX11_termOf_0 : ByteArray := .mk #[3, 62, 27, 54, 4, 21, 4, 28, 162, 0, 157, 42, 180, 0, 92, 21, 4, 46, 54, 5, 21, 5, 5, 162, 0, 42, 42, 180, 0, 104, 29]
theorem zrw_cX11_termOf_0 : zrW 0 cX11_termOf zrk_cX11_termOf_0 := by unfold zrW; decide +kernel
theorem dX11_termOf_0 : decode cX11_termOf 0 = .ok (.iconst 0, 1) := zrD zrw_cX11_termOf_0 (i := 0) (by decide +kernel) rfl
theorem dX11_termOf_1 : decode cX11_termOf 1 = .ok (.istore_n 3, 1) := zrD zrw_cX11_termOf_0 (i := 1) (by decide +kernel) rfl
theorem dX11_termOf_2 : decode cX11_termOf 2 = .ok (.iload_n 1, 1) := zrD zrw_cX11_termOf_0 (i := 2) (by decide +kernel) rfl
theorem dX11_termOf_3 : decode cX11_termOf 3 = .ok (.istore 4, 2) := zrD zrw_cX11_termOf_0 (i := 3) (by decide +kernel) rfl
theorem dX11_termOf_5 : decode cX11_termOf 5 = .ok (.iload 4, 2) := zrD zrw_cX11_termOf_0 (i := 5) (by decide +kernel) rfl
theorem dX11_termOf_7 : decode cX11_termOf 7 = .ok (.iload_n 2, 1) := zrD zrw_cX11_termOf_0 (i := 7) (by decide +kernel) rfl
theorem dX11_termOf_8 : decode cX11_termOf 8 = .ok (.if_icmp .ge 157, 3) := zrD zrw_cX11_termOf_0 (i := 8) (by decide +kernel) rfl
theorem dX11_termOf_11 : decode cX11_termOf 11 = .ok (.aload_n 0, 1) := zrD zrw_cX11_termOf_0 (i := 11) (by decide +kernel) rfl
theorem dX11_termOf_12 : decode cX11_termOf 12 = .ok (.getfield 92, 3) := zrD zrw_cX11_termOf_0 (i := 12) (by decide +kernel) rfl
theorem dX11_termOf_15 : decode cX11_termOf 15 = .ok (.iload 4, 2) := zrD zrw_cX11_termOf_0 (i := 15) (by decide +kernel) rfl
theorem dX11_termOf_17 : decode cX11_termOf 17 = .ok (.iaload, 1) := zrD zrw_cX11_termOf_0 (i := 17) (by decide +kernel) rfl
theorem dX11_termOf_18 : decode cX11_termOf 18 = .ok (.istore 5, 2) := zrD zrw_cX11_termOf_0 (i := 18) (by decide +kernel) rfl
theorem dX11_termOf_20 : decode cX11_termOf 20 = .ok (.iload 5, 2) := zrD zrw_cX11_termOf_0 (i := 20) (by decide +kernel) rfl
theorem dX11_termOf_22 : decode cX11_termOf 22 = .ok (.iconst 2, 1) := zrD zrw_cX11_termOf_0 (i := 22) (by decide +kernel) rfl
theorem dX11_termOf_23 : decode cX11_termOf 23 = .ok (.if_icmp .ge 42, 3) := zrD zrw_cX11_termOf_0 (i := 23) (by decide +kernel) rfl
theorem dX11_termOf_26 : decode cX11_termOf 26 = .ok (.aload_n 0, 1) := zrD zrw_cX11_termOf_0 (i := 26) (by decide +kernel) rfl
theorem dX11_termOf_27 : decode cX11_termOf 27 = .ok (.getfield 104, 3) := zrD zrw_cX11_termOf_0 (i := 27) (by decide +kernel) rfl
theorem dX11_termOf_30 : decode cX11_termOf 30 = .ok (.iload_n 3, 1) := zrD zrw_cX11_termOf_0 (i := 30) (by decide +kernel) rfl
def zrk_cX11_termOf_31 : ByteArray := .mk #[21, 5, 154, 0, 13, 42, 180, 0, 95, 21, 4, 46, 167, 0, 15, 42, 180, 0, 101, 42, 180, 0, 95, 21, 4, 46, 46, 79, 132, 3, 1]
theorem zrw_cX11_termOf_31 : zrW 31 cX11_termOf zrk_cX11_termOf_31 := by unfold zrW; decide +kernel
theorem dX11_termOf_31 : decode cX11_termOf 31 = .ok (.iload 5, 2) := zrD zrw_cX11_termOf_31 (i := 0) (by decide +kernel) rfl
theorem dX11_termOf_33 : decode cX11_termOf 33 = .ok (.ifCond .ne 13, 3) := zrD zrw_cX11_termOf_31 (i := 2) (by decide +kernel) rfl
theorem dX11_termOf_36 : decode cX11_termOf 36 = .ok (.aload_n 0, 1) := zrD zrw_cX11_termOf_31 (i := 5) (by decide +kernel) rfl
theorem dX11_termOf_37 : decode cX11_termOf 37 = .ok (.getfield 95, 3) := zrD zrw_cX11_termOf_31 (i := 6) (by decide +kernel) rfl
theorem dX11_termOf_40 : decode cX11_termOf 40 = .ok (.iload 4, 2) := zrD zrw_cX11_termOf_31 (i := 9) (by decide +kernel) rfl
theorem dX11_termOf_42 : decode cX11_termOf 42 = .ok (.iaload, 1) := zrD zrw_cX11_termOf_31 (i := 11) (by decide +kernel) rfl
theorem dX11_termOf_43 : decode cX11_termOf 43 = .ok (.goto 15, 3) := zrD zrw_cX11_termOf_31 (i := 12) (by decide +kernel) rfl
theorem dX11_termOf_46 : decode cX11_termOf 46 = .ok (.aload_n 0, 1) := zrD zrw_cX11_termOf_31 (i := 15) (by decide +kernel) rfl
theorem dX11_termOf_47 : decode cX11_termOf 47 = .ok (.getfield 101, 3) := zrD zrw_cX11_termOf_31 (i := 16) (by decide +kernel) rfl
theorem dX11_termOf_50 : decode cX11_termOf 50 = .ok (.aload_n 0, 1) := zrD zrw_cX11_termOf_31 (i := 19) (by decide +kernel) rfl
theorem dX11_termOf_51 : decode cX11_termOf 51 = .ok (.getfield 95, 3) := zrD zrw_cX11_termOf_31 (i := 20) (by decide +kernel) rfl
theorem dX11_termOf_54 : decode cX11_termOf 54 = .ok (.iload 4, 2) := zrD zrw_cX11_termOf_31 (i := 23) (by decide +kernel) rfl
theorem dX11_termOf_56 : decode cX11_termOf 56 = .ok (.iaload, 1) := zrD zrw_cX11_termOf_31 (i := 25) (by decide +kernel) rfl
theorem dX11_termOf_57 : decode cX11_termOf 57 = .ok (.iaload, 1) := zrD zrw_cX11_termOf_31 (i := 26) (by decide +kernel) rfl
theorem dX11_termOf_58 : decode cX11_termOf 58 = .ok (.iastore, 1) := zrD zrw_cX11_termOf_31 (i := 27) (by decide +kernel) rfl
theorem dX11_termOf_59 : decode cX11_termOf 59 = .ok (.iinc 3 1, 3) := zrD zrw_cX11_termOf_31 (i := 28) (by decide +kernel) rfl
def zrk_cX11_termOf_62 : ByteArray := .mk #[167, 0, 97, 132, 3, 255, 42, 180, 0, 104, 29, 4, 100, 46, 54, 6, 42, 180, 0, 104, 29, 46, 54, 7, 21, 5, 8, 160, 0, 15, 21, 7]
theorem zrw_cX11_termOf_62 : zrW 62 cX11_termOf zrk_cX11_termOf_62 := by unfold zrW; decide +kernel
theorem dX11_termOf_62 : decode cX11_termOf 62 = .ok (.goto 97, 3) := zrD zrw_cX11_termOf_62 (i := 0) (by decide +kernel) rfl
theorem dX11_termOf_65 : decode cX11_termOf 65 = .ok (.iinc 3 (-1), 3) := zrD zrw_cX11_termOf_62 (i := 3) (by decide +kernel) rfl
theorem dX11_termOf_68 : decode cX11_termOf 68 = .ok (.aload_n 0, 1) := zrD zrw_cX11_termOf_62 (i := 6) (by decide +kernel) rfl
theorem dX11_termOf_69 : decode cX11_termOf 69 = .ok (.getfield 104, 3) := zrD zrw_cX11_termOf_62 (i := 7) (by decide +kernel) rfl
theorem dX11_termOf_72 : decode cX11_termOf 72 = .ok (.iload_n 3, 1) := zrD zrw_cX11_termOf_62 (i := 10) (by decide +kernel) rfl
theorem dX11_termOf_73 : decode cX11_termOf 73 = .ok (.iconst 1, 1) := zrD zrw_cX11_termOf_62 (i := 11) (by decide +kernel) rfl
theorem dX11_termOf_74 : decode cX11_termOf 74 = .ok (.isub, 1) := zrD zrw_cX11_termOf_62 (i := 12) (by decide +kernel) rfl
theorem dX11_termOf_75 : decode cX11_termOf 75 = .ok (.iaload, 1) := zrD zrw_cX11_termOf_62 (i := 13) (by decide +kernel) rfl
theorem dX11_termOf_76 : decode cX11_termOf 76 = .ok (.istore 6, 2) := zrD zrw_cX11_termOf_62 (i := 14) (by decide +kernel) rfl
theorem dX11_termOf_78 : decode cX11_termOf 78 = .ok (.aload_n 0, 1) := zrD zrw_cX11_termOf_62 (i := 16) (by decide +kernel) rfl
theorem dX11_termOf_79 : decode cX11_termOf 79 = .ok (.getfield 104, 3) := zrD zrw_cX11_termOf_62 (i := 17) (by decide +kernel) rfl
theorem dX11_termOf_82 : decode cX11_termOf 82 = .ok (.iload_n 3, 1) := zrD zrw_cX11_termOf_62 (i := 20) (by decide +kernel) rfl
theorem dX11_termOf_83 : decode cX11_termOf 83 = .ok (.iaload, 1) := zrD zrw_cX11_termOf_62 (i := 21) (by decide +kernel) rfl
theorem dX11_termOf_84 : decode cX11_termOf 84 = .ok (.istore 7, 2) := zrD zrw_cX11_termOf_62 (i := 22) (by decide +kernel) rfl
theorem dX11_termOf_86 : decode cX11_termOf 86 = .ok (.iload 5, 2) := zrD zrw_cX11_termOf_62 (i := 24) (by decide +kernel) rfl
theorem dX11_termOf_88 : decode cX11_termOf 88 = .ok (.iconst 5, 1) := zrD zrw_cX11_termOf_62 (i := 26) (by decide +kernel) rfl
theorem dX11_termOf_89 : decode cX11_termOf 89 = .ok (.if_icmp .ne 15, 3) := zrD zrw_cX11_termOf_62 (i := 27) (by decide +kernel) rfl
theorem dX11_termOf_92 : decode cX11_termOf 92 = .ok (.iload 7, 2) := zrD zrw_cX11_termOf_62 (i := 30) (by decide +kernel) rfl
def zrk_cX11_termOf_94 : ByteArray := .mk #[154, 0, 10, 42, 4, 181, 1, 54, 3, 172, 42, 180, 0, 104, 29, 4, 100, 21, 5, 5, 160, 0, 11, 21, 6, 21, 7, 96, 167, 0, 36]
theorem zrw_cX11_termOf_94 : zrW 94 cX11_termOf zrk_cX11_termOf_94 := by unfold zrW; decide +kernel
theorem dX11_termOf_94 : decode cX11_termOf 94 = .ok (.ifCond .ne 10, 3) := zrD zrw_cX11_termOf_94 (i := 0) (by decide +kernel) rfl
theorem dX11_termOf_97 : decode cX11_termOf 97 = .ok (.aload_n 0, 1) := zrD zrw_cX11_termOf_94 (i := 3) (by decide +kernel) rfl
theorem dX11_termOf_98 : decode cX11_termOf 98 = .ok (.iconst 1, 1) := zrD zrw_cX11_termOf_94 (i := 4) (by decide +kernel) rfl
theorem dX11_termOf_99 : decode cX11_termOf 99 = .ok (.putfield 310, 3) := zrD zrw_cX11_termOf_94 (i := 5) (by decide +kernel) rfl
theorem dX11_termOf_102 : decode cX11_termOf 102 = .ok (.iconst 0, 1) := zrD zrw_cX11_termOf_94 (i := 8) (by decide +kernel) rfl
theorem dX11_termOf_103 : decode cX11_termOf 103 = .ok (.ireturn, 1) := zrD zrw_cX11_termOf_94 (i := 9) (by decide +kernel) rfl
theorem dX11_termOf_104 : decode cX11_termOf 104 = .ok (.aload_n 0, 1) := zrD zrw_cX11_termOf_94 (i := 10) (by decide +kernel) rfl
theorem dX11_termOf_105 : decode cX11_termOf 105 = .ok (.getfield 104, 3) := zrD zrw_cX11_termOf_94 (i := 11) (by decide +kernel) rfl
theorem dX11_termOf_108 : decode cX11_termOf 108 = .ok (.iload_n 3, 1) := zrD zrw_cX11_termOf_94 (i := 14) (by decide +kernel) rfl
theorem dX11_termOf_109 : decode cX11_termOf 109 = .ok (.iconst 1, 1) := zrD zrw_cX11_termOf_94 (i := 15) (by decide +kernel) rfl
theorem dX11_termOf_110 : decode cX11_termOf 110 = .ok (.isub, 1) := zrD zrw_cX11_termOf_94 (i := 16) (by decide +kernel) rfl
theorem dX11_termOf_111 : decode cX11_termOf 111 = .ok (.iload 5, 2) := zrD zrw_cX11_termOf_94 (i := 17) (by decide +kernel) rfl
theorem dX11_termOf_113 : decode cX11_termOf 113 = .ok (.iconst 2, 1) := zrD zrw_cX11_termOf_94 (i := 19) (by decide +kernel) rfl
theorem dX11_termOf_114 : decode cX11_termOf 114 = .ok (.if_icmp .ne 11, 3) := zrD zrw_cX11_termOf_94 (i := 20) (by decide +kernel) rfl
theorem dX11_termOf_117 : decode cX11_termOf 117 = .ok (.iload 6, 2) := zrD zrw_cX11_termOf_94 (i := 23) (by decide +kernel) rfl
theorem dX11_termOf_119 : decode cX11_termOf 119 = .ok (.iload 7, 2) := zrD zrw_cX11_termOf_94 (i := 25) (by decide +kernel) rfl
theorem dX11_termOf_121 : decode cX11_termOf 121 = .ok (.iadd, 1) := zrD zrw_cX11_termOf_94 (i := 27) (by decide +kernel) rfl
theorem dX11_termOf_122 : decode cX11_termOf 122 = .ok (.goto 36, 3) := zrD zrw_cX11_termOf_94 (i := 28) (by decide +kernel) rfl
def zrk_cX11_termOf_125 : ByteArray := .mk #[21, 5, 6, 160, 0, 11, 21, 6, 21, 7, 100, 167, 0, 22, 21, 5, 7, 160, 0, 11, 21, 6, 21, 7, 104, 167, 0, 8, 21, 6, 21, 7]
theorem zrw_cX11_termOf_125 : zrW 125 cX11_termOf zrk_cX11_termOf_125 := by unfold zrW; decide +kernel
theorem dX11_termOf_125 : decode cX11_termOf 125 = .ok (.iload 5, 2) := zrD zrw_cX11_termOf_125 (i := 0) (by decide +kernel) rfl
theorem dX11_termOf_127 : decode cX11_termOf 127 = .ok (.iconst 3, 1) := zrD zrw_cX11_termOf_125 (i := 2) (by decide +kernel) rfl
theorem dX11_termOf_128 : decode cX11_termOf 128 = .ok (.if_icmp .ne 11, 3) := zrD zrw_cX11_termOf_125 (i := 3) (by decide +kernel) rfl
theorem dX11_termOf_131 : decode cX11_termOf 131 = .ok (.iload 6, 2) := zrD zrw_cX11_termOf_125 (i := 6) (by decide +kernel) rfl
theorem dX11_termOf_133 : decode cX11_termOf 133 = .ok (.iload 7, 2) := zrD zrw_cX11_termOf_125 (i := 8) (by decide +kernel) rfl
theorem dX11_termOf_135 : decode cX11_termOf 135 = .ok (.isub, 1) := zrD zrw_cX11_termOf_125 (i := 10) (by decide +kernel) rfl
theorem dX11_termOf_136 : decode cX11_termOf 136 = .ok (.goto 22, 3) := zrD zrw_cX11_termOf_125 (i := 11) (by decide +kernel) rfl
theorem dX11_termOf_139 : decode cX11_termOf 139 = .ok (.iload 5, 2) := zrD zrw_cX11_termOf_125 (i := 14) (by decide +kernel) rfl
theorem dX11_termOf_141 : decode cX11_termOf 141 = .ok (.iconst 4, 1) := zrD zrw_cX11_termOf_125 (i := 16) (by decide +kernel) rfl
theorem dX11_termOf_142 : decode cX11_termOf 142 = .ok (.if_icmp .ne 11, 3) := zrD zrw_cX11_termOf_125 (i := 17) (by decide +kernel) rfl
theorem dX11_termOf_145 : decode cX11_termOf 145 = .ok (.iload 6, 2) := zrD zrw_cX11_termOf_125 (i := 20) (by decide +kernel) rfl
theorem dX11_termOf_147 : decode cX11_termOf 147 = .ok (.iload 7, 2) := zrD zrw_cX11_termOf_125 (i := 22) (by decide +kernel) rfl
theorem dX11_termOf_149 : decode cX11_termOf 149 = .ok (.imul, 1) := zrD zrw_cX11_termOf_125 (i := 24) (by decide +kernel) rfl
theorem dX11_termOf_150 : decode cX11_termOf 150 = .ok (.goto 8, 3) := zrD zrw_cX11_termOf_125 (i := 25) (by decide +kernel) rfl
theorem dX11_termOf_153 : decode cX11_termOf 153 = .ok (.iload 6, 2) := zrD zrw_cX11_termOf_125 (i := 28) (by decide +kernel) rfl
theorem dX11_termOf_155 : decode cX11_termOf 155 = .ok (.iload 7, 2) := zrD zrw_cX11_termOf_125 (i := 30) (by decide +kernel) rfl
def zrk_cX11_termOf_157 : ByteArray := .mk #[108, 79, 132, 4, 1, 167, 255, 99, 42, 180, 0, 104, 3, 46, 172]
theorem zrw_cX11_termOf_157 : zrW 157 cX11_termOf zrk_cX11_termOf_157 := by unfold zrW; decide +kernel
theorem dX11_termOf_157 : decode cX11_termOf 157 = .ok (.idiv, 1) := zrD zrw_cX11_termOf_157 (i := 0) (by decide +kernel) rfl
theorem dX11_termOf_158 : decode cX11_termOf 158 = .ok (.iastore, 1) := zrD zrw_cX11_termOf_157 (i := 1) (by decide +kernel) rfl
theorem dX11_termOf_159 : decode cX11_termOf 159 = .ok (.iinc 4 1, 3) := zrD zrw_cX11_termOf_157 (i := 2) (by decide +kernel) rfl
theorem dX11_termOf_162 : decode cX11_termOf 162 = .ok (.goto (-157), 3) := zrD zrw_cX11_termOf_157 (i := 5) (by decide +kernel) rfl
theorem dX11_termOf_165 : decode cX11_termOf 165 = .ok (.aload_n 0, 1) := zrD zrw_cX11_termOf_157 (i := 8) (by decide +kernel) rfl
theorem dX11_termOf_166 : decode cX11_termOf 166 = .ok (.getfield 104, 3) := zrD zrw_cX11_termOf_157 (i := 9) (by decide +kernel) rfl
theorem dX11_termOf_169 : decode cX11_termOf 169 = .ok (.iconst 0, 1) := zrD zrw_cX11_termOf_157 (i := 12) (by decide +kernel) rfl
theorem dX11_termOf_170 : decode cX11_termOf 170 = .ok (.iaload, 1) := zrD zrw_cX11_termOf_157 (i := 13) (by decide +kernel) rfl
theorem dX11_termOf_171 : decode cX11_termOf 171 = .ok (.ireturn, 1) := zrD zrw_cX11_termOf_157 (i := 14) (by decide +kernel) rfl
def zrk_cX11_in_0 : ByteArray := .mk #[26, 27, 161, 0, 12, 26, 28, 163, 0, 7, 4, 167, 0, 4, 3, 172]
theorem zrw_cX11_in_0 : zrW 0 cX11_in zrk_cX11_in_0 := by unfold zrW; decide +kernel
theorem dX11_in_0 : decode cX11_in 0 = .ok (.iload_n 0, 1) := zrD zrw_cX11_in_0 (i := 0) (by decide +kernel) rfl
theorem dX11_in_1 : decode cX11_in 1 = .ok (.iload_n 1, 1) := zrD zrw_cX11_in_0 (i := 1) (by decide +kernel) rfl
theorem dX11_in_2 : decode cX11_in 2 = .ok (.if_icmp .lt 12, 3) := zrD zrw_cX11_in_0 (i := 2) (by decide +kernel) rfl
theorem dX11_in_5 : decode cX11_in 5 = .ok (.iload_n 0, 1) := zrD zrw_cX11_in_0 (i := 5) (by decide +kernel) rfl
theorem dX11_in_6 : decode cX11_in 6 = .ok (.iload_n 2, 1) := zrD zrw_cX11_in_0 (i := 6) (by decide +kernel) rfl
theorem dX11_in_7 : decode cX11_in 7 = .ok (.if_icmp .gt 7, 3) := zrD zrw_cX11_in_0 (i := 7) (by decide +kernel) rfl
theorem dX11_in_10 : decode cX11_in 10 = .ok (.iconst 1, 1) := zrD zrw_cX11_in_0 (i := 10) (by decide +kernel) rfl
theorem dX11_in_11 : decode cX11_in 11 = .ok (.goto 4, 3) := zrD zrw_cX11_in_0 (i := 11) (by decide +kernel) rfl
theorem dX11_in_14 : decode cX11_in 14 = .ok (.iconst 0, 1) := zrD zrw_cX11_in_0 (i := 14) (by decide +kernel) rfl
theorem dX11_in_15 : decode cX11_in 15 = .ok (.ireturn, 1) := zrD zrw_cX11_in_0 (i := 15) (by decide +kernel) rfl
def zrk_cX11_within_0 : ByteArray := .mk #[26, 27, 162, 0, 7, 27, 167, 0, 13, 26, 28, 164, 0, 7, 28, 167, 0, 4, 26, 172]
theorem zrw_cX11_within_0 : zrW 0 cX11_within zrk_cX11_within_0 := by unfold zrW; decide +kernel
theorem dX11_within_0 : decode cX11_within 0 = .ok (.iload_n 0, 1) := zrD zrw_cX11_within_0 (i := 0) (by decide +kernel) rfl
theorem dX11_within_1 : decode cX11_within 1 = .ok (.iload_n 1, 1) := zrD zrw_cX11_within_0 (i := 1) (by decide +kernel) rfl
theorem dX11_within_2 : decode cX11_within 2 = .ok (.if_icmp .ge 7, 3) := zrD zrw_cX11_within_0 (i := 2) (by decide +kernel) rfl
theorem dX11_within_5 : decode cX11_within 5 = .ok (.iload_n 1, 1) := zrD zrw_cX11_within_0 (i := 5) (by decide +kernel) rfl
theorem dX11_within_6 : decode cX11_within 6 = .ok (.goto 13, 3) := zrD zrw_cX11_within_0 (i := 6) (by decide +kernel) rfl
theorem dX11_within_9 : decode cX11_within 9 = .ok (.iload_n 0, 1) := zrD zrw_cX11_within_0 (i := 9) (by decide +kernel) rfl
theorem dX11_within_10 : decode cX11_within 10 = .ok (.iload_n 2, 1) := zrD zrw_cX11_within_0 (i := 10) (by decide +kernel) rfl
theorem dX11_within_11 : decode cX11_within 11 = .ok (.if_icmp .le 7, 3) := zrD zrw_cX11_within_0 (i := 11) (by decide +kernel) rfl
theorem dX11_within_14 : decode cX11_within 14 = .ok (.iload_n 2, 1) := zrD zrw_cX11_within_0 (i := 14) (by decide +kernel) rfl
theorem dX11_within_15 : decode cX11_within 15 = .ok (.goto 4, 3) := zrD zrw_cX11_within_0 (i := 15) (by decide +kernel) rfl
theorem dX11_within_18 : decode cX11_within 18 = .ok (.iload_n 0, 1) := zrD zrw_cX11_within_0 (i := 18) (by decide +kernel) rfl
theorem dX11_within_19 : decode cX11_within 19 = .ok (.ireturn, 1) := zrD zrw_cX11_within_0 (i := 19) (by decide +kernel) rfl
def zrk_cX11_bits_0 : ByteArray := .mk #[3, 60, 3, 61, 28, 16, 12, 162, 0, 17, 27, 26, 28, 122, 4, 126, 96, 60, 132, 2, 1, 167, 255, 239, 27, 172]
theorem zrw_cX11_bits_0 : zrW 0 cX11_bits zrk_cX11_bits_0 := by unfold zrW; decide +kernel
theorem dX11_bits_0 : decode cX11_bits 0 = .ok (.iconst 0, 1) := zrD zrw_cX11_bits_0 (i := 0) (by decide +kernel) rfl
theorem dX11_bits_1 : decode cX11_bits 1 = .ok (.istore_n 1, 1) := zrD zrw_cX11_bits_0 (i := 1) (by decide +kernel) rfl
theorem dX11_bits_2 : decode cX11_bits 2 = .ok (.iconst 0, 1) := zrD zrw_cX11_bits_0 (i := 2) (by decide +kernel) rfl
theorem dX11_bits_3 : decode cX11_bits 3 = .ok (.istore_n 2, 1) := zrD zrw_cX11_bits_0 (i := 3) (by decide +kernel) rfl
theorem dX11_bits_4 : decode cX11_bits 4 = .ok (.iload_n 2, 1) := zrD zrw_cX11_bits_0 (i := 4) (by decide +kernel) rfl
theorem dX11_bits_5 : decode cX11_bits 5 = .ok (.bipush 12, 2) := zrD zrw_cX11_bits_0 (i := 5) (by decide +kernel) rfl
theorem dX11_bits_7 : decode cX11_bits 7 = .ok (.if_icmp .ge 17, 3) := zrD zrw_cX11_bits_0 (i := 7) (by decide +kernel) rfl
theorem dX11_bits_10 : decode cX11_bits 10 = .ok (.iload_n 1, 1) := zrD zrw_cX11_bits_0 (i := 10) (by decide +kernel) rfl
theorem dX11_bits_11 : decode cX11_bits 11 = .ok (.iload_n 0, 1) := zrD zrw_cX11_bits_0 (i := 11) (by decide +kernel) rfl
theorem dX11_bits_12 : decode cX11_bits 12 = .ok (.iload_n 2, 1) := zrD zrw_cX11_bits_0 (i := 12) (by decide +kernel) rfl
theorem dX11_bits_13 : decode cX11_bits 13 = .ok (.ishr, 1) := zrD zrw_cX11_bits_0 (i := 13) (by decide +kernel) rfl
theorem dX11_bits_14 : decode cX11_bits 14 = .ok (.iconst 1, 1) := zrD zrw_cX11_bits_0 (i := 14) (by decide +kernel) rfl
theorem dX11_bits_15 : decode cX11_bits 15 = .ok (.iand, 1) := zrD zrw_cX11_bits_0 (i := 15) (by decide +kernel) rfl
theorem dX11_bits_16 : decode cX11_bits 16 = .ok (.iadd, 1) := zrD zrw_cX11_bits_0 (i := 16) (by decide +kernel) rfl
theorem dX11_bits_17 : decode cX11_bits 17 = .ok (.istore_n 1, 1) := zrD zrw_cX11_bits_0 (i := 17) (by decide +kernel) rfl
theorem dX11_bits_18 : decode cX11_bits 18 = .ok (.iinc 2 1, 3) := zrD zrw_cX11_bits_0 (i := 18) (by decide +kernel) rfl
theorem dX11_bits_21 : decode cX11_bits 21 = .ok (.goto (-17), 3) := zrD zrw_cX11_bits_0 (i := 21) (by decide +kernel) rfl
theorem dX11_bits_24 : decode cX11_bits 24 = .ok (.iload_n 1, 1) := zrD zrw_cX11_bits_0 (i := 24) (by decide +kernel) rfl
theorem dX11_bits_25 : decode cX11_bits 25 = .ok (.ireturn, 1) := zrD zrw_cX11_bits_0 (i := 25) (by decide +kernel) rfl
def zrk_cX11_many_0 : ByteArray := .mk #[42, 180, 0, 43, 42, 180, 0, 236, 46, 172]
theorem zrw_cX11_many_0 : zrW 0 cX11_many zrk_cX11_many_0 := by unfold zrW; decide +kernel
theorem dX11_many_0 : decode cX11_many 0 = .ok (.aload_n 0, 1) := zrD zrw_cX11_many_0 (i := 0) (by decide +kernel) rfl
theorem dX11_many_1 : decode cX11_many 1 = .ok (.getfield 43, 3) := zrD zrw_cX11_many_0 (i := 1) (by decide +kernel) rfl
theorem dX11_many_4 : decode cX11_many 4 = .ok (.aload_n 0, 1) := zrD zrw_cX11_many_0 (i := 4) (by decide +kernel) rfl
theorem dX11_many_5 : decode cX11_many 5 = .ok (.getfield 236, 3) := zrD zrw_cX11_many_0 (i := 5) (by decide +kernel) rfl
theorem dX11_many_8 : decode cX11_many 8 = .ok (.iaload, 1) := zrD zrw_cX11_many_0 (i := 8) (by decide +kernel) rfl
theorem dX11_many_9 : decode cX11_many 9 = .ok (.ireturn, 1) := zrD zrw_cX11_many_0 (i := 9) (by decide +kernel) rfl
def zrk_cX11_isPlace_0 : ByteArray := .mk #[27, 3, 42, 182, 1, 57, 4, 100, 184, 1, 60, 172]
theorem zrw_cX11_isPlace_0 : zrW 0 cX11_isPlace zrk_cX11_isPlace_0 := by unfold zrW; decide +kernel
theorem dX11_isPlace_0 : decode cX11_isPlace 0 = .ok (.iload_n 1, 1) := zrD zrw_cX11_isPlace_0 (i := 0) (by decide +kernel) rfl
theorem dX11_isPlace_1 : decode cX11_isPlace 1 = .ok (.iconst 0, 1) := zrD zrw_cX11_isPlace_0 (i := 1) (by decide +kernel) rfl
theorem dX11_isPlace_2 : decode cX11_isPlace 2 = .ok (.aload_n 0, 1) := zrD zrw_cX11_isPlace_0 (i := 2) (by decide +kernel) rfl
theorem dX11_isPlace_3 : decode cX11_isPlace 3 = .ok (.invokevirtual 313, 3) := zrD zrw_cX11_isPlace_0 (i := 3) (by decide +kernel) rfl
theorem dX11_isPlace_6 : decode cX11_isPlace 6 = .ok (.iconst 1, 1) := zrD zrw_cX11_isPlace_0 (i := 6) (by decide +kernel) rfl
theorem dX11_isPlace_7 : decode cX11_isPlace 7 = .ok (.isub, 1) := zrD zrw_cX11_isPlace_0 (i := 7) (by decide +kernel) rfl
theorem dX11_isPlace_8 : decode cX11_isPlace 8 = .ok (.invokestatic 316, 3) := zrD zrw_cX11_isPlace_0 (i := 8) (by decide +kernel) rfl
theorem dX11_isPlace_11 : decode cX11_isPlace 11 = .ok (.ireturn, 1) := zrD zrw_cX11_isPlace_0 (i := 11) (by decide +kernel) rfl
def zrk_cX11_isBeside_0 : ByteArray := .mk #[27, 4, 42, 182, 1, 57, 4, 100, 184, 1, 60, 172]
theorem zrw_cX11_isBeside_0 : zrW 0 cX11_isBeside zrk_cX11_isBeside_0 := by unfold zrW; decide +kernel
theorem dX11_isBeside_0 : decode cX11_isBeside 0 = .ok (.iload_n 1, 1) := zrD zrw_cX11_isBeside_0 (i := 0) (by decide +kernel) rfl
theorem dX11_isBeside_1 : decode cX11_isBeside 1 = .ok (.iconst 1, 1) := zrD zrw_cX11_isBeside_0 (i := 1) (by decide +kernel) rfl
theorem dX11_isBeside_2 : decode cX11_isBeside 2 = .ok (.aload_n 0, 1) := zrD zrw_cX11_isBeside_0 (i := 2) (by decide +kernel) rfl
theorem dX11_isBeside_3 : decode cX11_isBeside 3 = .ok (.invokevirtual 313, 3) := zrD zrw_cX11_isBeside_0 (i := 3) (by decide +kernel) rfl
theorem dX11_isBeside_6 : decode cX11_isBeside 6 = .ok (.iconst 1, 1) := zrD zrw_cX11_isBeside_0 (i := 6) (by decide +kernel) rfl
theorem dX11_isBeside_7 : decode cX11_isBeside 7 = .ok (.isub, 1) := zrD zrw_cX11_isBeside_0 (i := 7) (by decide +kernel) rfl
theorem dX11_isBeside_8 : decode cX11_isBeside 8 = .ok (.invokestatic 316, 3) := zrD zrw_cX11_isBeside_0 (i := 8) (by decide +kernel) rfl
theorem dX11_isBeside_11 : decode cX11_isBeside 11 = .ok (.ireturn, 1) := zrD zrw_cX11_isBeside_0 (i := 11) (by decide +kernel) rfl
def zrk_cX11_isLaw_0 : ByteArray := .mk #[26, 3, 5, 184, 1, 60, 172]
theorem zrw_cX11_isLaw_0 : zrW 0 cX11_isLaw zrk_cX11_isLaw_0 := by unfold zrW; decide +kernel
theorem dX11_isLaw_0 : decode cX11_isLaw 0 = .ok (.iload_n 0, 1) := zrD zrw_cX11_isLaw_0 (i := 0) (by decide +kernel) rfl
theorem dX11_isLaw_1 : decode cX11_isLaw 1 = .ok (.iconst 0, 1) := zrD zrw_cX11_isLaw_0 (i := 1) (by decide +kernel) rfl
theorem dX11_isLaw_2 : decode cX11_isLaw 2 = .ok (.iconst 2, 1) := zrD zrw_cX11_isLaw_0 (i := 2) (by decide +kernel) rfl
theorem dX11_isLaw_3 : decode cX11_isLaw 3 = .ok (.invokestatic 316, 3) := zrD zrw_cX11_isLaw_0 (i := 3) (by decide +kernel) rfl
theorem dX11_isLaw_6 : decode cX11_isLaw 6 = .ok (.ireturn, 1) := zrD zrw_cX11_isLaw_0 (i := 6) (by decide +kernel) rfl
def zrk_cX11_begins_0 : ByteArray := .mk #[3, 60, 27, 16, 50, 162, 0, 16, 42, 180, 0, 110, 27, 3, 79, 132, 1, 1, 167, 255, 240, 3, 60, 27, 42, 182, 1, 57, 162, 0, 29, 42]
theorem zrw_cX11_begins_0 : zrW 0 cX11_begins zrk_cX11_begins_0 := by unfold zrW; decide +kernel
theorem dX11_begins_0 : decode cX11_begins 0 = .ok (.iconst 0, 1) := zrD zrw_cX11_begins_0 (i := 0) (by decide +kernel) rfl
theorem dX11_begins_1 : decode cX11_begins 1 = .ok (.istore_n 1, 1) := zrD zrw_cX11_begins_0 (i := 1) (by decide +kernel) rfl
theorem dX11_begins_2 : decode cX11_begins 2 = .ok (.iload_n 1, 1) := zrD zrw_cX11_begins_0 (i := 2) (by decide +kernel) rfl
theorem dX11_begins_3 : decode cX11_begins 3 = .ok (.bipush 50, 2) := zrD zrw_cX11_begins_0 (i := 3) (by decide +kernel) rfl
theorem dX11_begins_5 : decode cX11_begins 5 = .ok (.if_icmp .ge 16, 3) := zrD zrw_cX11_begins_0 (i := 5) (by decide +kernel) rfl
theorem dX11_begins_8 : decode cX11_begins 8 = .ok (.aload_n 0, 1) := zrD zrw_cX11_begins_0 (i := 8) (by decide +kernel) rfl
theorem dX11_begins_9 : decode cX11_begins 9 = .ok (.getfield 110, 3) := zrD zrw_cX11_begins_0 (i := 9) (by decide +kernel) rfl
theorem dX11_begins_12 : decode cX11_begins 12 = .ok (.iload_n 1, 1) := zrD zrw_cX11_begins_0 (i := 12) (by decide +kernel) rfl
theorem dX11_begins_13 : decode cX11_begins 13 = .ok (.iconst 0, 1) := zrD zrw_cX11_begins_0 (i := 13) (by decide +kernel) rfl
theorem dX11_begins_14 : decode cX11_begins 14 = .ok (.iastore, 1) := zrD zrw_cX11_begins_0 (i := 14) (by decide +kernel) rfl
theorem dX11_begins_15 : decode cX11_begins 15 = .ok (.iinc 1 1, 3) := zrD zrw_cX11_begins_0 (i := 15) (by decide +kernel) rfl
theorem dX11_begins_18 : decode cX11_begins 18 = .ok (.goto (-16), 3) := zrD zrw_cX11_begins_0 (i := 18) (by decide +kernel) rfl
theorem dX11_begins_21 : decode cX11_begins 21 = .ok (.iconst 0, 1) := zrD zrw_cX11_begins_0 (i := 21) (by decide +kernel) rfl
theorem dX11_begins_22 : decode cX11_begins 22 = .ok (.istore_n 1, 1) := zrD zrw_cX11_begins_0 (i := 22) (by decide +kernel) rfl
theorem dX11_begins_23 : decode cX11_begins 23 = .ok (.iload_n 1, 1) := zrD zrw_cX11_begins_0 (i := 23) (by decide +kernel) rfl
theorem dX11_begins_24 : decode cX11_begins 24 = .ok (.aload_n 0, 1) := zrD zrw_cX11_begins_0 (i := 24) (by decide +kernel) rfl
theorem dX11_begins_25 : decode cX11_begins 25 = .ok (.invokevirtual 313, 3) := zrD zrw_cX11_begins_0 (i := 25) (by decide +kernel) rfl
theorem dX11_begins_28 : decode cX11_begins 28 = .ok (.if_icmp .ge 29, 3) := zrD zrw_cX11_begins_0 (i := 28) (by decide +kernel) rfl
theorem dX11_begins_31 : decode cX11_begins 31 = .ok (.aload_n 0, 1) := zrD zrw_cX11_begins_0 (i := 31) (by decide +kernel) rfl
def zrk_cX11_begins_32 : ByteArray := .mk #[180, 0, 110, 27, 42, 180, 0, 46, 16, 12, 42, 180, 0, 236, 104, 27, 96, 46, 79, 132, 1, 1, 167, 255, 225, 42, 42, 180, 0, 67, 42]
theorem zrw_cX11_begins_32 : zrW 32 cX11_begins zrk_cX11_begins_32 := by unfold zrW; decide +kernel
theorem dX11_begins_32 : decode cX11_begins 32 = .ok (.getfield 110, 3) := zrD zrw_cX11_begins_32 (i := 0) (by decide +kernel) rfl
theorem dX11_begins_35 : decode cX11_begins 35 = .ok (.iload_n 1, 1) := zrD zrw_cX11_begins_32 (i := 3) (by decide +kernel) rfl
theorem dX11_begins_36 : decode cX11_begins 36 = .ok (.aload_n 0, 1) := zrD zrw_cX11_begins_32 (i := 4) (by decide +kernel) rfl
theorem dX11_begins_37 : decode cX11_begins 37 = .ok (.getfield 46, 3) := zrD zrw_cX11_begins_32 (i := 5) (by decide +kernel) rfl
theorem dX11_begins_40 : decode cX11_begins 40 = .ok (.bipush 12, 2) := zrD zrw_cX11_begins_32 (i := 8) (by decide +kernel) rfl
theorem dX11_begins_42 : decode cX11_begins 42 = .ok (.aload_n 0, 1) := zrD zrw_cX11_begins_32 (i := 10) (by decide +kernel) rfl
theorem dX11_begins_43 : decode cX11_begins 43 = .ok (.getfield 236, 3) := zrD zrw_cX11_begins_32 (i := 11) (by decide +kernel) rfl
theorem dX11_begins_46 : decode cX11_begins 46 = .ok (.imul, 1) := zrD zrw_cX11_begins_32 (i := 14) (by decide +kernel) rfl
theorem dX11_begins_47 : decode cX11_begins 47 = .ok (.iload_n 1, 1) := zrD zrw_cX11_begins_32 (i := 15) (by decide +kernel) rfl
theorem dX11_begins_48 : decode cX11_begins 48 = .ok (.iadd, 1) := zrD zrw_cX11_begins_32 (i := 16) (by decide +kernel) rfl
theorem dX11_begins_49 : decode cX11_begins 49 = .ok (.iaload, 1) := zrD zrw_cX11_begins_32 (i := 17) (by decide +kernel) rfl
theorem dX11_begins_50 : decode cX11_begins 50 = .ok (.iastore, 1) := zrD zrw_cX11_begins_32 (i := 18) (by decide +kernel) rfl
theorem dX11_begins_51 : decode cX11_begins 51 = .ok (.iinc 1 1, 3) := zrD zrw_cX11_begins_32 (i := 19) (by decide +kernel) rfl
theorem dX11_begins_54 : decode cX11_begins 54 = .ok (.goto (-31), 3) := zrD zrw_cX11_begins_32 (i := 22) (by decide +kernel) rfl
theorem dX11_begins_57 : decode cX11_begins 57 = .ok (.aload_n 0, 1) := zrD zrw_cX11_begins_32 (i := 25) (by decide +kernel) rfl
theorem dX11_begins_58 : decode cX11_begins 58 = .ok (.aload_n 0, 1) := zrD zrw_cX11_begins_32 (i := 26) (by decide +kernel) rfl
theorem dX11_begins_59 : decode cX11_begins 59 = .ok (.getfield 67, 3) := zrD zrw_cX11_begins_32 (i := 27) (by decide +kernel) rfl
theorem dX11_begins_62 : decode cX11_begins 62 = .ok (.aload_n 0, 1) := zrD zrw_cX11_begins_32 (i := 30) (by decide +kernel) rfl
def zrk_cX11_begins_63 : ByteArray := .mk #[180, 0, 236, 46, 181, 1, 64, 42, 3, 181, 1, 67, 177]
theorem zrw_cX11_begins_63 : zrW 63 cX11_begins zrk_cX11_begins_63 := by unfold zrW; decide +kernel
theorem dX11_begins_63 : decode cX11_begins 63 = .ok (.getfield 236, 3) := zrD zrw_cX11_begins_63 (i := 0) (by decide +kernel) rfl
theorem dX11_begins_66 : decode cX11_begins 66 = .ok (.iaload, 1) := zrD zrw_cX11_begins_63 (i := 3) (by decide +kernel) rfl
theorem dX11_begins_67 : decode cX11_begins 67 = .ok (.putfield 320, 3) := zrD zrw_cX11_begins_63 (i := 4) (by decide +kernel) rfl
theorem dX11_begins_70 : decode cX11_begins 70 = .ok (.aload_n 0, 1) := zrD zrw_cX11_begins_63 (i := 7) (by decide +kernel) rfl
theorem dX11_begins_71 : decode cX11_begins 71 = .ok (.iconst 0, 1) := zrD zrw_cX11_begins_63 (i := 8) (by decide +kernel) rfl
theorem dX11_begins_72 : decode cX11_begins 72 = .ok (.putfield 323, 3) := zrD zrw_cX11_begins_63 (i := 9) (by decide +kernel) rfl
theorem dX11_begins_75 : decode cX11_begins 75 = .ok (.return_, 1) := zrD zrw_cX11_begins_63 (i := 12) (by decide +kernel) rfl
def zrk_cX11_keepsRow_0 : ByteArray := .mk #[3, 60, 27, 16, 50, 162, 0, 21, 42, 180, 0, 107, 27, 42, 180, 0, 110, 27, 46, 79, 132, 1, 1, 167, 255, 235, 177]
theorem zrw_cX11_keepsRow_0 : zrW 0 cX11_keepsRow zrk_cX11_keepsRow_0 := by unfold zrW; decide +kernel
theorem dX11_keepsRow_0 : decode cX11_keepsRow 0 = .ok (.iconst 0, 1) := zrD zrw_cX11_keepsRow_0 (i := 0) (by decide +kernel) rfl
theorem dX11_keepsRow_1 : decode cX11_keepsRow 1 = .ok (.istore_n 1, 1) := zrD zrw_cX11_keepsRow_0 (i := 1) (by decide +kernel) rfl
theorem dX11_keepsRow_2 : decode cX11_keepsRow 2 = .ok (.iload_n 1, 1) := zrD zrw_cX11_keepsRow_0 (i := 2) (by decide +kernel) rfl
theorem dX11_keepsRow_3 : decode cX11_keepsRow 3 = .ok (.bipush 50, 2) := zrD zrw_cX11_keepsRow_0 (i := 3) (by decide +kernel) rfl
theorem dX11_keepsRow_5 : decode cX11_keepsRow 5 = .ok (.if_icmp .ge 21, 3) := zrD zrw_cX11_keepsRow_0 (i := 5) (by decide +kernel) rfl
theorem dX11_keepsRow_8 : decode cX11_keepsRow 8 = .ok (.aload_n 0, 1) := zrD zrw_cX11_keepsRow_0 (i := 8) (by decide +kernel) rfl
theorem dX11_keepsRow_9 : decode cX11_keepsRow 9 = .ok (.getfield 107, 3) := zrD zrw_cX11_keepsRow_0 (i := 9) (by decide +kernel) rfl
theorem dX11_keepsRow_12 : decode cX11_keepsRow 12 = .ok (.iload_n 1, 1) := zrD zrw_cX11_keepsRow_0 (i := 12) (by decide +kernel) rfl
theorem dX11_keepsRow_13 : decode cX11_keepsRow 13 = .ok (.aload_n 0, 1) := zrD zrw_cX11_keepsRow_0 (i := 13) (by decide +kernel) rfl
theorem dX11_keepsRow_14 : decode cX11_keepsRow 14 = .ok (.getfield 110, 3) := zrD zrw_cX11_keepsRow_0 (i := 14) (by decide +kernel) rfl
theorem dX11_keepsRow_17 : decode cX11_keepsRow 17 = .ok (.iload_n 1, 1) := zrD zrw_cX11_keepsRow_0 (i := 17) (by decide +kernel) rfl
theorem dX11_keepsRow_18 : decode cX11_keepsRow 18 = .ok (.iaload, 1) := zrD zrw_cX11_keepsRow_0 (i := 18) (by decide +kernel) rfl
theorem dX11_keepsRow_19 : decode cX11_keepsRow 19 = .ok (.iastore, 1) := zrD zrw_cX11_keepsRow_0 (i := 19) (by decide +kernel) rfl
theorem dX11_keepsRow_20 : decode cX11_keepsRow 20 = .ok (.iinc 1 1, 3) := zrD zrw_cX11_keepsRow_0 (i := 20) (by decide +kernel) rfl
theorem dX11_keepsRow_23 : decode cX11_keepsRow 23 = .ok (.goto (-21), 3) := zrD zrw_cX11_keepsRow_0 (i := 23) (by decide +kernel) rfl
theorem dX11_keepsRow_26 : decode cX11_keepsRow 26 = .ok (.return_, 1) := zrD zrw_cX11_keepsRow_0 (i := 26) (by decide +kernel) rfl
def zrk_cX11_copies_0 : ByteArray := .mk #[3, 60, 27, 16, 50, 162, 0, 21, 42, 180, 0, 110, 27, 42, 180, 0, 107, 27, 46, 79, 132, 1, 1, 167, 255, 235, 42, 42, 180, 0, 67, 42]
theorem zrw_cX11_copies_0 : zrW 0 cX11_copies zrk_cX11_copies_0 := by unfold zrW; decide +kernel
theorem dX11_copies_0 : decode cX11_copies 0 = .ok (.iconst 0, 1) := zrD zrw_cX11_copies_0 (i := 0) (by decide +kernel) rfl
theorem dX11_copies_1 : decode cX11_copies 1 = .ok (.istore_n 1, 1) := zrD zrw_cX11_copies_0 (i := 1) (by decide +kernel) rfl
theorem dX11_copies_2 : decode cX11_copies 2 = .ok (.iload_n 1, 1) := zrD zrw_cX11_copies_0 (i := 2) (by decide +kernel) rfl
theorem dX11_copies_3 : decode cX11_copies 3 = .ok (.bipush 50, 2) := zrD zrw_cX11_copies_0 (i := 3) (by decide +kernel) rfl
theorem dX11_copies_5 : decode cX11_copies 5 = .ok (.if_icmp .ge 21, 3) := zrD zrw_cX11_copies_0 (i := 5) (by decide +kernel) rfl
theorem dX11_copies_8 : decode cX11_copies 8 = .ok (.aload_n 0, 1) := zrD zrw_cX11_copies_0 (i := 8) (by decide +kernel) rfl
theorem dX11_copies_9 : decode cX11_copies 9 = .ok (.getfield 110, 3) := zrD zrw_cX11_copies_0 (i := 9) (by decide +kernel) rfl
theorem dX11_copies_12 : decode cX11_copies 12 = .ok (.iload_n 1, 1) := zrD zrw_cX11_copies_0 (i := 12) (by decide +kernel) rfl
theorem dX11_copies_13 : decode cX11_copies 13 = .ok (.aload_n 0, 1) := zrD zrw_cX11_copies_0 (i := 13) (by decide +kernel) rfl
theorem dX11_copies_14 : decode cX11_copies 14 = .ok (.getfield 107, 3) := zrD zrw_cX11_copies_0 (i := 14) (by decide +kernel) rfl
theorem dX11_copies_17 : decode cX11_copies 17 = .ok (.iload_n 1, 1) := zrD zrw_cX11_copies_0 (i := 17) (by decide +kernel) rfl
theorem dX11_copies_18 : decode cX11_copies 18 = .ok (.iaload, 1) := zrD zrw_cX11_copies_0 (i := 18) (by decide +kernel) rfl
theorem dX11_copies_19 : decode cX11_copies 19 = .ok (.iastore, 1) := zrD zrw_cX11_copies_0 (i := 19) (by decide +kernel) rfl
theorem dX11_copies_20 : decode cX11_copies 20 = .ok (.iinc 1 1, 3) := zrD zrw_cX11_copies_0 (i := 20) (by decide +kernel) rfl
theorem dX11_copies_23 : decode cX11_copies 23 = .ok (.goto (-21), 3) := zrD zrw_cX11_copies_0 (i := 23) (by decide +kernel) rfl
theorem dX11_copies_26 : decode cX11_copies 26 = .ok (.aload_n 0, 1) := zrD zrw_cX11_copies_0 (i := 26) (by decide +kernel) rfl
theorem dX11_copies_27 : decode cX11_copies 27 = .ok (.aload_n 0, 1) := zrD zrw_cX11_copies_0 (i := 27) (by decide +kernel) rfl
theorem dX11_copies_28 : decode cX11_copies 28 = .ok (.getfield 67, 3) := zrD zrw_cX11_copies_0 (i := 28) (by decide +kernel) rfl
theorem dX11_copies_31 : decode cX11_copies 31 = .ok (.aload_n 0, 1) := zrD zrw_cX11_copies_0 (i := 31) (by decide +kernel) rfl
def zrk_cX11_copies_32 : ByteArray := .mk #[180, 0, 236, 46, 181, 1, 64, 42, 3, 181, 1, 67, 42, 182, 1, 70, 42, 3, 182, 1, 73, 177]
theorem zrw_cX11_copies_32 : zrW 32 cX11_copies zrk_cX11_copies_32 := by unfold zrW; decide +kernel
theorem dX11_copies_32 : decode cX11_copies 32 = .ok (.getfield 236, 3) := zrD zrw_cX11_copies_32 (i := 0) (by decide +kernel) rfl
theorem dX11_copies_35 : decode cX11_copies 35 = .ok (.iaload, 1) := zrD zrw_cX11_copies_32 (i := 3) (by decide +kernel) rfl
theorem dX11_copies_36 : decode cX11_copies 36 = .ok (.putfield 320, 3) := zrD zrw_cX11_copies_32 (i := 4) (by decide +kernel) rfl
theorem dX11_copies_39 : decode cX11_copies 39 = .ok (.aload_n 0, 1) := zrD zrw_cX11_copies_32 (i := 7) (by decide +kernel) rfl
theorem dX11_copies_40 : decode cX11_copies 40 = .ok (.iconst 0, 1) := zrD zrw_cX11_copies_32 (i := 8) (by decide +kernel) rfl
theorem dX11_copies_41 : decode cX11_copies 41 = .ok (.putfield 323, 3) := zrD zrw_cX11_copies_32 (i := 9) (by decide +kernel) rfl
theorem dX11_copies_44 : decode cX11_copies 44 = .ok (.aload_n 0, 1) := zrD zrw_cX11_copies_32 (i := 12) (by decide +kernel) rfl
theorem dX11_copies_45 : decode cX11_copies 45 = .ok (.invokevirtual 326, 3) := zrD zrw_cX11_copies_32 (i := 13) (by decide +kernel) rfl
theorem dX11_copies_48 : decode cX11_copies 48 = .ok (.aload_n 0, 1) := zrD zrw_cX11_copies_32 (i := 16) (by decide +kernel) rfl
theorem dX11_copies_49 : decode cX11_copies 49 = .ok (.iconst 0, 1) := zrD zrw_cX11_copies_32 (i := 17) (by decide +kernel) rfl
theorem dX11_copies_50 : decode cX11_copies 50 = .ok (.invokevirtual 329, 3) := zrD zrw_cX11_copies_32 (i := 18) (by decide +kernel) rfl
theorem dX11_copies_53 : decode cX11_copies 53 = .ok (.return_, 1) := zrD zrw_cX11_copies_32 (i := 21) (by decide +kernel) rfl
def zrk_cX11_copiesStill_0 : ByteArray := .mk #[42, 182, 1, 76, 42, 4, 181, 1, 67, 177]
theorem zrw_cX11_copiesStill_0 : zrW 0 cX11_copiesStill zrk_cX11_copiesStill_0 := by unfold zrW; decide +kernel
theorem dX11_copiesStill_0 : decode cX11_copiesStill 0 = .ok (.aload_n 0, 1) := zrD zrw_cX11_copiesStill_0 (i := 0) (by decide +kernel) rfl
theorem dX11_copiesStill_1 : decode cX11_copiesStill 1 = .ok (.invokevirtual 332, 3) := zrD zrw_cX11_copiesStill_0 (i := 1) (by decide +kernel) rfl
theorem dX11_copiesStill_4 : decode cX11_copiesStill 4 = .ok (.aload_n 0, 1) := zrD zrw_cX11_copiesStill_0 (i := 4) (by decide +kernel) rfl
theorem dX11_copiesStill_5 : decode cX11_copiesStill 5 = .ok (.iconst 1, 1) := zrD zrw_cX11_copiesStill_0 (i := 5) (by decide +kernel) rfl
theorem dX11_copiesStill_6 : decode cX11_copiesStill 6 = .ok (.putfield 323, 3) := zrD zrw_cX11_copiesStill_0 (i := 6) (by decide +kernel) rfl
theorem dX11_copiesStill_9 : decode cX11_copiesStill 9 = .ok (.return_, 1) := zrD zrw_cX11_copiesStill_0 (i := 9) (by decide +kernel) rfl
def zrk_cX11_mixed_0 : ByteArray := .mk #[26, 27, 130, 19, 1, 79, 104, 17, 48, 57, 96, 61, 28, 28, 16, 15, 124, 130, 172]
theorem zrw_cX11_mixed_0 : zrW 0 cX11_mixed zrk_cX11_mixed_0 := by unfold zrW; decide +kernel
theorem dX11_mixed_0 : decode cX11_mixed 0 = .ok (.iload_n 0, 1) := zrD zrw_cX11_mixed_0 (i := 0) (by decide +kernel) rfl
theorem dX11_mixed_1 : decode cX11_mixed 1 = .ok (.iload_n 1, 1) := zrD zrw_cX11_mixed_0 (i := 1) (by decide +kernel) rfl
theorem dX11_mixed_2 : decode cX11_mixed 2 = .ok (.ixor, 1) := zrD zrw_cX11_mixed_0 (i := 2) (by decide +kernel) rfl
theorem dX11_mixed_3 : decode cX11_mixed 3 = .ok (.ldc_w 335, 3) := zrD zrw_cX11_mixed_0 (i := 3) (by decide +kernel) rfl
theorem dX11_mixed_6 : decode cX11_mixed 6 = .ok (.imul, 1) := zrD zrw_cX11_mixed_0 (i := 6) (by decide +kernel) rfl
theorem dX11_mixed_7 : decode cX11_mixed 7 = .ok (.sipush 12345, 3) := zrD zrw_cX11_mixed_0 (i := 7) (by decide +kernel) rfl
theorem dX11_mixed_10 : decode cX11_mixed 10 = .ok (.iadd, 1) := zrD zrw_cX11_mixed_0 (i := 10) (by decide +kernel) rfl
theorem dX11_mixed_11 : decode cX11_mixed 11 = .ok (.istore_n 2, 1) := zrD zrw_cX11_mixed_0 (i := 11) (by decide +kernel) rfl
theorem dX11_mixed_12 : decode cX11_mixed 12 = .ok (.iload_n 2, 1) := zrD zrw_cX11_mixed_0 (i := 12) (by decide +kernel) rfl
theorem dX11_mixed_13 : decode cX11_mixed 13 = .ok (.iload_n 2, 1) := zrD zrw_cX11_mixed_0 (i := 13) (by decide +kernel) rfl
theorem dX11_mixed_14 : decode cX11_mixed 14 = .ok (.bipush 15, 2) := zrD zrw_cX11_mixed_0 (i := 14) (by decide +kernel) rfl
theorem dX11_mixed_16 : decode cX11_mixed 16 = .ok (.iushr, 1) := zrD zrw_cX11_mixed_0 (i := 16) (by decide +kernel) rfl
theorem dX11_mixed_17 : decode cX11_mixed 17 = .ok (.ixor, 1) := zrD zrw_cX11_mixed_0 (i := 17) (by decide +kernel) rfl
theorem dX11_mixed_18 : decode cX11_mixed 18 = .ok (.ireturn, 1) := zrD zrw_cX11_mixed_0 (i := 18) (by decide +kernel) rfl
def zrk_cX11_isStorm_0 : ByteArray := .mk #[42, 180, 1, 64, 17, 0, 147, 184, 1, 80, 7, 42, 180, 0, 110, 16, 48, 46, 104, 184, 1, 80, 4, 124, 16, 100, 112, 42, 180, 0, 58, 42]
theorem zrw_cX11_isStorm_0 : zrW 0 cX11_isStorm zrk_cX11_isStorm_0 := by unfold zrW; decide +kernel
theorem dX11_isStorm_0 : decode cX11_isStorm 0 = .ok (.aload_n 0, 1) := zrD zrw_cX11_isStorm_0 (i := 0) (by decide +kernel) rfl
theorem dX11_isStorm_1 : decode cX11_isStorm 1 = .ok (.getfield 320, 3) := zrD zrw_cX11_isStorm_0 (i := 1) (by decide +kernel) rfl
theorem dX11_isStorm_4 : decode cX11_isStorm 4 = .ok (.sipush 147, 3) := zrD zrw_cX11_isStorm_0 (i := 4) (by decide +kernel) rfl
theorem dX11_isStorm_7 : decode cX11_isStorm 7 = .ok (.invokestatic 336, 3) := zrD zrw_cX11_isStorm_0 (i := 7) (by decide +kernel) rfl
theorem dX11_isStorm_10 : decode cX11_isStorm 10 = .ok (.iconst 4, 1) := zrD zrw_cX11_isStorm_0 (i := 10) (by decide +kernel) rfl
theorem dX11_isStorm_11 : decode cX11_isStorm 11 = .ok (.aload_n 0, 1) := zrD zrw_cX11_isStorm_0 (i := 11) (by decide +kernel) rfl
theorem dX11_isStorm_12 : decode cX11_isStorm 12 = .ok (.getfield 110, 3) := zrD zrw_cX11_isStorm_0 (i := 12) (by decide +kernel) rfl
theorem dX11_isStorm_15 : decode cX11_isStorm 15 = .ok (.bipush 48, 2) := zrD zrw_cX11_isStorm_0 (i := 15) (by decide +kernel) rfl
theorem dX11_isStorm_17 : decode cX11_isStorm 17 = .ok (.iaload, 1) := zrD zrw_cX11_isStorm_0 (i := 17) (by decide +kernel) rfl
theorem dX11_isStorm_18 : decode cX11_isStorm 18 = .ok (.imul, 1) := zrD zrw_cX11_isStorm_0 (i := 18) (by decide +kernel) rfl
theorem dX11_isStorm_19 : decode cX11_isStorm 19 = .ok (.invokestatic 336, 3) := zrD zrw_cX11_isStorm_0 (i := 19) (by decide +kernel) rfl
theorem dX11_isStorm_22 : decode cX11_isStorm 22 = .ok (.iconst 1, 1) := zrD zrw_cX11_isStorm_0 (i := 22) (by decide +kernel) rfl
theorem dX11_isStorm_23 : decode cX11_isStorm 23 = .ok (.iushr, 1) := zrD zrw_cX11_isStorm_0 (i := 23) (by decide +kernel) rfl
theorem dX11_isStorm_24 : decode cX11_isStorm 24 = .ok (.bipush 100, 2) := zrD zrw_cX11_isStorm_0 (i := 24) (by decide +kernel) rfl
theorem dX11_isStorm_26 : decode cX11_isStorm 26 = .ok (.irem, 1) := zrD zrw_cX11_isStorm_0 (i := 26) (by decide +kernel) rfl
theorem dX11_isStorm_27 : decode cX11_isStorm 27 = .ok (.aload_n 0, 1) := zrD zrw_cX11_isStorm_0 (i := 27) (by decide +kernel) rfl
theorem dX11_isStorm_28 : decode cX11_isStorm 28 = .ok (.getfield 58, 3) := zrD zrw_cX11_isStorm_0 (i := 28) (by decide +kernel) rfl
theorem dX11_isStorm_31 : decode cX11_isStorm 31 = .ok (.aload_n 0, 1) := zrD zrw_cX11_isStorm_0 (i := 31) (by decide +kernel) rfl
def zrk_cX11_isStorm_32 : ByteArray := .mk #[180, 0, 236, 46, 162, 0, 7, 4, 167, 0, 4, 3, 172]
theorem zrw_cX11_isStorm_32 : zrW 32 cX11_isStorm zrk_cX11_isStorm_32 := by unfold zrW; decide +kernel
theorem dX11_isStorm_32 : decode cX11_isStorm 32 = .ok (.getfield 236, 3) := zrD zrw_cX11_isStorm_32 (i := 0) (by decide +kernel) rfl
theorem dX11_isStorm_35 : decode cX11_isStorm 35 = .ok (.iaload, 1) := zrD zrw_cX11_isStorm_32 (i := 3) (by decide +kernel) rfl
theorem dX11_isStorm_36 : decode cX11_isStorm 36 = .ok (.if_icmp .ge 7, 3) := zrD zrw_cX11_isStorm_32 (i := 4) (by decide +kernel) rfl
theorem dX11_isStorm_39 : decode cX11_isStorm 39 = .ok (.iconst 1, 1) := zrD zrw_cX11_isStorm_32 (i := 7) (by decide +kernel) rfl
theorem dX11_isStorm_40 : decode cX11_isStorm 40 = .ok (.goto 4, 3) := zrD zrw_cX11_isStorm_32 (i := 8) (by decide +kernel) rfl
theorem dX11_isStorm_43 : decode cX11_isStorm 43 = .ok (.iconst 0, 1) := zrD zrw_cX11_isStorm_32 (i := 11) (by decide +kernel) rfl
theorem dX11_isStorm_44 : decode cX11_isStorm 44 = .ok (.ireturn, 1) := zrD zrw_cX11_isStorm_32 (i := 12) (by decide +kernel) rfl
def zrk_cX11_fillsWays_0 : ByteArray := .mk #[3, 60, 27, 42, 182, 1, 57, 162, 0, 16, 42, 180, 0, 119, 27, 3, 79, 132, 1, 1, 167, 255, 238, 3, 60, 27, 42, 182, 1, 57]
theorem zrw_cX11_fillsWays_0 : zrW 0 cX11_fillsWays zrk_cX11_fillsWays_0 := by unfold zrW; decide +kernel
theorem dX11_fillsWays_0 : decode cX11_fillsWays 0 = .ok (.iconst 0, 1) := zrD zrw_cX11_fillsWays_0 (i := 0) (by decide +kernel) rfl
theorem dX11_fillsWays_1 : decode cX11_fillsWays 1 = .ok (.istore_n 1, 1) := zrD zrw_cX11_fillsWays_0 (i := 1) (by decide +kernel) rfl
theorem dX11_fillsWays_2 : decode cX11_fillsWays 2 = .ok (.iload_n 1, 1) := zrD zrw_cX11_fillsWays_0 (i := 2) (by decide +kernel) rfl
theorem dX11_fillsWays_3 : decode cX11_fillsWays 3 = .ok (.aload_n 0, 1) := zrD zrw_cX11_fillsWays_0 (i := 3) (by decide +kernel) rfl
theorem dX11_fillsWays_4 : decode cX11_fillsWays 4 = .ok (.invokevirtual 313, 3) := zrD zrw_cX11_fillsWays_0 (i := 4) (by decide +kernel) rfl
theorem dX11_fillsWays_7 : decode cX11_fillsWays 7 = .ok (.if_icmp .ge 16, 3) := zrD zrw_cX11_fillsWays_0 (i := 7) (by decide +kernel) rfl
theorem dX11_fillsWays_10 : decode cX11_fillsWays 10 = .ok (.aload_n 0, 1) := zrD zrw_cX11_fillsWays_0 (i := 10) (by decide +kernel) rfl
theorem dX11_fillsWays_11 : decode cX11_fillsWays 11 = .ok (.getfield 119, 3) := zrD zrw_cX11_fillsWays_0 (i := 11) (by decide +kernel) rfl
theorem dX11_fillsWays_14 : decode cX11_fillsWays 14 = .ok (.iload_n 1, 1) := zrD zrw_cX11_fillsWays_0 (i := 14) (by decide +kernel) rfl
theorem dX11_fillsWays_15 : decode cX11_fillsWays 15 = .ok (.iconst 0, 1) := zrD zrw_cX11_fillsWays_0 (i := 15) (by decide +kernel) rfl
theorem dX11_fillsWays_16 : decode cX11_fillsWays 16 = .ok (.iastore, 1) := zrD zrw_cX11_fillsWays_0 (i := 16) (by decide +kernel) rfl
theorem dX11_fillsWays_17 : decode cX11_fillsWays 17 = .ok (.iinc 1 1, 3) := zrD zrw_cX11_fillsWays_0 (i := 17) (by decide +kernel) rfl
theorem dX11_fillsWays_20 : decode cX11_fillsWays 20 = .ok (.goto (-18), 3) := zrD zrw_cX11_fillsWays_0 (i := 20) (by decide +kernel) rfl
theorem dX11_fillsWays_23 : decode cX11_fillsWays 23 = .ok (.iconst 0, 1) := zrD zrw_cX11_fillsWays_0 (i := 23) (by decide +kernel) rfl
theorem dX11_fillsWays_24 : decode cX11_fillsWays 24 = .ok (.istore_n 1, 1) := zrD zrw_cX11_fillsWays_0 (i := 24) (by decide +kernel) rfl
theorem dX11_fillsWays_25 : decode cX11_fillsWays 25 = .ok (.iload_n 1, 1) := zrD zrw_cX11_fillsWays_0 (i := 25) (by decide +kernel) rfl
theorem dX11_fillsWays_26 : decode cX11_fillsWays 26 = .ok (.aload_n 0, 1) := zrD zrw_cX11_fillsWays_0 (i := 26) (by decide +kernel) rfl
theorem dX11_fillsWays_27 : decode cX11_fillsWays 27 = .ok (.invokevirtual 313, 3) := zrD zrw_cX11_fillsWays_0 (i := 27) (by decide +kernel) rfl
def zrk_cX11_fillsWays_30 : ByteArray := .mk #[162, 0, 96, 42, 180, 0, 113, 27, 3, 79, 42, 180, 0, 116, 27, 3, 79, 27, 61, 42, 180, 0, 119, 27, 92, 46, 4, 27, 120, 128, 79, 28]
theorem zrw_cX11_fillsWays_30 : zrW 30 cX11_fillsWays zrk_cX11_fillsWays_30 := by unfold zrW; decide +kernel
theorem dX11_fillsWays_30 : decode cX11_fillsWays 30 = .ok (.if_icmp .ge 96, 3) := zrD zrw_cX11_fillsWays_30 (i := 0) (by decide +kernel) rfl
theorem dX11_fillsWays_33 : decode cX11_fillsWays 33 = .ok (.aload_n 0, 1) := zrD zrw_cX11_fillsWays_30 (i := 3) (by decide +kernel) rfl
theorem dX11_fillsWays_34 : decode cX11_fillsWays 34 = .ok (.getfield 113, 3) := zrD zrw_cX11_fillsWays_30 (i := 4) (by decide +kernel) rfl
theorem dX11_fillsWays_37 : decode cX11_fillsWays 37 = .ok (.iload_n 1, 1) := zrD zrw_cX11_fillsWays_30 (i := 7) (by decide +kernel) rfl
theorem dX11_fillsWays_38 : decode cX11_fillsWays 38 = .ok (.iconst 0, 1) := zrD zrw_cX11_fillsWays_30 (i := 8) (by decide +kernel) rfl
theorem dX11_fillsWays_39 : decode cX11_fillsWays 39 = .ok (.iastore, 1) := zrD zrw_cX11_fillsWays_30 (i := 9) (by decide +kernel) rfl
theorem dX11_fillsWays_40 : decode cX11_fillsWays 40 = .ok (.aload_n 0, 1) := zrD zrw_cX11_fillsWays_30 (i := 10) (by decide +kernel) rfl
theorem dX11_fillsWays_41 : decode cX11_fillsWays 41 = .ok (.getfield 116, 3) := zrD zrw_cX11_fillsWays_30 (i := 11) (by decide +kernel) rfl
theorem dX11_fillsWays_44 : decode cX11_fillsWays 44 = .ok (.iload_n 1, 1) := zrD zrw_cX11_fillsWays_30 (i := 14) (by decide +kernel) rfl
theorem dX11_fillsWays_45 : decode cX11_fillsWays 45 = .ok (.iconst 0, 1) := zrD zrw_cX11_fillsWays_30 (i := 15) (by decide +kernel) rfl
theorem dX11_fillsWays_46 : decode cX11_fillsWays 46 = .ok (.iastore, 1) := zrD zrw_cX11_fillsWays_30 (i := 16) (by decide +kernel) rfl
theorem dX11_fillsWays_47 : decode cX11_fillsWays 47 = .ok (.iload_n 1, 1) := zrD zrw_cX11_fillsWays_30 (i := 17) (by decide +kernel) rfl
theorem dX11_fillsWays_48 : decode cX11_fillsWays 48 = .ok (.istore_n 2, 1) := zrD zrw_cX11_fillsWays_30 (i := 18) (by decide +kernel) rfl
theorem dX11_fillsWays_49 : decode cX11_fillsWays 49 = .ok (.aload_n 0, 1) := zrD zrw_cX11_fillsWays_30 (i := 19) (by decide +kernel) rfl
theorem dX11_fillsWays_50 : decode cX11_fillsWays 50 = .ok (.getfield 119, 3) := zrD zrw_cX11_fillsWays_30 (i := 20) (by decide +kernel) rfl
theorem dX11_fillsWays_53 : decode cX11_fillsWays 53 = .ok (.iload_n 1, 1) := zrD zrw_cX11_fillsWays_30 (i := 23) (by decide +kernel) rfl
theorem dX11_fillsWays_54 : decode cX11_fillsWays 54 = .ok (.dup2, 1) := zrD zrw_cX11_fillsWays_30 (i := 24) (by decide +kernel) rfl
theorem dX11_fillsWays_55 : decode cX11_fillsWays 55 = .ok (.iaload, 1) := zrD zrw_cX11_fillsWays_30 (i := 25) (by decide +kernel) rfl
theorem dX11_fillsWays_56 : decode cX11_fillsWays 56 = .ok (.iconst 1, 1) := zrD zrw_cX11_fillsWays_30 (i := 26) (by decide +kernel) rfl
theorem dX11_fillsWays_57 : decode cX11_fillsWays 57 = .ok (.iload_n 1, 1) := zrD zrw_cX11_fillsWays_30 (i := 27) (by decide +kernel) rfl
theorem dX11_fillsWays_58 : decode cX11_fillsWays 58 = .ok (.ishl, 1) := zrD zrw_cX11_fillsWays_30 (i := 28) (by decide +kernel) rfl
theorem dX11_fillsWays_59 : decode cX11_fillsWays 59 = .ok (.ior, 1) := zrD zrw_cX11_fillsWays_30 (i := 29) (by decide +kernel) rfl
theorem dX11_fillsWays_60 : decode cX11_fillsWays 60 = .ok (.iastore, 1) := zrD zrw_cX11_fillsWays_30 (i := 30) (by decide +kernel) rfl
theorem dX11_fillsWays_61 : decode cX11_fillsWays 61 = .ok (.iload_n 2, 1) := zrD zrw_cX11_fillsWays_30 (i := 31) (by decide +kernel) rfl
def zrk_cX11_fillsWays_62 : ByteArray := .mk #[158, 0, 58, 42, 180, 0, 113, 27, 92, 46, 42, 180, 0, 49, 16, 12, 42, 180, 0, 236, 104, 28, 96, 46, 96, 79, 42, 180, 0, 116, 27, 92]
theorem zrw_cX11_fillsWays_62 : zrW 62 cX11_fillsWays zrk_cX11_fillsWays_62 := by unfold zrW; decide +kernel
theorem dX11_fillsWays_62 : decode cX11_fillsWays 62 = .ok (.ifCond .le 58, 3) := zrD zrw_cX11_fillsWays_62 (i := 0) (by decide +kernel) rfl
theorem dX11_fillsWays_65 : decode cX11_fillsWays 65 = .ok (.aload_n 0, 1) := zrD zrw_cX11_fillsWays_62 (i := 3) (by decide +kernel) rfl
theorem dX11_fillsWays_66 : decode cX11_fillsWays 66 = .ok (.getfield 113, 3) := zrD zrw_cX11_fillsWays_62 (i := 4) (by decide +kernel) rfl
theorem dX11_fillsWays_69 : decode cX11_fillsWays 69 = .ok (.iload_n 1, 1) := zrD zrw_cX11_fillsWays_62 (i := 7) (by decide +kernel) rfl
theorem dX11_fillsWays_70 : decode cX11_fillsWays 70 = .ok (.dup2, 1) := zrD zrw_cX11_fillsWays_62 (i := 8) (by decide +kernel) rfl
theorem dX11_fillsWays_71 : decode cX11_fillsWays 71 = .ok (.iaload, 1) := zrD zrw_cX11_fillsWays_62 (i := 9) (by decide +kernel) rfl
theorem dX11_fillsWays_72 : decode cX11_fillsWays 72 = .ok (.aload_n 0, 1) := zrD zrw_cX11_fillsWays_62 (i := 10) (by decide +kernel) rfl
theorem dX11_fillsWays_73 : decode cX11_fillsWays 73 = .ok (.getfield 49, 3) := zrD zrw_cX11_fillsWays_62 (i := 11) (by decide +kernel) rfl
theorem dX11_fillsWays_76 : decode cX11_fillsWays 76 = .ok (.bipush 12, 2) := zrD zrw_cX11_fillsWays_62 (i := 14) (by decide +kernel) rfl
theorem dX11_fillsWays_78 : decode cX11_fillsWays 78 = .ok (.aload_n 0, 1) := zrD zrw_cX11_fillsWays_62 (i := 16) (by decide +kernel) rfl
theorem dX11_fillsWays_79 : decode cX11_fillsWays 79 = .ok (.getfield 236, 3) := zrD zrw_cX11_fillsWays_62 (i := 17) (by decide +kernel) rfl
theorem dX11_fillsWays_82 : decode cX11_fillsWays 82 = .ok (.imul, 1) := zrD zrw_cX11_fillsWays_62 (i := 20) (by decide +kernel) rfl
theorem dX11_fillsWays_83 : decode cX11_fillsWays 83 = .ok (.iload_n 2, 1) := zrD zrw_cX11_fillsWays_62 (i := 21) (by decide +kernel) rfl
theorem dX11_fillsWays_84 : decode cX11_fillsWays 84 = .ok (.iadd, 1) := zrD zrw_cX11_fillsWays_62 (i := 22) (by decide +kernel) rfl
theorem dX11_fillsWays_85 : decode cX11_fillsWays 85 = .ok (.iaload, 1) := zrD zrw_cX11_fillsWays_62 (i := 23) (by decide +kernel) rfl
theorem dX11_fillsWays_86 : decode cX11_fillsWays 86 = .ok (.iadd, 1) := zrD zrw_cX11_fillsWays_62 (i := 24) (by decide +kernel) rfl
theorem dX11_fillsWays_87 : decode cX11_fillsWays 87 = .ok (.iastore, 1) := zrD zrw_cX11_fillsWays_62 (i := 25) (by decide +kernel) rfl
theorem dX11_fillsWays_88 : decode cX11_fillsWays 88 = .ok (.aload_n 0, 1) := zrD zrw_cX11_fillsWays_62 (i := 26) (by decide +kernel) rfl
theorem dX11_fillsWays_89 : decode cX11_fillsWays 89 = .ok (.getfield 116, 3) := zrD zrw_cX11_fillsWays_62 (i := 27) (by decide +kernel) rfl
theorem dX11_fillsWays_92 : decode cX11_fillsWays 92 = .ok (.iload_n 1, 1) := zrD zrw_cX11_fillsWays_62 (i := 30) (by decide +kernel) rfl
theorem dX11_fillsWays_93 : decode cX11_fillsWays 93 = .ok (.dup2, 1) := zrD zrw_cX11_fillsWays_62 (i := 31) (by decide +kernel) rfl
def zrk_cX11_fillsWays_94 : ByteArray := .mk #[46, 4, 96, 79, 42, 180, 0, 110, 28, 46, 61, 42, 180, 0, 119, 28, 92, 46, 4, 27, 120, 128, 79, 167, 255, 200, 132, 1, 1, 167, 255, 158]
theorem zrw_cX11_fillsWays_94 : zrW 94 cX11_fillsWays zrk_cX11_fillsWays_94 := by unfold zrW; decide +kernel
theorem dX11_fillsWays_94 : decode cX11_fillsWays 94 = .ok (.iaload, 1) := zrD zrw_cX11_fillsWays_94 (i := 0) (by decide +kernel) rfl
theorem dX11_fillsWays_95 : decode cX11_fillsWays 95 = .ok (.iconst 1, 1) := zrD zrw_cX11_fillsWays_94 (i := 1) (by decide +kernel) rfl
theorem dX11_fillsWays_96 : decode cX11_fillsWays 96 = .ok (.iadd, 1) := zrD zrw_cX11_fillsWays_94 (i := 2) (by decide +kernel) rfl
theorem dX11_fillsWays_97 : decode cX11_fillsWays 97 = .ok (.iastore, 1) := zrD zrw_cX11_fillsWays_94 (i := 3) (by decide +kernel) rfl
theorem dX11_fillsWays_98 : decode cX11_fillsWays 98 = .ok (.aload_n 0, 1) := zrD zrw_cX11_fillsWays_94 (i := 4) (by decide +kernel) rfl
theorem dX11_fillsWays_99 : decode cX11_fillsWays 99 = .ok (.getfield 110, 3) := zrD zrw_cX11_fillsWays_94 (i := 5) (by decide +kernel) rfl
theorem dX11_fillsWays_102 : decode cX11_fillsWays 102 = .ok (.iload_n 2, 1) := zrD zrw_cX11_fillsWays_94 (i := 8) (by decide +kernel) rfl
theorem dX11_fillsWays_103 : decode cX11_fillsWays 103 = .ok (.iaload, 1) := zrD zrw_cX11_fillsWays_94 (i := 9) (by decide +kernel) rfl
theorem dX11_fillsWays_104 : decode cX11_fillsWays 104 = .ok (.istore_n 2, 1) := zrD zrw_cX11_fillsWays_94 (i := 10) (by decide +kernel) rfl
theorem dX11_fillsWays_105 : decode cX11_fillsWays 105 = .ok (.aload_n 0, 1) := zrD zrw_cX11_fillsWays_94 (i := 11) (by decide +kernel) rfl
theorem dX11_fillsWays_106 : decode cX11_fillsWays 106 = .ok (.getfield 119, 3) := zrD zrw_cX11_fillsWays_94 (i := 12) (by decide +kernel) rfl
theorem dX11_fillsWays_109 : decode cX11_fillsWays 109 = .ok (.iload_n 2, 1) := zrD zrw_cX11_fillsWays_94 (i := 15) (by decide +kernel) rfl
theorem dX11_fillsWays_110 : decode cX11_fillsWays 110 = .ok (.dup2, 1) := zrD zrw_cX11_fillsWays_94 (i := 16) (by decide +kernel) rfl
theorem dX11_fillsWays_111 : decode cX11_fillsWays 111 = .ok (.iaload, 1) := zrD zrw_cX11_fillsWays_94 (i := 17) (by decide +kernel) rfl
theorem dX11_fillsWays_112 : decode cX11_fillsWays 112 = .ok (.iconst 1, 1) := zrD zrw_cX11_fillsWays_94 (i := 18) (by decide +kernel) rfl
theorem dX11_fillsWays_113 : decode cX11_fillsWays 113 = .ok (.iload_n 1, 1) := zrD zrw_cX11_fillsWays_94 (i := 19) (by decide +kernel) rfl
theorem dX11_fillsWays_114 : decode cX11_fillsWays 114 = .ok (.ishl, 1) := zrD zrw_cX11_fillsWays_94 (i := 20) (by decide +kernel) rfl
theorem dX11_fillsWays_115 : decode cX11_fillsWays 115 = .ok (.ior, 1) := zrD zrw_cX11_fillsWays_94 (i := 21) (by decide +kernel) rfl
theorem dX11_fillsWays_116 : decode cX11_fillsWays 116 = .ok (.iastore, 1) := zrD zrw_cX11_fillsWays_94 (i := 22) (by decide +kernel) rfl
theorem dX11_fillsWays_117 : decode cX11_fillsWays 117 = .ok (.goto (-56), 3) := zrD zrw_cX11_fillsWays_94 (i := 23) (by decide +kernel) rfl
theorem dX11_fillsWays_120 : decode cX11_fillsWays 120 = .ok (.iinc 1 1, 3) := zrD zrw_cX11_fillsWays_94 (i := 26) (by decide +kernel) rfl
theorem dX11_fillsWays_123 : decode cX11_fillsWays 123 = .ok (.goto (-98), 3) := zrD zrw_cX11_fillsWays_94 (i := 29) (by decide +kernel) rfl
def zrk_cX11_fillsWays_126 : ByteArray := .mk #[177]
theorem zrw_cX11_fillsWays_126 : zrW 126 cX11_fillsWays zrk_cX11_fillsWays_126 := by unfold zrW; decide +kernel
theorem dX11_fillsWays_126 : decode cX11_fillsWays 126 = .ok (.return_, 1) := zrD zrw_cX11_fillsWays_126 (i := 0) (by decide +kernel) rfl
def zrk_cX11_isSource_0 : ByteArray := .mk #[42, 27, 182, 1, 83, 153, 0, 19, 42, 180, 0, 119, 27, 46, 4, 27, 120, 160, 0, 7, 4, 167, 0, 4, 3, 172]
theorem zrw_cX11_isSource_0 : zrW 0 cX11_isSource zrk_cX11_isSource_0 := by unfold zrW; decide +kernel
theorem dX11_isSource_0 : decode cX11_isSource 0 = .ok (.aload_n 0, 1) := zrD zrw_cX11_isSource_0 (i := 0) (by decide +kernel) rfl
theorem dX11_isSource_1 : decode cX11_isSource 1 = .ok (.iload_n 1, 1) := zrD zrw_cX11_isSource_0 (i := 1) (by decide +kernel) rfl
theorem dX11_isSource_2 : decode cX11_isSource 2 = .ok (.invokevirtual 339, 3) := zrD zrw_cX11_isSource_0 (i := 2) (by decide +kernel) rfl
theorem dX11_isSource_5 : decode cX11_isSource 5 = .ok (.ifCond .eq 19, 3) := zrD zrw_cX11_isSource_0 (i := 5) (by decide +kernel) rfl
theorem dX11_isSource_8 : decode cX11_isSource 8 = .ok (.aload_n 0, 1) := zrD zrw_cX11_isSource_0 (i := 8) (by decide +kernel) rfl
theorem dX11_isSource_9 : decode cX11_isSource 9 = .ok (.getfield 119, 3) := zrD zrw_cX11_isSource_0 (i := 9) (by decide +kernel) rfl
theorem dX11_isSource_12 : decode cX11_isSource 12 = .ok (.iload_n 1, 1) := zrD zrw_cX11_isSource_0 (i := 12) (by decide +kernel) rfl
theorem dX11_isSource_13 : decode cX11_isSource 13 = .ok (.iaload, 1) := zrD zrw_cX11_isSource_0 (i := 13) (by decide +kernel) rfl
theorem dX11_isSource_14 : decode cX11_isSource 14 = .ok (.iconst 1, 1) := zrD zrw_cX11_isSource_0 (i := 14) (by decide +kernel) rfl
theorem dX11_isSource_15 : decode cX11_isSource 15 = .ok (.iload_n 1, 1) := zrD zrw_cX11_isSource_0 (i := 15) (by decide +kernel) rfl
theorem dX11_isSource_16 : decode cX11_isSource 16 = .ok (.ishl, 1) := zrD zrw_cX11_isSource_0 (i := 16) (by decide +kernel) rfl
theorem dX11_isSource_17 : decode cX11_isSource 17 = .ok (.if_icmp .ne 7, 3) := zrD zrw_cX11_isSource_0 (i := 17) (by decide +kernel) rfl
theorem dX11_isSource_20 : decode cX11_isSource 20 = .ok (.iconst 1, 1) := zrD zrw_cX11_isSource_0 (i := 20) (by decide +kernel) rfl
theorem dX11_isSource_21 : decode cX11_isSource 21 = .ok (.goto 4, 3) := zrD zrw_cX11_isSource_0 (i := 21) (by decide +kernel) rfl
theorem dX11_isSource_24 : decode cX11_isSource 24 = .ok (.iconst 0, 1) := zrD zrw_cX11_isSource_0 (i := 24) (by decide +kernel) rfl
theorem dX11_isSource_25 : decode cX11_isSource 25 = .ok (.ireturn, 1) := zrD zrw_cX11_isSource_0 (i := 25) (by decide +kernel) rfl
def zrk_cX11_sourceBits_0 : ByteArray := .mk #[3, 60, 4, 61, 28, 42, 182, 1, 57, 162, 0, 23, 42, 28, 182, 1, 86, 153, 0, 9, 27, 4, 28, 120, 128, 60, 132, 2, 1, 167, 255, 231]
theorem zrw_cX11_sourceBits_0 : zrW 0 cX11_sourceBits zrk_cX11_sourceBits_0 := by unfold zrW; decide +kernel
theorem dX11_sourceBits_0 : decode cX11_sourceBits 0 = .ok (.iconst 0, 1) := zrD zrw_cX11_sourceBits_0 (i := 0) (by decide +kernel) rfl
theorem dX11_sourceBits_1 : decode cX11_sourceBits 1 = .ok (.istore_n 1, 1) := zrD zrw_cX11_sourceBits_0 (i := 1) (by decide +kernel) rfl
theorem dX11_sourceBits_2 : decode cX11_sourceBits 2 = .ok (.iconst 1, 1) := zrD zrw_cX11_sourceBits_0 (i := 2) (by decide +kernel) rfl
theorem dX11_sourceBits_3 : decode cX11_sourceBits 3 = .ok (.istore_n 2, 1) := zrD zrw_cX11_sourceBits_0 (i := 3) (by decide +kernel) rfl
theorem dX11_sourceBits_4 : decode cX11_sourceBits 4 = .ok (.iload_n 2, 1) := zrD zrw_cX11_sourceBits_0 (i := 4) (by decide +kernel) rfl
theorem dX11_sourceBits_5 : decode cX11_sourceBits 5 = .ok (.aload_n 0, 1) := zrD zrw_cX11_sourceBits_0 (i := 5) (by decide +kernel) rfl
theorem dX11_sourceBits_6 : decode cX11_sourceBits 6 = .ok (.invokevirtual 313, 3) := zrD zrw_cX11_sourceBits_0 (i := 6) (by decide +kernel) rfl
theorem dX11_sourceBits_9 : decode cX11_sourceBits 9 = .ok (.if_icmp .ge 23, 3) := zrD zrw_cX11_sourceBits_0 (i := 9) (by decide +kernel) rfl
theorem dX11_sourceBits_12 : decode cX11_sourceBits 12 = .ok (.aload_n 0, 1) := zrD zrw_cX11_sourceBits_0 (i := 12) (by decide +kernel) rfl
theorem dX11_sourceBits_13 : decode cX11_sourceBits 13 = .ok (.iload_n 2, 1) := zrD zrw_cX11_sourceBits_0 (i := 13) (by decide +kernel) rfl
theorem dX11_sourceBits_14 : decode cX11_sourceBits 14 = .ok (.invokevirtual 342, 3) := zrD zrw_cX11_sourceBits_0 (i := 14) (by decide +kernel) rfl
theorem dX11_sourceBits_17 : decode cX11_sourceBits 17 = .ok (.ifCond .eq 9, 3) := zrD zrw_cX11_sourceBits_0 (i := 17) (by decide +kernel) rfl
theorem dX11_sourceBits_20 : decode cX11_sourceBits 20 = .ok (.iload_n 1, 1) := zrD zrw_cX11_sourceBits_0 (i := 20) (by decide +kernel) rfl
theorem dX11_sourceBits_21 : decode cX11_sourceBits 21 = .ok (.iconst 1, 1) := zrD zrw_cX11_sourceBits_0 (i := 21) (by decide +kernel) rfl
theorem dX11_sourceBits_22 : decode cX11_sourceBits 22 = .ok (.iload_n 2, 1) := zrD zrw_cX11_sourceBits_0 (i := 22) (by decide +kernel) rfl
theorem dX11_sourceBits_23 : decode cX11_sourceBits 23 = .ok (.ishl, 1) := zrD zrw_cX11_sourceBits_0 (i := 23) (by decide +kernel) rfl
theorem dX11_sourceBits_24 : decode cX11_sourceBits 24 = .ok (.ior, 1) := zrD zrw_cX11_sourceBits_0 (i := 24) (by decide +kernel) rfl
theorem dX11_sourceBits_25 : decode cX11_sourceBits 25 = .ok (.istore_n 1, 1) := zrD zrw_cX11_sourceBits_0 (i := 25) (by decide +kernel) rfl
theorem dX11_sourceBits_26 : decode cX11_sourceBits 26 = .ok (.iinc 2 1, 3) := zrD zrw_cX11_sourceBits_0 (i := 26) (by decide +kernel) rfl
theorem dX11_sourceBits_29 : decode cX11_sourceBits 29 = .ok (.goto (-25), 3) := zrD zrw_cX11_sourceBits_0 (i := 29) (by decide +kernel) rfl
def zrk_cX11_sourceBits_32 : ByteArray := .mk #[27, 172]
theorem zrw_cX11_sourceBits_32 : zrW 32 cX11_sourceBits zrk_cX11_sourceBits_32 := by unfold zrW; decide +kernel
theorem dX11_sourceBits_32 : decode cX11_sourceBits 32 = .ok (.iload_n 1, 1) := zrD zrw_cX11_sourceBits_32 (i := 0) (by decide +kernel) rfl
theorem dX11_sourceBits_33 : decode cX11_sourceBits 33 = .ok (.ireturn, 1) := zrD zrw_cX11_sourceBits_32 (i := 1) (by decide +kernel) rfl
def zrk_cX11_looks_0 : ByteArray := .mk #[42, 180, 0, 101, 3, 42, 180, 0, 52, 16, 12, 42, 180, 0, 236, 104, 27, 96, 46, 79, 42, 180, 0, 101, 4, 42, 180, 0, 113, 27, 46, 79]
theorem zrw_cX11_looks_0 : zrW 0 cX11_looks zrk_cX11_looks_0 := by unfold zrW; decide +kernel
theorem dX11_looks_0 : decode cX11_looks 0 = .ok (.aload_n 0, 1) := zrD zrw_cX11_looks_0 (i := 0) (by decide +kernel) rfl
theorem dX11_looks_1 : decode cX11_looks 1 = .ok (.getfield 101, 3) := zrD zrw_cX11_looks_0 (i := 1) (by decide +kernel) rfl
theorem dX11_looks_4 : decode cX11_looks 4 = .ok (.iconst 0, 1) := zrD zrw_cX11_looks_0 (i := 4) (by decide +kernel) rfl
theorem dX11_looks_5 : decode cX11_looks 5 = .ok (.aload_n 0, 1) := zrD zrw_cX11_looks_0 (i := 5) (by decide +kernel) rfl
theorem dX11_looks_6 : decode cX11_looks 6 = .ok (.getfield 52, 3) := zrD zrw_cX11_looks_0 (i := 6) (by decide +kernel) rfl
theorem dX11_looks_9 : decode cX11_looks 9 = .ok (.bipush 12, 2) := zrD zrw_cX11_looks_0 (i := 9) (by decide +kernel) rfl
theorem dX11_looks_11 : decode cX11_looks 11 = .ok (.aload_n 0, 1) := zrD zrw_cX11_looks_0 (i := 11) (by decide +kernel) rfl
theorem dX11_looks_12 : decode cX11_looks 12 = .ok (.getfield 236, 3) := zrD zrw_cX11_looks_0 (i := 12) (by decide +kernel) rfl
theorem dX11_looks_15 : decode cX11_looks 15 = .ok (.imul, 1) := zrD zrw_cX11_looks_0 (i := 15) (by decide +kernel) rfl
theorem dX11_looks_16 : decode cX11_looks 16 = .ok (.iload_n 1, 1) := zrD zrw_cX11_looks_0 (i := 16) (by decide +kernel) rfl
theorem dX11_looks_17 : decode cX11_looks 17 = .ok (.iadd, 1) := zrD zrw_cX11_looks_0 (i := 17) (by decide +kernel) rfl
theorem dX11_looks_18 : decode cX11_looks 18 = .ok (.iaload, 1) := zrD zrw_cX11_looks_0 (i := 18) (by decide +kernel) rfl
theorem dX11_looks_19 : decode cX11_looks 19 = .ok (.iastore, 1) := zrD zrw_cX11_looks_0 (i := 19) (by decide +kernel) rfl
theorem dX11_looks_20 : decode cX11_looks 20 = .ok (.aload_n 0, 1) := zrD zrw_cX11_looks_0 (i := 20) (by decide +kernel) rfl
theorem dX11_looks_21 : decode cX11_looks 21 = .ok (.getfield 101, 3) := zrD zrw_cX11_looks_0 (i := 21) (by decide +kernel) rfl
theorem dX11_looks_24 : decode cX11_looks 24 = .ok (.iconst 1, 1) := zrD zrw_cX11_looks_0 (i := 24) (by decide +kernel) rfl
theorem dX11_looks_25 : decode cX11_looks 25 = .ok (.aload_n 0, 1) := zrD zrw_cX11_looks_0 (i := 25) (by decide +kernel) rfl
theorem dX11_looks_26 : decode cX11_looks 26 = .ok (.getfield 113, 3) := zrD zrw_cX11_looks_0 (i := 26) (by decide +kernel) rfl
theorem dX11_looks_29 : decode cX11_looks 29 = .ok (.iload_n 1, 1) := zrD zrw_cX11_looks_0 (i := 29) (by decide +kernel) rfl
theorem dX11_looks_30 : decode cX11_looks 30 = .ok (.iaload, 1) := zrD zrw_cX11_looks_0 (i := 30) (by decide +kernel) rfl
theorem dX11_looks_31 : decode cX11_looks 31 = .ok (.iastore, 1) := zrD zrw_cX11_looks_0 (i := 31) (by decide +kernel) rfl
def zrk_cX11_looks_32 : ByteArray := .mk #[42, 180, 0, 101, 5, 42, 180, 0, 55, 16, 12, 42, 180, 0, 236, 104, 27, 96, 46, 79, 42, 180, 0, 101, 6, 42, 180, 0, 110, 16, 48, 46]
theorem zrw_cX11_looks_32 : zrW 32 cX11_looks zrk_cX11_looks_32 := by unfold zrW; decide +kernel
theorem dX11_looks_32 : decode cX11_looks 32 = .ok (.aload_n 0, 1) := zrD zrw_cX11_looks_32 (i := 0) (by decide +kernel) rfl
theorem dX11_looks_33 : decode cX11_looks 33 = .ok (.getfield 101, 3) := zrD zrw_cX11_looks_32 (i := 1) (by decide +kernel) rfl
theorem dX11_looks_36 : decode cX11_looks 36 = .ok (.iconst 2, 1) := zrD zrw_cX11_looks_32 (i := 4) (by decide +kernel) rfl
theorem dX11_looks_37 : decode cX11_looks 37 = .ok (.aload_n 0, 1) := zrD zrw_cX11_looks_32 (i := 5) (by decide +kernel) rfl
theorem dX11_looks_38 : decode cX11_looks 38 = .ok (.getfield 55, 3) := zrD zrw_cX11_looks_32 (i := 6) (by decide +kernel) rfl
theorem dX11_looks_41 : decode cX11_looks 41 = .ok (.bipush 12, 2) := zrD zrw_cX11_looks_32 (i := 9) (by decide +kernel) rfl
theorem dX11_looks_43 : decode cX11_looks 43 = .ok (.aload_n 0, 1) := zrD zrw_cX11_looks_32 (i := 11) (by decide +kernel) rfl
theorem dX11_looks_44 : decode cX11_looks 44 = .ok (.getfield 236, 3) := zrD zrw_cX11_looks_32 (i := 12) (by decide +kernel) rfl
theorem dX11_looks_47 : decode cX11_looks 47 = .ok (.imul, 1) := zrD zrw_cX11_looks_32 (i := 15) (by decide +kernel) rfl
theorem dX11_looks_48 : decode cX11_looks 48 = .ok (.iload_n 1, 1) := zrD zrw_cX11_looks_32 (i := 16) (by decide +kernel) rfl
theorem dX11_looks_49 : decode cX11_looks 49 = .ok (.iadd, 1) := zrD zrw_cX11_looks_32 (i := 17) (by decide +kernel) rfl
theorem dX11_looks_50 : decode cX11_looks 50 = .ok (.iaload, 1) := zrD zrw_cX11_looks_32 (i := 18) (by decide +kernel) rfl
theorem dX11_looks_51 : decode cX11_looks 51 = .ok (.iastore, 1) := zrD zrw_cX11_looks_32 (i := 19) (by decide +kernel) rfl
theorem dX11_looks_52 : decode cX11_looks 52 = .ok (.aload_n 0, 1) := zrD zrw_cX11_looks_32 (i := 20) (by decide +kernel) rfl
theorem dX11_looks_53 : decode cX11_looks 53 = .ok (.getfield 101, 3) := zrD zrw_cX11_looks_32 (i := 21) (by decide +kernel) rfl
theorem dX11_looks_56 : decode cX11_looks 56 = .ok (.iconst 3, 1) := zrD zrw_cX11_looks_32 (i := 24) (by decide +kernel) rfl
theorem dX11_looks_57 : decode cX11_looks 57 = .ok (.aload_n 0, 1) := zrD zrw_cX11_looks_32 (i := 25) (by decide +kernel) rfl
theorem dX11_looks_58 : decode cX11_looks 58 = .ok (.getfield 110, 3) := zrD zrw_cX11_looks_32 (i := 26) (by decide +kernel) rfl
theorem dX11_looks_61 : decode cX11_looks 61 = .ok (.bipush 48, 2) := zrD zrw_cX11_looks_32 (i := 29) (by decide +kernel) rfl
theorem dX11_looks_63 : decode cX11_looks 63 = .ok (.iaload, 1) := zrD zrw_cX11_looks_32 (i := 31) (by decide +kernel) rfl
def zrk_cX11_looks_64 : ByteArray := .mk #[16, 12, 112, 79, 42, 180, 0, 101, 7, 28, 79, 42, 180, 0, 101, 8, 42, 180, 0, 49, 16, 12, 42, 180, 0, 236, 104, 27, 96, 46, 79, 42]
theorem zrw_cX11_looks_64 : zrW 64 cX11_looks zrk_cX11_looks_64 := by unfold zrW; decide +kernel
theorem dX11_looks_64 : decode cX11_looks 64 = .ok (.bipush 12, 2) := zrD zrw_cX11_looks_64 (i := 0) (by decide +kernel) rfl
theorem dX11_looks_66 : decode cX11_looks 66 = .ok (.irem, 1) := zrD zrw_cX11_looks_64 (i := 2) (by decide +kernel) rfl
theorem dX11_looks_67 : decode cX11_looks 67 = .ok (.iastore, 1) := zrD zrw_cX11_looks_64 (i := 3) (by decide +kernel) rfl
theorem dX11_looks_68 : decode cX11_looks 68 = .ok (.aload_n 0, 1) := zrD zrw_cX11_looks_64 (i := 4) (by decide +kernel) rfl
theorem dX11_looks_69 : decode cX11_looks 69 = .ok (.getfield 101, 3) := zrD zrw_cX11_looks_64 (i := 5) (by decide +kernel) rfl
theorem dX11_looks_72 : decode cX11_looks 72 = .ok (.iconst 4, 1) := zrD zrw_cX11_looks_64 (i := 8) (by decide +kernel) rfl
theorem dX11_looks_73 : decode cX11_looks 73 = .ok (.iload_n 2, 1) := zrD zrw_cX11_looks_64 (i := 9) (by decide +kernel) rfl
theorem dX11_looks_74 : decode cX11_looks 74 = .ok (.iastore, 1) := zrD zrw_cX11_looks_64 (i := 10) (by decide +kernel) rfl
theorem dX11_looks_75 : decode cX11_looks 75 = .ok (.aload_n 0, 1) := zrD zrw_cX11_looks_64 (i := 11) (by decide +kernel) rfl
theorem dX11_looks_76 : decode cX11_looks 76 = .ok (.getfield 101, 3) := zrD zrw_cX11_looks_64 (i := 12) (by decide +kernel) rfl
theorem dX11_looks_79 : decode cX11_looks 79 = .ok (.iconst 5, 1) := zrD zrw_cX11_looks_64 (i := 15) (by decide +kernel) rfl
theorem dX11_looks_80 : decode cX11_looks 80 = .ok (.aload_n 0, 1) := zrD zrw_cX11_looks_64 (i := 16) (by decide +kernel) rfl
theorem dX11_looks_81 : decode cX11_looks 81 = .ok (.getfield 49, 3) := zrD zrw_cX11_looks_64 (i := 17) (by decide +kernel) rfl
theorem dX11_looks_84 : decode cX11_looks 84 = .ok (.bipush 12, 2) := zrD zrw_cX11_looks_64 (i := 20) (by decide +kernel) rfl
theorem dX11_looks_86 : decode cX11_looks 86 = .ok (.aload_n 0, 1) := zrD zrw_cX11_looks_64 (i := 22) (by decide +kernel) rfl
theorem dX11_looks_87 : decode cX11_looks 87 = .ok (.getfield 236, 3) := zrD zrw_cX11_looks_64 (i := 23) (by decide +kernel) rfl
theorem dX11_looks_90 : decode cX11_looks 90 = .ok (.imul, 1) := zrD zrw_cX11_looks_64 (i := 26) (by decide +kernel) rfl
theorem dX11_looks_91 : decode cX11_looks 91 = .ok (.iload_n 1, 1) := zrD zrw_cX11_looks_64 (i := 27) (by decide +kernel) rfl
theorem dX11_looks_92 : decode cX11_looks 92 = .ok (.iadd, 1) := zrD zrw_cX11_looks_64 (i := 28) (by decide +kernel) rfl
theorem dX11_looks_93 : decode cX11_looks 93 = .ok (.iaload, 1) := zrD zrw_cX11_looks_64 (i := 29) (by decide +kernel) rfl
theorem dX11_looks_94 : decode cX11_looks 94 = .ok (.iastore, 1) := zrD zrw_cX11_looks_64 (i := 30) (by decide +kernel) rfl
theorem dX11_looks_95 : decode cX11_looks 95 = .ok (.aload_n 0, 1) := zrD zrw_cX11_looks_64 (i := 31) (by decide +kernel) rfl
def zrk_cX11_looks_96 : ByteArray := .mk #[180, 0, 101, 16, 6, 42, 180, 0, 110, 16, 24, 27, 96, 46, 79, 42, 180, 0, 101, 16, 7, 27, 79, 42, 180, 0, 101, 16, 8, 42]
theorem zrw_cX11_looks_96 : zrW 96 cX11_looks zrk_cX11_looks_96 := by unfold zrW; decide +kernel
theorem dX11_looks_96 : decode cX11_looks 96 = .ok (.getfield 101, 3) := zrD zrw_cX11_looks_96 (i := 0) (by decide +kernel) rfl
theorem dX11_looks_99 : decode cX11_looks 99 = .ok (.bipush 6, 2) := zrD zrw_cX11_looks_96 (i := 3) (by decide +kernel) rfl
theorem dX11_looks_101 : decode cX11_looks 101 = .ok (.aload_n 0, 1) := zrD zrw_cX11_looks_96 (i := 5) (by decide +kernel) rfl
theorem dX11_looks_102 : decode cX11_looks 102 = .ok (.getfield 110, 3) := zrD zrw_cX11_looks_96 (i := 6) (by decide +kernel) rfl
theorem dX11_looks_105 : decode cX11_looks 105 = .ok (.bipush 24, 2) := zrD zrw_cX11_looks_96 (i := 9) (by decide +kernel) rfl
theorem dX11_looks_107 : decode cX11_looks 107 = .ok (.iload_n 1, 1) := zrD zrw_cX11_looks_96 (i := 11) (by decide +kernel) rfl
theorem dX11_looks_108 : decode cX11_looks 108 = .ok (.iadd, 1) := zrD zrw_cX11_looks_96 (i := 12) (by decide +kernel) rfl
theorem dX11_looks_109 : decode cX11_looks 109 = .ok (.iaload, 1) := zrD zrw_cX11_looks_96 (i := 13) (by decide +kernel) rfl
theorem dX11_looks_110 : decode cX11_looks 110 = .ok (.iastore, 1) := zrD zrw_cX11_looks_96 (i := 14) (by decide +kernel) rfl
theorem dX11_looks_111 : decode cX11_looks 111 = .ok (.aload_n 0, 1) := zrD zrw_cX11_looks_96 (i := 15) (by decide +kernel) rfl
theorem dX11_looks_112 : decode cX11_looks 112 = .ok (.getfield 101, 3) := zrD zrw_cX11_looks_96 (i := 16) (by decide +kernel) rfl
theorem dX11_looks_115 : decode cX11_looks 115 = .ok (.bipush 7, 2) := zrD zrw_cX11_looks_96 (i := 19) (by decide +kernel) rfl
theorem dX11_looks_117 : decode cX11_looks 117 = .ok (.iload_n 1, 1) := zrD zrw_cX11_looks_96 (i := 21) (by decide +kernel) rfl
theorem dX11_looks_118 : decode cX11_looks 118 = .ok (.iastore, 1) := zrD zrw_cX11_looks_96 (i := 22) (by decide +kernel) rfl
theorem dX11_looks_119 : decode cX11_looks 119 = .ok (.aload_n 0, 1) := zrD zrw_cX11_looks_96 (i := 23) (by decide +kernel) rfl
theorem dX11_looks_120 : decode cX11_looks 120 = .ok (.getfield 101, 3) := zrD zrw_cX11_looks_96 (i := 24) (by decide +kernel) rfl
theorem dX11_looks_123 : decode cX11_looks 123 = .ok (.bipush 8, 2) := zrD zrw_cX11_looks_96 (i := 27) (by decide +kernel) rfl
theorem dX11_looks_125 : decode cX11_looks 125 = .ok (.aload_n 0, 1) := zrD zrw_cX11_looks_96 (i := 29) (by decide +kernel) rfl
def zrk_cX11_looks_126 : ByteArray := .mk #[180, 0, 119, 27, 46, 184, 1, 89, 4, 100, 79, 177]
theorem zrw_cX11_looks_126 : zrW 126 cX11_looks zrk_cX11_looks_126 := by unfold zrW; decide +kernel
theorem dX11_looks_126 : decode cX11_looks 126 = .ok (.getfield 119, 3) := zrD zrw_cX11_looks_126 (i := 0) (by decide +kernel) rfl
theorem dX11_looks_129 : decode cX11_looks 129 = .ok (.iload_n 1, 1) := zrD zrw_cX11_looks_126 (i := 3) (by decide +kernel) rfl
theorem dX11_looks_130 : decode cX11_looks 130 = .ok (.iaload, 1) := zrD zrw_cX11_looks_126 (i := 4) (by decide +kernel) rfl
theorem dX11_looks_131 : decode cX11_looks 131 = .ok (.invokestatic 345, 3) := zrD zrw_cX11_looks_126 (i := 5) (by decide +kernel) rfl
theorem dX11_looks_134 : decode cX11_looks 134 = .ok (.iconst 1, 1) := zrD zrw_cX11_looks_126 (i := 8) (by decide +kernel) rfl
theorem dX11_looks_135 : decode cX11_looks 135 = .ok (.isub, 1) := zrD zrw_cX11_looks_126 (i := 9) (by decide +kernel) rfl
theorem dX11_looks_136 : decode cX11_looks 136 = .ok (.iastore, 1) := zrD zrw_cX11_looks_126 (i := 10) (by decide +kernel) rfl
theorem dX11_looks_137 : decode cX11_looks 137 = .ok (.return_, 1) := zrD zrw_cX11_looks_126 (i := 11) (by decide +kernel) rfl
def zrk_cX11_lawTells_0 : ByteArray := .mk #[8, 42, 180, 0, 236, 104, 27, 96, 62, 42, 180, 0, 70, 29, 46, 42, 180, 0, 73, 29, 46, 160, 0, 5, 28, 172, 42, 3, 181, 1, 54, 42]
theorem zrw_cX11_lawTells_0 : zrW 0 cX11_lawTells zrk_cX11_lawTells_0 := by unfold zrW; decide +kernel
theorem dX11_lawTells_0 : decode cX11_lawTells 0 = .ok (.iconst 5, 1) := zrD zrw_cX11_lawTells_0 (i := 0) (by decide +kernel) rfl
theorem dX11_lawTells_1 : decode cX11_lawTells 1 = .ok (.aload_n 0, 1) := zrD zrw_cX11_lawTells_0 (i := 1) (by decide +kernel) rfl
theorem dX11_lawTells_2 : decode cX11_lawTells 2 = .ok (.getfield 236, 3) := zrD zrw_cX11_lawTells_0 (i := 2) (by decide +kernel) rfl
theorem dX11_lawTells_5 : decode cX11_lawTells 5 = .ok (.imul, 1) := zrD zrw_cX11_lawTells_0 (i := 5) (by decide +kernel) rfl
theorem dX11_lawTells_6 : decode cX11_lawTells 6 = .ok (.iload_n 1, 1) := zrD zrw_cX11_lawTells_0 (i := 6) (by decide +kernel) rfl
theorem dX11_lawTells_7 : decode cX11_lawTells 7 = .ok (.iadd, 1) := zrD zrw_cX11_lawTells_0 (i := 7) (by decide +kernel) rfl
theorem dX11_lawTells_8 : decode cX11_lawTells 8 = .ok (.istore_n 3, 1) := zrD zrw_cX11_lawTells_0 (i := 8) (by decide +kernel) rfl
theorem dX11_lawTells_9 : decode cX11_lawTells 9 = .ok (.aload_n 0, 1) := zrD zrw_cX11_lawTells_0 (i := 9) (by decide +kernel) rfl
theorem dX11_lawTells_10 : decode cX11_lawTells 10 = .ok (.getfield 70, 3) := zrD zrw_cX11_lawTells_0 (i := 10) (by decide +kernel) rfl
theorem dX11_lawTells_13 : decode cX11_lawTells 13 = .ok (.iload_n 3, 1) := zrD zrw_cX11_lawTells_0 (i := 13) (by decide +kernel) rfl
theorem dX11_lawTells_14 : decode cX11_lawTells 14 = .ok (.iaload, 1) := zrD zrw_cX11_lawTells_0 (i := 14) (by decide +kernel) rfl
theorem dX11_lawTells_15 : decode cX11_lawTells 15 = .ok (.aload_n 0, 1) := zrD zrw_cX11_lawTells_0 (i := 15) (by decide +kernel) rfl
theorem dX11_lawTells_16 : decode cX11_lawTells 16 = .ok (.getfield 73, 3) := zrD zrw_cX11_lawTells_0 (i := 16) (by decide +kernel) rfl
theorem dX11_lawTells_19 : decode cX11_lawTells 19 = .ok (.iload_n 3, 1) := zrD zrw_cX11_lawTells_0 (i := 19) (by decide +kernel) rfl
theorem dX11_lawTells_20 : decode cX11_lawTells 20 = .ok (.iaload, 1) := zrD zrw_cX11_lawTells_0 (i := 20) (by decide +kernel) rfl
theorem dX11_lawTells_21 : decode cX11_lawTells 21 = .ok (.if_icmp .ne 5, 3) := zrD zrw_cX11_lawTells_0 (i := 21) (by decide +kernel) rfl
theorem dX11_lawTells_24 : decode cX11_lawTells 24 = .ok (.iload_n 2, 1) := zrD zrw_cX11_lawTells_0 (i := 24) (by decide +kernel) rfl
theorem dX11_lawTells_25 : decode cX11_lawTells 25 = .ok (.ireturn, 1) := zrD zrw_cX11_lawTells_0 (i := 25) (by decide +kernel) rfl
theorem dX11_lawTells_26 : decode cX11_lawTells 26 = .ok (.aload_n 0, 1) := zrD zrw_cX11_lawTells_0 (i := 26) (by decide +kernel) rfl
theorem dX11_lawTells_27 : decode cX11_lawTells 27 = .ok (.iconst 0, 1) := zrD zrw_cX11_lawTells_0 (i := 27) (by decide +kernel) rfl
theorem dX11_lawTells_28 : decode cX11_lawTells 28 = .ok (.putfield 310, 3) := zrD zrw_cX11_lawTells_0 (i := 28) (by decide +kernel) rfl
theorem dX11_lawTells_31 : decode cX11_lawTells 31 = .ok (.aload_n 0, 1) := zrD zrw_cX11_lawTells_0 (i := 31) (by decide +kernel) rfl
def zrk_cX11_lawTells_32 : ByteArray := .mk #[180, 0, 70, 29, 46, 54, 4, 21, 4, 42, 180, 0, 73, 29, 46, 162, 0, 112, 42, 180, 0, 76, 21, 4, 51, 153, 0, 62, 42, 42]
theorem zrw_cX11_lawTells_32 : zrW 32 cX11_lawTells zrk_cX11_lawTells_32 := by unfold zrW; decide +kernel
theorem dX11_lawTells_32 : decode cX11_lawTells 32 = .ok (.getfield 70, 3) := zrD zrw_cX11_lawTells_32 (i := 0) (by decide +kernel) rfl
theorem dX11_lawTells_35 : decode cX11_lawTells 35 = .ok (.iload_n 3, 1) := zrD zrw_cX11_lawTells_32 (i := 3) (by decide +kernel) rfl
theorem dX11_lawTells_36 : decode cX11_lawTells 36 = .ok (.iaload, 1) := zrD zrw_cX11_lawTells_32 (i := 4) (by decide +kernel) rfl
theorem dX11_lawTells_37 : decode cX11_lawTells 37 = .ok (.istore 4, 2) := zrD zrw_cX11_lawTells_32 (i := 5) (by decide +kernel) rfl
theorem dX11_lawTells_39 : decode cX11_lawTells 39 = .ok (.iload 4, 2) := zrD zrw_cX11_lawTells_32 (i := 7) (by decide +kernel) rfl
theorem dX11_lawTells_41 : decode cX11_lawTells 41 = .ok (.aload_n 0, 1) := zrD zrw_cX11_lawTells_32 (i := 9) (by decide +kernel) rfl
theorem dX11_lawTells_42 : decode cX11_lawTells 42 = .ok (.getfield 73, 3) := zrD zrw_cX11_lawTells_32 (i := 10) (by decide +kernel) rfl
theorem dX11_lawTells_45 : decode cX11_lawTells 45 = .ok (.iload_n 3, 1) := zrD zrw_cX11_lawTells_32 (i := 13) (by decide +kernel) rfl
theorem dX11_lawTells_46 : decode cX11_lawTells 46 = .ok (.iaload, 1) := zrD zrw_cX11_lawTells_32 (i := 14) (by decide +kernel) rfl
theorem dX11_lawTells_47 : decode cX11_lawTells 47 = .ok (.if_icmp .ge 112, 3) := zrD zrw_cX11_lawTells_32 (i := 15) (by decide +kernel) rfl
theorem dX11_lawTells_50 : decode cX11_lawTells 50 = .ok (.aload_n 0, 1) := zrD zrw_cX11_lawTells_32 (i := 18) (by decide +kernel) rfl
theorem dX11_lawTells_51 : decode cX11_lawTells 51 = .ok (.getfield 76, 3) := zrD zrw_cX11_lawTells_32 (i := 19) (by decide +kernel) rfl
theorem dX11_lawTells_54 : decode cX11_lawTells 54 = .ok (.iload 4, 2) := zrD zrw_cX11_lawTells_32 (i := 22) (by decide +kernel) rfl
theorem dX11_lawTells_56 : decode cX11_lawTells 56 = .ok (.baload, 1) := zrD zrw_cX11_lawTells_32 (i := 24) (by decide +kernel) rfl
theorem dX11_lawTells_57 : decode cX11_lawTells 57 = .ok (.ifCond .eq 62, 3) := zrD zrw_cX11_lawTells_32 (i := 25) (by decide +kernel) rfl
theorem dX11_lawTells_60 : decode cX11_lawTells 60 = .ok (.aload_n 0, 1) := zrD zrw_cX11_lawTells_32 (i := 28) (by decide +kernel) rfl
theorem dX11_lawTells_61 : decode cX11_lawTells 61 = .ok (.aload_n 0, 1) := zrD zrw_cX11_lawTells_32 (i := 29) (by decide +kernel) rfl
def zrk_cX11_lawTells_62 : ByteArray := .mk #[180, 0, 80, 21, 4, 46, 42, 180, 0, 83, 21, 4, 46, 182, 1, 92, 54, 5, 42, 42, 180, 0, 83, 21, 4, 46, 42, 180, 0, 86, 21, 4]
theorem zrw_cX11_lawTells_62 : zrW 62 cX11_lawTells zrk_cX11_lawTells_62 := by unfold zrW; decide +kernel
theorem dX11_lawTells_62 : decode cX11_lawTells 62 = .ok (.getfield 80, 3) := zrD zrw_cX11_lawTells_62 (i := 0) (by decide +kernel) rfl
theorem dX11_lawTells_65 : decode cX11_lawTells 65 = .ok (.iload 4, 2) := zrD zrw_cX11_lawTells_62 (i := 3) (by decide +kernel) rfl
theorem dX11_lawTells_67 : decode cX11_lawTells 67 = .ok (.iaload, 1) := zrD zrw_cX11_lawTells_62 (i := 5) (by decide +kernel) rfl
theorem dX11_lawTells_68 : decode cX11_lawTells 68 = .ok (.aload_n 0, 1) := zrD zrw_cX11_lawTells_62 (i := 6) (by decide +kernel) rfl
theorem dX11_lawTells_69 : decode cX11_lawTells 69 = .ok (.getfield 83, 3) := zrD zrw_cX11_lawTells_62 (i := 7) (by decide +kernel) rfl
theorem dX11_lawTells_72 : decode cX11_lawTells 72 = .ok (.iload 4, 2) := zrD zrw_cX11_lawTells_62 (i := 10) (by decide +kernel) rfl
theorem dX11_lawTells_74 : decode cX11_lawTells 74 = .ok (.iaload, 1) := zrD zrw_cX11_lawTells_62 (i := 12) (by decide +kernel) rfl
theorem dX11_lawTells_75 : decode cX11_lawTells 75 = .ok (.invokevirtual 348, 3) := zrD zrw_cX11_lawTells_62 (i := 13) (by decide +kernel) rfl
theorem dX11_lawTells_78 : decode cX11_lawTells 78 = .ok (.istore 5, 2) := zrD zrw_cX11_lawTells_62 (i := 16) (by decide +kernel) rfl
theorem dX11_lawTells_80 : decode cX11_lawTells 80 = .ok (.aload_n 0, 1) := zrD zrw_cX11_lawTells_62 (i := 18) (by decide +kernel) rfl
theorem dX11_lawTells_81 : decode cX11_lawTells 81 = .ok (.aload_n 0, 1) := zrD zrw_cX11_lawTells_62 (i := 19) (by decide +kernel) rfl
theorem dX11_lawTells_82 : decode cX11_lawTells 82 = .ok (.getfield 83, 3) := zrD zrw_cX11_lawTells_62 (i := 20) (by decide +kernel) rfl
theorem dX11_lawTells_85 : decode cX11_lawTells 85 = .ok (.iload 4, 2) := zrD zrw_cX11_lawTells_62 (i := 23) (by decide +kernel) rfl
theorem dX11_lawTells_87 : decode cX11_lawTells 87 = .ok (.iaload, 1) := zrD zrw_cX11_lawTells_62 (i := 25) (by decide +kernel) rfl
theorem dX11_lawTells_88 : decode cX11_lawTells 88 = .ok (.aload_n 0, 1) := zrD zrw_cX11_lawTells_62 (i := 26) (by decide +kernel) rfl
theorem dX11_lawTells_89 : decode cX11_lawTells 89 = .ok (.getfield 86, 3) := zrD zrw_cX11_lawTells_62 (i := 27) (by decide +kernel) rfl
theorem dX11_lawTells_92 : decode cX11_lawTells 92 = .ok (.iload 4, 2) := zrD zrw_cX11_lawTells_62 (i := 30) (by decide +kernel) rfl
def zrk_cX11_lawTells_94 : ByteArray := .mk #[46, 182, 1, 92, 54, 6, 42, 180, 1, 54, 153, 0, 5, 3, 172, 21, 5, 21, 6, 161, 0, 6, 167, 0, 37, 42, 42, 180, 0, 86, 21, 4]
theorem zrw_cX11_lawTells_94 : zrW 94 cX11_lawTells zrk_cX11_lawTells_94 := by unfold zrW; decide +kernel
theorem dX11_lawTells_94 : decode cX11_lawTells 94 = .ok (.iaload, 1) := zrD zrw_cX11_lawTells_94 (i := 0) (by decide +kernel) rfl
theorem dX11_lawTells_95 : decode cX11_lawTells 95 = .ok (.invokevirtual 348, 3) := zrD zrw_cX11_lawTells_94 (i := 1) (by decide +kernel) rfl
theorem dX11_lawTells_98 : decode cX11_lawTells 98 = .ok (.istore 6, 2) := zrD zrw_cX11_lawTells_94 (i := 4) (by decide +kernel) rfl
theorem dX11_lawTells_100 : decode cX11_lawTells 100 = .ok (.aload_n 0, 1) := zrD zrw_cX11_lawTells_94 (i := 6) (by decide +kernel) rfl
theorem dX11_lawTells_101 : decode cX11_lawTells 101 = .ok (.getfield 310, 3) := zrD zrw_cX11_lawTells_94 (i := 7) (by decide +kernel) rfl
theorem dX11_lawTells_104 : decode cX11_lawTells 104 = .ok (.ifCond .eq 5, 3) := zrD zrw_cX11_lawTells_94 (i := 10) (by decide +kernel) rfl
theorem dX11_lawTells_107 : decode cX11_lawTells 107 = .ok (.iconst 0, 1) := zrD zrw_cX11_lawTells_94 (i := 13) (by decide +kernel) rfl
theorem dX11_lawTells_108 : decode cX11_lawTells 108 = .ok (.ireturn, 1) := zrD zrw_cX11_lawTells_94 (i := 14) (by decide +kernel) rfl
theorem dX11_lawTells_109 : decode cX11_lawTells 109 = .ok (.iload 5, 2) := zrD zrw_cX11_lawTells_94 (i := 15) (by decide +kernel) rfl
theorem dX11_lawTells_111 : decode cX11_lawTells 111 = .ok (.iload 6, 2) := zrD zrw_cX11_lawTells_94 (i := 17) (by decide +kernel) rfl
theorem dX11_lawTells_113 : decode cX11_lawTells 113 = .ok (.if_icmp .lt 6, 3) := zrD zrw_cX11_lawTells_94 (i := 19) (by decide +kernel) rfl
theorem dX11_lawTells_116 : decode cX11_lawTells 116 = .ok (.goto 37, 3) := zrD zrw_cX11_lawTells_94 (i := 22) (by decide +kernel) rfl
theorem dX11_lawTells_119 : decode cX11_lawTells 119 = .ok (.aload_n 0, 1) := zrD zrw_cX11_lawTells_94 (i := 25) (by decide +kernel) rfl
theorem dX11_lawTells_120 : decode cX11_lawTells 120 = .ok (.aload_n 0, 1) := zrD zrw_cX11_lawTells_94 (i := 26) (by decide +kernel) rfl
theorem dX11_lawTells_121 : decode cX11_lawTells 121 = .ok (.getfield 86, 3) := zrD zrw_cX11_lawTells_94 (i := 27) (by decide +kernel) rfl
theorem dX11_lawTells_124 : decode cX11_lawTells 124 = .ok (.iload 4, 2) := zrD zrw_cX11_lawTells_94 (i := 30) (by decide +kernel) rfl
def zrk_cX11_lawTells_126 : ByteArray := .mk #[46, 42, 180, 0, 89, 21, 4, 46, 182, 1, 92, 54, 5, 42, 180, 1, 54, 153, 0, 7, 3, 167, 0, 5, 21, 5, 172, 132, 4, 1]
theorem zrw_cX11_lawTells_126 : zrW 126 cX11_lawTells zrk_cX11_lawTells_126 := by unfold zrW; decide +kernel
theorem dX11_lawTells_126 : decode cX11_lawTells 126 = .ok (.iaload, 1) := zrD zrw_cX11_lawTells_126 (i := 0) (by decide +kernel) rfl
theorem dX11_lawTells_127 : decode cX11_lawTells 127 = .ok (.aload_n 0, 1) := zrD zrw_cX11_lawTells_126 (i := 1) (by decide +kernel) rfl
theorem dX11_lawTells_128 : decode cX11_lawTells 128 = .ok (.getfield 89, 3) := zrD zrw_cX11_lawTells_126 (i := 2) (by decide +kernel) rfl
theorem dX11_lawTells_131 : decode cX11_lawTells 131 = .ok (.iload 4, 2) := zrD zrw_cX11_lawTells_126 (i := 5) (by decide +kernel) rfl
theorem dX11_lawTells_133 : decode cX11_lawTells 133 = .ok (.iaload, 1) := zrD zrw_cX11_lawTells_126 (i := 7) (by decide +kernel) rfl
theorem dX11_lawTells_134 : decode cX11_lawTells 134 = .ok (.invokevirtual 348, 3) := zrD zrw_cX11_lawTells_126 (i := 8) (by decide +kernel) rfl
theorem dX11_lawTells_137 : decode cX11_lawTells 137 = .ok (.istore 5, 2) := zrD zrw_cX11_lawTells_126 (i := 11) (by decide +kernel) rfl
theorem dX11_lawTells_139 : decode cX11_lawTells 139 = .ok (.aload_n 0, 1) := zrD zrw_cX11_lawTells_126 (i := 13) (by decide +kernel) rfl
theorem dX11_lawTells_140 : decode cX11_lawTells 140 = .ok (.getfield 310, 3) := zrD zrw_cX11_lawTells_126 (i := 14) (by decide +kernel) rfl
theorem dX11_lawTells_143 : decode cX11_lawTells 143 = .ok (.ifCond .eq 7, 3) := zrD zrw_cX11_lawTells_126 (i := 17) (by decide +kernel) rfl
theorem dX11_lawTells_146 : decode cX11_lawTells 146 = .ok (.iconst 0, 1) := zrD zrw_cX11_lawTells_126 (i := 20) (by decide +kernel) rfl
theorem dX11_lawTells_147 : decode cX11_lawTells 147 = .ok (.goto 5, 3) := zrD zrw_cX11_lawTells_126 (i := 21) (by decide +kernel) rfl
theorem dX11_lawTells_150 : decode cX11_lawTells 150 = .ok (.iload 5, 2) := zrD zrw_cX11_lawTells_126 (i := 24) (by decide +kernel) rfl
theorem dX11_lawTells_152 : decode cX11_lawTells 152 = .ok (.ireturn, 1) := zrD zrw_cX11_lawTells_126 (i := 26) (by decide +kernel) rfl
theorem dX11_lawTells_153 : decode cX11_lawTells 153 = .ok (.iinc 4 1, 3) := zrD zrw_cX11_lawTells_126 (i := 27) (by decide +kernel) rfl
def zrk_cX11_lawTells_156 : ByteArray := .mk #[167, 255, 139, 3, 172]
theorem zrw_cX11_lawTells_156 : zrW 156 cX11_lawTells zrk_cX11_lawTells_156 := by unfold zrW; decide +kernel
theorem dX11_lawTells_156 : decode cX11_lawTells 156 = .ok (.goto (-117), 3) := zrD zrw_cX11_lawTells_156 (i := 0) (by decide +kernel) rfl
theorem dX11_lawTells_159 : decode cX11_lawTells 159 = .ok (.iconst 0, 1) := zrD zrw_cX11_lawTells_156 (i := 3) (by decide +kernel) rfl
theorem dX11_lawTells_160 : decode cX11_lawTells 160 = .ok (.ireturn, 1) := zrD zrw_cX11_lawTells_156 (i := 4) (by decide +kernel) rfl
def zrk_cX11_rainsAt_0 : ByteArray := .mk #[42, 27, 3, 182, 1, 95, 42, 3, 42, 180, 0, 101, 3, 46, 182, 1, 98, 3, 17, 3, 231, 184, 1, 101, 172]
theorem zrw_cX11_rainsAt_0 : zrW 0 cX11_rainsAt zrk_cX11_rainsAt_0 := by unfold zrW; decide +kernel
theorem dX11_rainsAt_0 : decode cX11_rainsAt 0 = .ok (.aload_n 0, 1) := zrD zrw_cX11_rainsAt_0 (i := 0) (by decide +kernel) rfl
theorem dX11_rainsAt_1 : decode cX11_rainsAt 1 = .ok (.iload_n 1, 1) := zrD zrw_cX11_rainsAt_0 (i := 1) (by decide +kernel) rfl
theorem dX11_rainsAt_2 : decode cX11_rainsAt 2 = .ok (.iconst 0, 1) := zrD zrw_cX11_rainsAt_0 (i := 2) (by decide +kernel) rfl
theorem dX11_rainsAt_3 : decode cX11_rainsAt 3 = .ok (.invokevirtual 351, 3) := zrD zrw_cX11_rainsAt_0 (i := 3) (by decide +kernel) rfl
theorem dX11_rainsAt_6 : decode cX11_rainsAt 6 = .ok (.aload_n 0, 1) := zrD zrw_cX11_rainsAt_0 (i := 6) (by decide +kernel) rfl
theorem dX11_rainsAt_7 : decode cX11_rainsAt 7 = .ok (.iconst 0, 1) := zrD zrw_cX11_rainsAt_0 (i := 7) (by decide +kernel) rfl
theorem dX11_rainsAt_8 : decode cX11_rainsAt 8 = .ok (.aload_n 0, 1) := zrD zrw_cX11_rainsAt_0 (i := 8) (by decide +kernel) rfl
theorem dX11_rainsAt_9 : decode cX11_rainsAt 9 = .ok (.getfield 101, 3) := zrD zrw_cX11_rainsAt_0 (i := 9) (by decide +kernel) rfl
theorem dX11_rainsAt_12 : decode cX11_rainsAt 12 = .ok (.iconst 0, 1) := zrD zrw_cX11_rainsAt_0 (i := 12) (by decide +kernel) rfl
theorem dX11_rainsAt_13 : decode cX11_rainsAt 13 = .ok (.iaload, 1) := zrD zrw_cX11_rainsAt_0 (i := 13) (by decide +kernel) rfl
theorem dX11_rainsAt_14 : decode cX11_rainsAt 14 = .ok (.invokevirtual 354, 3) := zrD zrw_cX11_rainsAt_0 (i := 14) (by decide +kernel) rfl
theorem dX11_rainsAt_17 : decode cX11_rainsAt 17 = .ok (.iconst 0, 1) := zrD zrw_cX11_rainsAt_0 (i := 17) (by decide +kernel) rfl
theorem dX11_rainsAt_18 : decode cX11_rainsAt 18 = .ok (.sipush 999, 3) := zrD zrw_cX11_rainsAt_0 (i := 18) (by decide +kernel) rfl
theorem dX11_rainsAt_21 : decode cX11_rainsAt 21 = .ok (.invokestatic 357, 3) := zrD zrw_cX11_rainsAt_0 (i := 21) (by decide +kernel) rfl
theorem dX11_rainsAt_24 : decode cX11_rainsAt 24 = .ok (.ireturn, 1) := zrD zrw_cX11_rainsAt_0 (i := 24) (by decide +kernel) rfl
def zrk_cX11_driesAt_0 : ByteArray := .mk #[42, 27, 42, 180, 0, 122, 27, 46, 182, 1, 95, 42, 4, 3, 182, 1, 98, 3, 42, 180, 0, 122, 27, 46, 184, 1, 101, 172]
theorem zrw_cX11_driesAt_0 : zrW 0 cX11_driesAt zrk_cX11_driesAt_0 := by unfold zrW; decide +kernel
theorem dX11_driesAt_0 : decode cX11_driesAt 0 = .ok (.aload_n 0, 1) := zrD zrw_cX11_driesAt_0 (i := 0) (by decide +kernel) rfl
theorem dX11_driesAt_1 : decode cX11_driesAt 1 = .ok (.iload_n 1, 1) := zrD zrw_cX11_driesAt_0 (i := 1) (by decide +kernel) rfl
theorem dX11_driesAt_2 : decode cX11_driesAt 2 = .ok (.aload_n 0, 1) := zrD zrw_cX11_driesAt_0 (i := 2) (by decide +kernel) rfl
theorem dX11_driesAt_3 : decode cX11_driesAt 3 = .ok (.getfield 122, 3) := zrD zrw_cX11_driesAt_0 (i := 3) (by decide +kernel) rfl
theorem dX11_driesAt_6 : decode cX11_driesAt 6 = .ok (.iload_n 1, 1) := zrD zrw_cX11_driesAt_0 (i := 6) (by decide +kernel) rfl
theorem dX11_driesAt_7 : decode cX11_driesAt 7 = .ok (.iaload, 1) := zrD zrw_cX11_driesAt_0 (i := 7) (by decide +kernel) rfl
theorem dX11_driesAt_8 : decode cX11_driesAt 8 = .ok (.invokevirtual 351, 3) := zrD zrw_cX11_driesAt_0 (i := 8) (by decide +kernel) rfl
theorem dX11_driesAt_11 : decode cX11_driesAt 11 = .ok (.aload_n 0, 1) := zrD zrw_cX11_driesAt_0 (i := 11) (by decide +kernel) rfl
theorem dX11_driesAt_12 : decode cX11_driesAt 12 = .ok (.iconst 1, 1) := zrD zrw_cX11_driesAt_0 (i := 12) (by decide +kernel) rfl
theorem dX11_driesAt_13 : decode cX11_driesAt 13 = .ok (.iconst 0, 1) := zrD zrw_cX11_driesAt_0 (i := 13) (by decide +kernel) rfl
theorem dX11_driesAt_14 : decode cX11_driesAt 14 = .ok (.invokevirtual 354, 3) := zrD zrw_cX11_driesAt_0 (i := 14) (by decide +kernel) rfl
theorem dX11_driesAt_17 : decode cX11_driesAt 17 = .ok (.iconst 0, 1) := zrD zrw_cX11_driesAt_0 (i := 17) (by decide +kernel) rfl
theorem dX11_driesAt_18 : decode cX11_driesAt 18 = .ok (.aload_n 0, 1) := zrD zrw_cX11_driesAt_0 (i := 18) (by decide +kernel) rfl
theorem dX11_driesAt_19 : decode cX11_driesAt 19 = .ok (.getfield 122, 3) := zrD zrw_cX11_driesAt_0 (i := 19) (by decide +kernel) rfl
theorem dX11_driesAt_22 : decode cX11_driesAt 22 = .ok (.iload_n 1, 1) := zrD zrw_cX11_driesAt_0 (i := 22) (by decide +kernel) rfl
theorem dX11_driesAt_23 : decode cX11_driesAt 23 = .ok (.iaload, 1) := zrD zrw_cX11_driesAt_0 (i := 23) (by decide +kernel) rfl
theorem dX11_driesAt_24 : decode cX11_driesAt 24 = .ok (.invokestatic 357, 3) := zrD zrw_cX11_driesAt_0 (i := 24) (by decide +kernel) rfl
theorem dX11_driesAt_27 : decode cX11_driesAt 27 = .ok (.ireturn, 1) := zrD zrw_cX11_driesAt_0 (i := 27) (by decide +kernel) rfl
def zrk_cX11_fillsFlows_0 : ByteArray := .mk #[3, 61, 28, 42, 182, 1, 57, 162, 0, 22, 42, 180, 0, 122, 28, 42, 28, 182, 1, 104, 27, 96, 79, 132, 2, 1, 167, 255, 232, 16, 11, 61]
theorem zrw_cX11_fillsFlows_0 : zrW 0 cX11_fillsFlows zrk_cX11_fillsFlows_0 := by unfold zrW; decide +kernel
theorem dX11_fillsFlows_0 : decode cX11_fillsFlows 0 = .ok (.iconst 0, 1) := zrD zrw_cX11_fillsFlows_0 (i := 0) (by decide +kernel) rfl
theorem dX11_fillsFlows_1 : decode cX11_fillsFlows 1 = .ok (.istore_n 2, 1) := zrD zrw_cX11_fillsFlows_0 (i := 1) (by decide +kernel) rfl
theorem dX11_fillsFlows_2 : decode cX11_fillsFlows 2 = .ok (.iload_n 2, 1) := zrD zrw_cX11_fillsFlows_0 (i := 2) (by decide +kernel) rfl
theorem dX11_fillsFlows_3 : decode cX11_fillsFlows 3 = .ok (.aload_n 0, 1) := zrD zrw_cX11_fillsFlows_0 (i := 3) (by decide +kernel) rfl
theorem dX11_fillsFlows_4 : decode cX11_fillsFlows 4 = .ok (.invokevirtual 313, 3) := zrD zrw_cX11_fillsFlows_0 (i := 4) (by decide +kernel) rfl
theorem dX11_fillsFlows_7 : decode cX11_fillsFlows 7 = .ok (.if_icmp .ge 22, 3) := zrD zrw_cX11_fillsFlows_0 (i := 7) (by decide +kernel) rfl
theorem dX11_fillsFlows_10 : decode cX11_fillsFlows 10 = .ok (.aload_n 0, 1) := zrD zrw_cX11_fillsFlows_0 (i := 10) (by decide +kernel) rfl
theorem dX11_fillsFlows_11 : decode cX11_fillsFlows 11 = .ok (.getfield 122, 3) := zrD zrw_cX11_fillsFlows_0 (i := 11) (by decide +kernel) rfl
theorem dX11_fillsFlows_14 : decode cX11_fillsFlows 14 = .ok (.iload_n 2, 1) := zrD zrw_cX11_fillsFlows_0 (i := 14) (by decide +kernel) rfl
theorem dX11_fillsFlows_15 : decode cX11_fillsFlows 15 = .ok (.aload_n 0, 1) := zrD zrw_cX11_fillsFlows_0 (i := 15) (by decide +kernel) rfl
theorem dX11_fillsFlows_16 : decode cX11_fillsFlows 16 = .ok (.iload_n 2, 1) := zrD zrw_cX11_fillsFlows_0 (i := 16) (by decide +kernel) rfl
theorem dX11_fillsFlows_17 : decode cX11_fillsFlows 17 = .ok (.invokevirtual 360, 3) := zrD zrw_cX11_fillsFlows_0 (i := 17) (by decide +kernel) rfl
theorem dX11_fillsFlows_20 : decode cX11_fillsFlows 20 = .ok (.iload_n 1, 1) := zrD zrw_cX11_fillsFlows_0 (i := 20) (by decide +kernel) rfl
theorem dX11_fillsFlows_21 : decode cX11_fillsFlows 21 = .ok (.iadd, 1) := zrD zrw_cX11_fillsFlows_0 (i := 21) (by decide +kernel) rfl
theorem dX11_fillsFlows_22 : decode cX11_fillsFlows 22 = .ok (.iastore, 1) := zrD zrw_cX11_fillsFlows_0 (i := 22) (by decide +kernel) rfl
theorem dX11_fillsFlows_23 : decode cX11_fillsFlows 23 = .ok (.iinc 2 1, 3) := zrD zrw_cX11_fillsFlows_0 (i := 23) (by decide +kernel) rfl
theorem dX11_fillsFlows_26 : decode cX11_fillsFlows 26 = .ok (.goto (-24), 3) := zrD zrw_cX11_fillsFlows_0 (i := 26) (by decide +kernel) rfl
theorem dX11_fillsFlows_29 : decode cX11_fillsFlows 29 = .ok (.bipush 11, 2) := zrD zrw_cX11_fillsFlows_0 (i := 29) (by decide +kernel) rfl
theorem dX11_fillsFlows_31 : decode cX11_fillsFlows 31 = .ok (.istore_n 2, 1) := zrD zrw_cX11_fillsFlows_0 (i := 31) (by decide +kernel) rfl
def zrk_cX11_fillsFlows_32 : ByteArray := .mk #[28, 158, 0, 81, 4, 62, 29, 42, 182, 1, 57, 162, 0, 65, 42, 180, 0, 116, 29, 46, 28, 160, 0, 49, 42, 180, 0, 110, 16, 12, 29, 96]
theorem zrw_cX11_fillsFlows_32 : zrW 32 cX11_fillsFlows zrk_cX11_fillsFlows_32 := by unfold zrW; decide +kernel
theorem dX11_fillsFlows_32 : decode cX11_fillsFlows 32 = .ok (.iload_n 2, 1) := zrD zrw_cX11_fillsFlows_32 (i := 0) (by decide +kernel) rfl
theorem dX11_fillsFlows_33 : decode cX11_fillsFlows 33 = .ok (.ifCond .le 81, 3) := zrD zrw_cX11_fillsFlows_32 (i := 1) (by decide +kernel) rfl
theorem dX11_fillsFlows_36 : decode cX11_fillsFlows 36 = .ok (.iconst 1, 1) := zrD zrw_cX11_fillsFlows_32 (i := 4) (by decide +kernel) rfl
theorem dX11_fillsFlows_37 : decode cX11_fillsFlows 37 = .ok (.istore_n 3, 1) := zrD zrw_cX11_fillsFlows_32 (i := 5) (by decide +kernel) rfl
theorem dX11_fillsFlows_38 : decode cX11_fillsFlows 38 = .ok (.iload_n 3, 1) := zrD zrw_cX11_fillsFlows_32 (i := 6) (by decide +kernel) rfl
theorem dX11_fillsFlows_39 : decode cX11_fillsFlows 39 = .ok (.aload_n 0, 1) := zrD zrw_cX11_fillsFlows_32 (i := 7) (by decide +kernel) rfl
theorem dX11_fillsFlows_40 : decode cX11_fillsFlows 40 = .ok (.invokevirtual 313, 3) := zrD zrw_cX11_fillsFlows_32 (i := 8) (by decide +kernel) rfl
theorem dX11_fillsFlows_43 : decode cX11_fillsFlows 43 = .ok (.if_icmp .ge 65, 3) := zrD zrw_cX11_fillsFlows_32 (i := 11) (by decide +kernel) rfl
theorem dX11_fillsFlows_46 : decode cX11_fillsFlows 46 = .ok (.aload_n 0, 1) := zrD zrw_cX11_fillsFlows_32 (i := 14) (by decide +kernel) rfl
theorem dX11_fillsFlows_47 : decode cX11_fillsFlows 47 = .ok (.getfield 116, 3) := zrD zrw_cX11_fillsFlows_32 (i := 15) (by decide +kernel) rfl
theorem dX11_fillsFlows_50 : decode cX11_fillsFlows 50 = .ok (.iload_n 3, 1) := zrD zrw_cX11_fillsFlows_32 (i := 18) (by decide +kernel) rfl
theorem dX11_fillsFlows_51 : decode cX11_fillsFlows 51 = .ok (.iaload, 1) := zrD zrw_cX11_fillsFlows_32 (i := 19) (by decide +kernel) rfl
theorem dX11_fillsFlows_52 : decode cX11_fillsFlows 52 = .ok (.iload_n 2, 1) := zrD zrw_cX11_fillsFlows_32 (i := 20) (by decide +kernel) rfl
theorem dX11_fillsFlows_53 : decode cX11_fillsFlows 53 = .ok (.if_icmp .ne 49, 3) := zrD zrw_cX11_fillsFlows_32 (i := 21) (by decide +kernel) rfl
theorem dX11_fillsFlows_56 : decode cX11_fillsFlows 56 = .ok (.aload_n 0, 1) := zrD zrw_cX11_fillsFlows_32 (i := 24) (by decide +kernel) rfl
theorem dX11_fillsFlows_57 : decode cX11_fillsFlows 57 = .ok (.getfield 110, 3) := zrD zrw_cX11_fillsFlows_32 (i := 25) (by decide +kernel) rfl
theorem dX11_fillsFlows_60 : decode cX11_fillsFlows 60 = .ok (.bipush 12, 2) := zrD zrw_cX11_fillsFlows_32 (i := 28) (by decide +kernel) rfl
theorem dX11_fillsFlows_62 : decode cX11_fillsFlows 62 = .ok (.iload_n 3, 1) := zrD zrw_cX11_fillsFlows_32 (i := 30) (by decide +kernel) rfl
theorem dX11_fillsFlows_63 : decode cX11_fillsFlows 63 = .ok (.iadd, 1) := zrD zrw_cX11_fillsFlows_32 (i := 31) (by decide +kernel) rfl
def zrk_cX11_fillsFlows_64 : ByteArray := .mk #[46, 4, 160, 0, 6, 167, 0, 33, 42, 180, 0, 122, 29, 46, 42, 29, 182, 1, 107, 100, 54, 4, 42, 180, 0, 122, 42, 180, 0, 110, 29, 46]
theorem zrw_cX11_fillsFlows_64 : zrW 64 cX11_fillsFlows zrk_cX11_fillsFlows_64 := by unfold zrW; decide +kernel
theorem dX11_fillsFlows_64 : decode cX11_fillsFlows 64 = .ok (.iaload, 1) := zrD zrw_cX11_fillsFlows_64 (i := 0) (by decide +kernel) rfl
theorem dX11_fillsFlows_65 : decode cX11_fillsFlows 65 = .ok (.iconst 1, 1) := zrD zrw_cX11_fillsFlows_64 (i := 1) (by decide +kernel) rfl
theorem dX11_fillsFlows_66 : decode cX11_fillsFlows 66 = .ok (.if_icmp .ne 6, 3) := zrD zrw_cX11_fillsFlows_64 (i := 2) (by decide +kernel) rfl
theorem dX11_fillsFlows_69 : decode cX11_fillsFlows 69 = .ok (.goto 33, 3) := zrD zrw_cX11_fillsFlows_64 (i := 5) (by decide +kernel) rfl
theorem dX11_fillsFlows_72 : decode cX11_fillsFlows 72 = .ok (.aload_n 0, 1) := zrD zrw_cX11_fillsFlows_64 (i := 8) (by decide +kernel) rfl
theorem dX11_fillsFlows_73 : decode cX11_fillsFlows 73 = .ok (.getfield 122, 3) := zrD zrw_cX11_fillsFlows_64 (i := 9) (by decide +kernel) rfl
theorem dX11_fillsFlows_76 : decode cX11_fillsFlows 76 = .ok (.iload_n 3, 1) := zrD zrw_cX11_fillsFlows_64 (i := 12) (by decide +kernel) rfl
theorem dX11_fillsFlows_77 : decode cX11_fillsFlows 77 = .ok (.iaload, 1) := zrD zrw_cX11_fillsFlows_64 (i := 13) (by decide +kernel) rfl
theorem dX11_fillsFlows_78 : decode cX11_fillsFlows 78 = .ok (.aload_n 0, 1) := zrD zrw_cX11_fillsFlows_64 (i := 14) (by decide +kernel) rfl
theorem dX11_fillsFlows_79 : decode cX11_fillsFlows 79 = .ok (.iload_n 3, 1) := zrD zrw_cX11_fillsFlows_64 (i := 15) (by decide +kernel) rfl
theorem dX11_fillsFlows_80 : decode cX11_fillsFlows 80 = .ok (.invokevirtual 363, 3) := zrD zrw_cX11_fillsFlows_64 (i := 16) (by decide +kernel) rfl
theorem dX11_fillsFlows_83 : decode cX11_fillsFlows 83 = .ok (.isub, 1) := zrD zrw_cX11_fillsFlows_64 (i := 19) (by decide +kernel) rfl
theorem dX11_fillsFlows_84 : decode cX11_fillsFlows 84 = .ok (.istore 4, 2) := zrD zrw_cX11_fillsFlows_64 (i := 20) (by decide +kernel) rfl
theorem dX11_fillsFlows_86 : decode cX11_fillsFlows 86 = .ok (.aload_n 0, 1) := zrD zrw_cX11_fillsFlows_64 (i := 22) (by decide +kernel) rfl
theorem dX11_fillsFlows_87 : decode cX11_fillsFlows 87 = .ok (.getfield 122, 3) := zrD zrw_cX11_fillsFlows_64 (i := 23) (by decide +kernel) rfl
theorem dX11_fillsFlows_90 : decode cX11_fillsFlows 90 = .ok (.aload_n 0, 1) := zrD zrw_cX11_fillsFlows_64 (i := 26) (by decide +kernel) rfl
theorem dX11_fillsFlows_91 : decode cX11_fillsFlows 91 = .ok (.getfield 110, 3) := zrD zrw_cX11_fillsFlows_64 (i := 27) (by decide +kernel) rfl
theorem dX11_fillsFlows_94 : decode cX11_fillsFlows 94 = .ok (.iload_n 3, 1) := zrD zrw_cX11_fillsFlows_64 (i := 30) (by decide +kernel) rfl
theorem dX11_fillsFlows_95 : decode cX11_fillsFlows 95 = .ok (.iaload, 1) := zrD zrw_cX11_fillsFlows_64 (i := 31) (by decide +kernel) rfl
def zrk_cX11_fillsFlows_96 : ByteArray := .mk #[92, 46, 21, 4, 96, 79, 132, 3, 1, 167, 255, 189, 132, 2, 255, 167, 255, 177, 177]
theorem zrw_cX11_fillsFlows_96 : zrW 96 cX11_fillsFlows zrk_cX11_fillsFlows_96 := by unfold zrW; decide +kernel
theorem dX11_fillsFlows_96 : decode cX11_fillsFlows 96 = .ok (.dup2, 1) := zrD zrw_cX11_fillsFlows_96 (i := 0) (by decide +kernel) rfl
theorem dX11_fillsFlows_97 : decode cX11_fillsFlows 97 = .ok (.iaload, 1) := zrD zrw_cX11_fillsFlows_96 (i := 1) (by decide +kernel) rfl
theorem dX11_fillsFlows_98 : decode cX11_fillsFlows 98 = .ok (.iload 4, 2) := zrD zrw_cX11_fillsFlows_96 (i := 2) (by decide +kernel) rfl
theorem dX11_fillsFlows_100 : decode cX11_fillsFlows 100 = .ok (.iadd, 1) := zrD zrw_cX11_fillsFlows_96 (i := 4) (by decide +kernel) rfl
theorem dX11_fillsFlows_101 : decode cX11_fillsFlows 101 = .ok (.iastore, 1) := zrD zrw_cX11_fillsFlows_96 (i := 5) (by decide +kernel) rfl
theorem dX11_fillsFlows_102 : decode cX11_fillsFlows 102 = .ok (.iinc 3 1, 3) := zrD zrw_cX11_fillsFlows_96 (i := 6) (by decide +kernel) rfl
theorem dX11_fillsFlows_105 : decode cX11_fillsFlows 105 = .ok (.goto (-67), 3) := zrD zrw_cX11_fillsFlows_96 (i := 9) (by decide +kernel) rfl
theorem dX11_fillsFlows_108 : decode cX11_fillsFlows 108 = .ok (.iinc 2 (-1), 3) := zrD zrw_cX11_fillsFlows_96 (i := 12) (by decide +kernel) rfl
theorem dX11_fillsFlows_111 : decode cX11_fillsFlows 111 = .ok (.goto (-79), 3) := zrD zrw_cX11_fillsFlows_96 (i := 15) (by decide +kernel) rfl
theorem dX11_fillsFlows_114 : decode cX11_fillsFlows 114 = .ok (.return_, 1) := zrD zrw_cX11_fillsFlows_96 (i := 18) (by decide +kernel) rfl
def zrk_cX11_claimOf_0 : ByteArray := .mk #[42, 27, 42, 180, 0, 122, 27, 46, 182, 1, 95, 28, 154, 0, 12, 42, 180, 0, 101, 4, 46, 167, 0, 23, 28, 4, 160, 0, 12, 42]
theorem zrw_cX11_claimOf_0 : zrW 0 cX11_claimOf zrk_cX11_claimOf_0 := by unfold zrW; decide +kernel
theorem dX11_claimOf_0 : decode cX11_claimOf 0 = .ok (.aload_n 0, 1) := zrD zrw_cX11_claimOf_0 (i := 0) (by decide +kernel) rfl
theorem dX11_claimOf_1 : decode cX11_claimOf 1 = .ok (.iload_n 1, 1) := zrD zrw_cX11_claimOf_0 (i := 1) (by decide +kernel) rfl
theorem dX11_claimOf_2 : decode cX11_claimOf 2 = .ok (.aload_n 0, 1) := zrD zrw_cX11_claimOf_0 (i := 2) (by decide +kernel) rfl
theorem dX11_claimOf_3 : decode cX11_claimOf 3 = .ok (.getfield 122, 3) := zrD zrw_cX11_claimOf_0 (i := 3) (by decide +kernel) rfl
theorem dX11_claimOf_6 : decode cX11_claimOf 6 = .ok (.iload_n 1, 1) := zrD zrw_cX11_claimOf_0 (i := 6) (by decide +kernel) rfl
theorem dX11_claimOf_7 : decode cX11_claimOf 7 = .ok (.iaload, 1) := zrD zrw_cX11_claimOf_0 (i := 7) (by decide +kernel) rfl
theorem dX11_claimOf_8 : decode cX11_claimOf 8 = .ok (.invokevirtual 351, 3) := zrD zrw_cX11_claimOf_0 (i := 8) (by decide +kernel) rfl
theorem dX11_claimOf_11 : decode cX11_claimOf 11 = .ok (.iload_n 2, 1) := zrD zrw_cX11_claimOf_0 (i := 11) (by decide +kernel) rfl
theorem dX11_claimOf_12 : decode cX11_claimOf 12 = .ok (.ifCond .ne 12, 3) := zrD zrw_cX11_claimOf_0 (i := 12) (by decide +kernel) rfl
theorem dX11_claimOf_15 : decode cX11_claimOf 15 = .ok (.aload_n 0, 1) := zrD zrw_cX11_claimOf_0 (i := 15) (by decide +kernel) rfl
theorem dX11_claimOf_16 : decode cX11_claimOf 16 = .ok (.getfield 101, 3) := zrD zrw_cX11_claimOf_0 (i := 16) (by decide +kernel) rfl
theorem dX11_claimOf_19 : decode cX11_claimOf 19 = .ok (.iconst 1, 1) := zrD zrw_cX11_claimOf_0 (i := 19) (by decide +kernel) rfl
theorem dX11_claimOf_20 : decode cX11_claimOf 20 = .ok (.iaload, 1) := zrD zrw_cX11_claimOf_0 (i := 20) (by decide +kernel) rfl
theorem dX11_claimOf_21 : decode cX11_claimOf 21 = .ok (.goto 23, 3) := zrD zrw_cX11_claimOf_0 (i := 21) (by decide +kernel) rfl
theorem dX11_claimOf_24 : decode cX11_claimOf 24 = .ok (.iload_n 2, 1) := zrD zrw_cX11_claimOf_0 (i := 24) (by decide +kernel) rfl
theorem dX11_claimOf_25 : decode cX11_claimOf 25 = .ok (.iconst 1, 1) := zrD zrw_cX11_claimOf_0 (i := 25) (by decide +kernel) rfl
theorem dX11_claimOf_26 : decode cX11_claimOf 26 = .ok (.if_icmp .ne 12, 3) := zrD zrw_cX11_claimOf_0 (i := 26) (by decide +kernel) rfl
theorem dX11_claimOf_29 : decode cX11_claimOf 29 = .ok (.aload_n 0, 1) := zrD zrw_cX11_claimOf_0 (i := 29) (by decide +kernel) rfl
def zrk_cX11_claimOf_30 : ByteArray := .mk #[180, 0, 101, 7, 46, 167, 0, 9, 42, 180, 0, 101, 5, 46, 62, 42, 5, 28, 96, 29, 182, 1, 98, 3, 19, 1, 110, 184, 1, 101, 172]
theorem zrw_cX11_claimOf_30 : zrW 30 cX11_claimOf zrk_cX11_claimOf_30 := by unfold zrW; decide +kernel
theorem dX11_claimOf_30 : decode cX11_claimOf 30 = .ok (.getfield 101, 3) := zrD zrw_cX11_claimOf_30 (i := 0) (by decide +kernel) rfl
theorem dX11_claimOf_33 : decode cX11_claimOf 33 = .ok (.iconst 4, 1) := zrD zrw_cX11_claimOf_30 (i := 3) (by decide +kernel) rfl
theorem dX11_claimOf_34 : decode cX11_claimOf 34 = .ok (.iaload, 1) := zrD zrw_cX11_claimOf_30 (i := 4) (by decide +kernel) rfl
theorem dX11_claimOf_35 : decode cX11_claimOf 35 = .ok (.goto 9, 3) := zrD zrw_cX11_claimOf_30 (i := 5) (by decide +kernel) rfl
theorem dX11_claimOf_38 : decode cX11_claimOf 38 = .ok (.aload_n 0, 1) := zrD zrw_cX11_claimOf_30 (i := 8) (by decide +kernel) rfl
theorem dX11_claimOf_39 : decode cX11_claimOf 39 = .ok (.getfield 101, 3) := zrD zrw_cX11_claimOf_30 (i := 9) (by decide +kernel) rfl
theorem dX11_claimOf_42 : decode cX11_claimOf 42 = .ok (.iconst 2, 1) := zrD zrw_cX11_claimOf_30 (i := 12) (by decide +kernel) rfl
theorem dX11_claimOf_43 : decode cX11_claimOf 43 = .ok (.iaload, 1) := zrD zrw_cX11_claimOf_30 (i := 13) (by decide +kernel) rfl
theorem dX11_claimOf_44 : decode cX11_claimOf 44 = .ok (.istore_n 3, 1) := zrD zrw_cX11_claimOf_30 (i := 14) (by decide +kernel) rfl
theorem dX11_claimOf_45 : decode cX11_claimOf 45 = .ok (.aload_n 0, 1) := zrD zrw_cX11_claimOf_30 (i := 15) (by decide +kernel) rfl
theorem dX11_claimOf_46 : decode cX11_claimOf 46 = .ok (.iconst 2, 1) := zrD zrw_cX11_claimOf_30 (i := 16) (by decide +kernel) rfl
theorem dX11_claimOf_47 : decode cX11_claimOf 47 = .ok (.iload_n 2, 1) := zrD zrw_cX11_claimOf_30 (i := 17) (by decide +kernel) rfl
theorem dX11_claimOf_48 : decode cX11_claimOf 48 = .ok (.iadd, 1) := zrD zrw_cX11_claimOf_30 (i := 18) (by decide +kernel) rfl
theorem dX11_claimOf_49 : decode cX11_claimOf 49 = .ok (.iload_n 3, 1) := zrD zrw_cX11_claimOf_30 (i := 19) (by decide +kernel) rfl
theorem dX11_claimOf_50 : decode cX11_claimOf 50 = .ok (.invokevirtual 354, 3) := zrD zrw_cX11_claimOf_30 (i := 20) (by decide +kernel) rfl
theorem dX11_claimOf_53 : decode cX11_claimOf 53 = .ok (.iconst 0, 1) := zrD zrw_cX11_claimOf_30 (i := 23) (by decide +kernel) rfl
theorem dX11_claimOf_54 : decode cX11_claimOf 54 = .ok (.ldc_w 366, 3) := zrD zrw_cX11_claimOf_30 (i := 24) (by decide +kernel) rfl
theorem dX11_claimOf_57 : decode cX11_claimOf 57 = .ok (.invokestatic 357, 3) := zrD zrw_cX11_claimOf_30 (i := 27) (by decide +kernel) rfl
theorem dX11_claimOf_60 : decode cX11_claimOf 60 = .ok (.ireturn, 1) := zrD zrw_cX11_claimOf_30 (i := 30) (by decide +kernel) rfl
def zrk_cX11_winnerBy_0 : ByteArray := .mk #[16, 254, 61, 3, 62, 4, 54, 4, 21, 4, 42, 182, 1, 57, 162, 0, 49, 42, 21, 4, 182, 1, 86, 154, 0, 6, 167, 0, 31, 42, 21, 4]
theorem zrw_cX11_winnerBy_0 : zrW 0 cX11_winnerBy zrk_cX11_winnerBy_0 := by unfold zrW; decide +kernel
theorem dX11_winnerBy_0 : decode cX11_winnerBy 0 = .ok (.bipush (-2), 2) := zrD zrw_cX11_winnerBy_0 (i := 0) (by decide +kernel) rfl
theorem dX11_winnerBy_2 : decode cX11_winnerBy 2 = .ok (.istore_n 2, 1) := zrD zrw_cX11_winnerBy_0 (i := 2) (by decide +kernel) rfl
theorem dX11_winnerBy_3 : decode cX11_winnerBy 3 = .ok (.iconst 0, 1) := zrD zrw_cX11_winnerBy_0 (i := 3) (by decide +kernel) rfl
theorem dX11_winnerBy_4 : decode cX11_winnerBy 4 = .ok (.istore_n 3, 1) := zrD zrw_cX11_winnerBy_0 (i := 4) (by decide +kernel) rfl
theorem dX11_winnerBy_5 : decode cX11_winnerBy 5 = .ok (.iconst 1, 1) := zrD zrw_cX11_winnerBy_0 (i := 5) (by decide +kernel) rfl
theorem dX11_winnerBy_6 : decode cX11_winnerBy 6 = .ok (.istore 4, 2) := zrD zrw_cX11_winnerBy_0 (i := 6) (by decide +kernel) rfl
theorem dX11_winnerBy_8 : decode cX11_winnerBy 8 = .ok (.iload 4, 2) := zrD zrw_cX11_winnerBy_0 (i := 8) (by decide +kernel) rfl
theorem dX11_winnerBy_10 : decode cX11_winnerBy 10 = .ok (.aload_n 0, 1) := zrD zrw_cX11_winnerBy_0 (i := 10) (by decide +kernel) rfl
theorem dX11_winnerBy_11 : decode cX11_winnerBy 11 = .ok (.invokevirtual 313, 3) := zrD zrw_cX11_winnerBy_0 (i := 11) (by decide +kernel) rfl
theorem dX11_winnerBy_14 : decode cX11_winnerBy 14 = .ok (.if_icmp .ge 49, 3) := zrD zrw_cX11_winnerBy_0 (i := 14) (by decide +kernel) rfl
theorem dX11_winnerBy_17 : decode cX11_winnerBy 17 = .ok (.aload_n 0, 1) := zrD zrw_cX11_winnerBy_0 (i := 17) (by decide +kernel) rfl
theorem dX11_winnerBy_18 : decode cX11_winnerBy 18 = .ok (.iload 4, 2) := zrD zrw_cX11_winnerBy_0 (i := 18) (by decide +kernel) rfl
theorem dX11_winnerBy_20 : decode cX11_winnerBy 20 = .ok (.invokevirtual 342, 3) := zrD zrw_cX11_winnerBy_0 (i := 20) (by decide +kernel) rfl
theorem dX11_winnerBy_23 : decode cX11_winnerBy 23 = .ok (.ifCond .ne 6, 3) := zrD zrw_cX11_winnerBy_0 (i := 23) (by decide +kernel) rfl
theorem dX11_winnerBy_26 : decode cX11_winnerBy 26 = .ok (.goto 31, 3) := zrD zrw_cX11_winnerBy_0 (i := 26) (by decide +kernel) rfl
theorem dX11_winnerBy_29 : decode cX11_winnerBy 29 = .ok (.aload_n 0, 1) := zrD zrw_cX11_winnerBy_0 (i := 29) (by decide +kernel) rfl
theorem dX11_winnerBy_30 : decode cX11_winnerBy 30 = .ok (.iload 4, 2) := zrD zrw_cX11_winnerBy_0 (i := 30) (by decide +kernel) rfl
def zrk_cX11_winnerBy_32 : ByteArray := .mk #[27, 182, 1, 111, 54, 5, 28, 155, 0, 12, 21, 5, 29, 163, 0, 6, 167, 0, 9, 21, 4, 61, 21, 5, 62, 132, 4, 1, 167, 255, 204, 28]
theorem zrw_cX11_winnerBy_32 : zrW 32 cX11_winnerBy zrk_cX11_winnerBy_32 := by unfold zrW; decide +kernel
theorem dX11_winnerBy_32 : decode cX11_winnerBy 32 = .ok (.iload_n 1, 1) := zrD zrw_cX11_winnerBy_32 (i := 0) (by decide +kernel) rfl
theorem dX11_winnerBy_33 : decode cX11_winnerBy 33 = .ok (.invokevirtual 367, 3) := zrD zrw_cX11_winnerBy_32 (i := 1) (by decide +kernel) rfl
theorem dX11_winnerBy_36 : decode cX11_winnerBy 36 = .ok (.istore 5, 2) := zrD zrw_cX11_winnerBy_32 (i := 4) (by decide +kernel) rfl
theorem dX11_winnerBy_38 : decode cX11_winnerBy 38 = .ok (.iload_n 2, 1) := zrD zrw_cX11_winnerBy_32 (i := 6) (by decide +kernel) rfl
theorem dX11_winnerBy_39 : decode cX11_winnerBy 39 = .ok (.ifCond .lt 12, 3) := zrD zrw_cX11_winnerBy_32 (i := 7) (by decide +kernel) rfl
theorem dX11_winnerBy_42 : decode cX11_winnerBy 42 = .ok (.iload 5, 2) := zrD zrw_cX11_winnerBy_32 (i := 10) (by decide +kernel) rfl
theorem dX11_winnerBy_44 : decode cX11_winnerBy 44 = .ok (.iload_n 3, 1) := zrD zrw_cX11_winnerBy_32 (i := 12) (by decide +kernel) rfl
theorem dX11_winnerBy_45 : decode cX11_winnerBy 45 = .ok (.if_icmp .gt 6, 3) := zrD zrw_cX11_winnerBy_32 (i := 13) (by decide +kernel) rfl
theorem dX11_winnerBy_48 : decode cX11_winnerBy 48 = .ok (.goto 9, 3) := zrD zrw_cX11_winnerBy_32 (i := 16) (by decide +kernel) rfl
theorem dX11_winnerBy_51 : decode cX11_winnerBy 51 = .ok (.iload 4, 2) := zrD zrw_cX11_winnerBy_32 (i := 19) (by decide +kernel) rfl
theorem dX11_winnerBy_53 : decode cX11_winnerBy 53 = .ok (.istore_n 2, 1) := zrD zrw_cX11_winnerBy_32 (i := 21) (by decide +kernel) rfl
theorem dX11_winnerBy_54 : decode cX11_winnerBy 54 = .ok (.iload 5, 2) := zrD zrw_cX11_winnerBy_32 (i := 22) (by decide +kernel) rfl
theorem dX11_winnerBy_56 : decode cX11_winnerBy 56 = .ok (.istore_n 3, 1) := zrD zrw_cX11_winnerBy_32 (i := 24) (by decide +kernel) rfl
theorem dX11_winnerBy_57 : decode cX11_winnerBy 57 = .ok (.iinc 4 1, 3) := zrD zrw_cX11_winnerBy_32 (i := 25) (by decide +kernel) rfl
theorem dX11_winnerBy_60 : decode cX11_winnerBy 60 = .ok (.goto (-52), 3) := zrD zrw_cX11_winnerBy_32 (i := 28) (by decide +kernel) rfl
theorem dX11_winnerBy_63 : decode cX11_winnerBy 63 = .ok (.iload_n 2, 1) := zrD zrw_cX11_winnerBy_32 (i := 31) (by decide +kernel) rfl
def zrk_cX11_winnerBy_64 : ByteArray := .mk #[172]
theorem zrw_cX11_winnerBy_64 : zrW 64 cX11_winnerBy zrk_cX11_winnerBy_64 := by unfold zrW; decide +kernel
theorem dX11_winnerBy_64 : decode cX11_winnerBy 64 = .ok (.ireturn, 1) := zrD zrw_cX11_winnerBy_64 (i := 0) (by decide +kernel) rfl
def zrk_cX11_monthGoes_0 : ByteArray := .mk #[42, 42, 180, 1, 67, 154, 0, 22, 42, 182, 1, 114, 153, 0, 15, 42, 180, 0, 61, 42, 180, 0, 236, 46, 167, 0, 4, 3, 182, 1, 73, 42]
theorem zrw_cX11_monthGoes_0 : zrW 0 cX11_monthGoes zrk_cX11_monthGoes_0 := by unfold zrW; decide +kernel
theorem dX11_monthGoes_0 : decode cX11_monthGoes 0 = .ok (.aload_n 0, 1) := zrD zrw_cX11_monthGoes_0 (i := 0) (by decide +kernel) rfl
theorem dX11_monthGoes_1 : decode cX11_monthGoes 1 = .ok (.aload_n 0, 1) := zrD zrw_cX11_monthGoes_0 (i := 1) (by decide +kernel) rfl
theorem dX11_monthGoes_2 : decode cX11_monthGoes 2 = .ok (.getfield 323, 3) := zrD zrw_cX11_monthGoes_0 (i := 2) (by decide +kernel) rfl
theorem dX11_monthGoes_5 : decode cX11_monthGoes 5 = .ok (.ifCond .ne 22, 3) := zrD zrw_cX11_monthGoes_0 (i := 5) (by decide +kernel) rfl
theorem dX11_monthGoes_8 : decode cX11_monthGoes 8 = .ok (.aload_n 0, 1) := zrD zrw_cX11_monthGoes_0 (i := 8) (by decide +kernel) rfl
theorem dX11_monthGoes_9 : decode cX11_monthGoes 9 = .ok (.invokevirtual 370, 3) := zrD zrw_cX11_monthGoes_0 (i := 9) (by decide +kernel) rfl
theorem dX11_monthGoes_12 : decode cX11_monthGoes 12 = .ok (.ifCond .eq 15, 3) := zrD zrw_cX11_monthGoes_0 (i := 12) (by decide +kernel) rfl
theorem dX11_monthGoes_15 : decode cX11_monthGoes 15 = .ok (.aload_n 0, 1) := zrD zrw_cX11_monthGoes_0 (i := 15) (by decide +kernel) rfl
theorem dX11_monthGoes_16 : decode cX11_monthGoes 16 = .ok (.getfield 61, 3) := zrD zrw_cX11_monthGoes_0 (i := 16) (by decide +kernel) rfl
theorem dX11_monthGoes_19 : decode cX11_monthGoes 19 = .ok (.aload_n 0, 1) := zrD zrw_cX11_monthGoes_0 (i := 19) (by decide +kernel) rfl
theorem dX11_monthGoes_20 : decode cX11_monthGoes 20 = .ok (.getfield 236, 3) := zrD zrw_cX11_monthGoes_0 (i := 20) (by decide +kernel) rfl
theorem dX11_monthGoes_23 : decode cX11_monthGoes 23 = .ok (.iaload, 1) := zrD zrw_cX11_monthGoes_0 (i := 23) (by decide +kernel) rfl
theorem dX11_monthGoes_24 : decode cX11_monthGoes 24 = .ok (.goto 4, 3) := zrD zrw_cX11_monthGoes_0 (i := 24) (by decide +kernel) rfl
theorem dX11_monthGoes_27 : decode cX11_monthGoes 27 = .ok (.iconst 0, 1) := zrD zrw_cX11_monthGoes_0 (i := 27) (by decide +kernel) rfl
theorem dX11_monthGoes_28 : decode cX11_monthGoes 28 = .ok (.invokevirtual 329, 3) := zrD zrw_cX11_monthGoes_0 (i := 28) (by decide +kernel) rfl
theorem dX11_monthGoes_31 : decode cX11_monthGoes 31 = .ok (.aload_n 0, 1) := zrD zrw_cX11_monthGoes_0 (i := 31) (by decide +kernel) rfl
def zrk_cX11_monthGoes_32 : ByteArray := .mk #[42, 42, 180, 0, 110, 16, 49, 46, 182, 1, 118, 181, 1, 121, 42, 180, 1, 121, 155, 0, 60, 42, 180, 0, 110, 16, 24, 42, 180, 1, 121, 96]
theorem zrw_cX11_monthGoes_32 : zrW 32 cX11_monthGoes zrk_cX11_monthGoes_32 := by unfold zrW; decide +kernel
theorem dX11_monthGoes_32 : decode cX11_monthGoes 32 = .ok (.aload_n 0, 1) := zrD zrw_cX11_monthGoes_32 (i := 0) (by decide +kernel) rfl
theorem dX11_monthGoes_33 : decode cX11_monthGoes 33 = .ok (.aload_n 0, 1) := zrD zrw_cX11_monthGoes_32 (i := 1) (by decide +kernel) rfl
theorem dX11_monthGoes_34 : decode cX11_monthGoes 34 = .ok (.getfield 110, 3) := zrD zrw_cX11_monthGoes_32 (i := 2) (by decide +kernel) rfl
theorem dX11_monthGoes_37 : decode cX11_monthGoes 37 = .ok (.bipush 49, 2) := zrD zrw_cX11_monthGoes_32 (i := 5) (by decide +kernel) rfl
theorem dX11_monthGoes_39 : decode cX11_monthGoes 39 = .ok (.iaload, 1) := zrD zrw_cX11_monthGoes_32 (i := 7) (by decide +kernel) rfl
theorem dX11_monthGoes_40 : decode cX11_monthGoes 40 = .ok (.invokevirtual 374, 3) := zrD zrw_cX11_monthGoes_32 (i := 8) (by decide +kernel) rfl
theorem dX11_monthGoes_43 : decode cX11_monthGoes 43 = .ok (.putfield 377, 3) := zrD zrw_cX11_monthGoes_32 (i := 11) (by decide +kernel) rfl
theorem dX11_monthGoes_46 : decode cX11_monthGoes 46 = .ok (.aload_n 0, 1) := zrD zrw_cX11_monthGoes_32 (i := 14) (by decide +kernel) rfl
theorem dX11_monthGoes_47 : decode cX11_monthGoes 47 = .ok (.getfield 377, 3) := zrD zrw_cX11_monthGoes_32 (i := 15) (by decide +kernel) rfl
theorem dX11_monthGoes_50 : decode cX11_monthGoes 50 = .ok (.ifCond .lt 60, 3) := zrD zrw_cX11_monthGoes_32 (i := 18) (by decide +kernel) rfl
theorem dX11_monthGoes_53 : decode cX11_monthGoes 53 = .ok (.aload_n 0, 1) := zrD zrw_cX11_monthGoes_32 (i := 21) (by decide +kernel) rfl
theorem dX11_monthGoes_54 : decode cX11_monthGoes 54 = .ok (.getfield 110, 3) := zrD zrw_cX11_monthGoes_32 (i := 22) (by decide +kernel) rfl
theorem dX11_monthGoes_57 : decode cX11_monthGoes 57 = .ok (.bipush 24, 2) := zrD zrw_cX11_monthGoes_32 (i := 25) (by decide +kernel) rfl
theorem dX11_monthGoes_59 : decode cX11_monthGoes 59 = .ok (.aload_n 0, 1) := zrD zrw_cX11_monthGoes_32 (i := 27) (by decide +kernel) rfl
theorem dX11_monthGoes_60 : decode cX11_monthGoes 60 = .ok (.getfield 377, 3) := zrD zrw_cX11_monthGoes_32 (i := 28) (by decide +kernel) rfl
theorem dX11_monthGoes_63 : decode cX11_monthGoes 63 = .ok (.iadd, 1) := zrD zrw_cX11_monthGoes_32 (i := 31) (by decide +kernel) rfl
def zrk_cX11_monthGoes_64 : ByteArray := .mk #[42, 180, 0, 110, 16, 24, 42, 180, 1, 121, 96, 46, 4, 96, 3, 17, 3, 231, 184, 1, 101, 79, 42, 180, 0, 110, 16, 36, 42, 180, 1, 121]
theorem zrw_cX11_monthGoes_64 : zrW 64 cX11_monthGoes zrk_cX11_monthGoes_64 := by unfold zrW; decide +kernel
theorem dX11_monthGoes_64 : decode cX11_monthGoes 64 = .ok (.aload_n 0, 1) := zrD zrw_cX11_monthGoes_64 (i := 0) (by decide +kernel) rfl
theorem dX11_monthGoes_65 : decode cX11_monthGoes 65 = .ok (.getfield 110, 3) := zrD zrw_cX11_monthGoes_64 (i := 1) (by decide +kernel) rfl
theorem dX11_monthGoes_68 : decode cX11_monthGoes 68 = .ok (.bipush 24, 2) := zrD zrw_cX11_monthGoes_64 (i := 4) (by decide +kernel) rfl
theorem dX11_monthGoes_70 : decode cX11_monthGoes 70 = .ok (.aload_n 0, 1) := zrD zrw_cX11_monthGoes_64 (i := 6) (by decide +kernel) rfl
theorem dX11_monthGoes_71 : decode cX11_monthGoes 71 = .ok (.getfield 377, 3) := zrD zrw_cX11_monthGoes_64 (i := 7) (by decide +kernel) rfl
theorem dX11_monthGoes_74 : decode cX11_monthGoes 74 = .ok (.iadd, 1) := zrD zrw_cX11_monthGoes_64 (i := 10) (by decide +kernel) rfl
theorem dX11_monthGoes_75 : decode cX11_monthGoes 75 = .ok (.iaload, 1) := zrD zrw_cX11_monthGoes_64 (i := 11) (by decide +kernel) rfl
theorem dX11_monthGoes_76 : decode cX11_monthGoes 76 = .ok (.iconst 1, 1) := zrD zrw_cX11_monthGoes_64 (i := 12) (by decide +kernel) rfl
theorem dX11_monthGoes_77 : decode cX11_monthGoes 77 = .ok (.iadd, 1) := zrD zrw_cX11_monthGoes_64 (i := 13) (by decide +kernel) rfl
theorem dX11_monthGoes_78 : decode cX11_monthGoes 78 = .ok (.iconst 0, 1) := zrD zrw_cX11_monthGoes_64 (i := 14) (by decide +kernel) rfl
theorem dX11_monthGoes_79 : decode cX11_monthGoes 79 = .ok (.sipush 999, 3) := zrD zrw_cX11_monthGoes_64 (i := 15) (by decide +kernel) rfl
theorem dX11_monthGoes_82 : decode cX11_monthGoes 82 = .ok (.invokestatic 357, 3) := zrD zrw_cX11_monthGoes_64 (i := 18) (by decide +kernel) rfl
theorem dX11_monthGoes_85 : decode cX11_monthGoes 85 = .ok (.iastore, 1) := zrD zrw_cX11_monthGoes_64 (i := 21) (by decide +kernel) rfl
theorem dX11_monthGoes_86 : decode cX11_monthGoes 86 = .ok (.aload_n 0, 1) := zrD zrw_cX11_monthGoes_64 (i := 22) (by decide +kernel) rfl
theorem dX11_monthGoes_87 : decode cX11_monthGoes 87 = .ok (.getfield 110, 3) := zrD zrw_cX11_monthGoes_64 (i := 23) (by decide +kernel) rfl
theorem dX11_monthGoes_90 : decode cX11_monthGoes 90 = .ok (.bipush 36, 2) := zrD zrw_cX11_monthGoes_64 (i := 26) (by decide +kernel) rfl
theorem dX11_monthGoes_92 : decode cX11_monthGoes 92 = .ok (.aload_n 0, 1) := zrD zrw_cX11_monthGoes_64 (i := 28) (by decide +kernel) rfl
theorem dX11_monthGoes_93 : decode cX11_monthGoes 93 = .ok (.getfield 377, 3) := zrD zrw_cX11_monthGoes_64 (i := 29) (by decide +kernel) rfl
def zrk_cX11_monthGoes_96 : ByteArray := .mk #[96, 92, 46, 42, 180, 0, 64, 42, 180, 0, 236, 46, 96, 79, 42, 180, 0, 110, 16, 48, 92, 46, 4, 96, 79, 42, 3, 182, 1, 73, 177]
theorem zrw_cX11_monthGoes_96 : zrW 96 cX11_monthGoes zrk_cX11_monthGoes_96 := by unfold zrW; decide +kernel
theorem dX11_monthGoes_96 : decode cX11_monthGoes 96 = .ok (.iadd, 1) := zrD zrw_cX11_monthGoes_96 (i := 0) (by decide +kernel) rfl
theorem dX11_monthGoes_97 : decode cX11_monthGoes 97 = .ok (.dup2, 1) := zrD zrw_cX11_monthGoes_96 (i := 1) (by decide +kernel) rfl
theorem dX11_monthGoes_98 : decode cX11_monthGoes 98 = .ok (.iaload, 1) := zrD zrw_cX11_monthGoes_96 (i := 2) (by decide +kernel) rfl
theorem dX11_monthGoes_99 : decode cX11_monthGoes 99 = .ok (.aload_n 0, 1) := zrD zrw_cX11_monthGoes_96 (i := 3) (by decide +kernel) rfl
theorem dX11_monthGoes_100 : decode cX11_monthGoes 100 = .ok (.getfield 64, 3) := zrD zrw_cX11_monthGoes_96 (i := 4) (by decide +kernel) rfl
theorem dX11_monthGoes_103 : decode cX11_monthGoes 103 = .ok (.aload_n 0, 1) := zrD zrw_cX11_monthGoes_96 (i := 7) (by decide +kernel) rfl
theorem dX11_monthGoes_104 : decode cX11_monthGoes 104 = .ok (.getfield 236, 3) := zrD zrw_cX11_monthGoes_96 (i := 8) (by decide +kernel) rfl
theorem dX11_monthGoes_107 : decode cX11_monthGoes 107 = .ok (.iaload, 1) := zrD zrw_cX11_monthGoes_96 (i := 11) (by decide +kernel) rfl
theorem dX11_monthGoes_108 : decode cX11_monthGoes 108 = .ok (.iadd, 1) := zrD zrw_cX11_monthGoes_96 (i := 12) (by decide +kernel) rfl
theorem dX11_monthGoes_109 : decode cX11_monthGoes 109 = .ok (.iastore, 1) := zrD zrw_cX11_monthGoes_96 (i := 13) (by decide +kernel) rfl
theorem dX11_monthGoes_110 : decode cX11_monthGoes 110 = .ok (.aload_n 0, 1) := zrD zrw_cX11_monthGoes_96 (i := 14) (by decide +kernel) rfl
theorem dX11_monthGoes_111 : decode cX11_monthGoes 111 = .ok (.getfield 110, 3) := zrD zrw_cX11_monthGoes_96 (i := 15) (by decide +kernel) rfl
theorem dX11_monthGoes_114 : decode cX11_monthGoes 114 = .ok (.bipush 48, 2) := zrD zrw_cX11_monthGoes_96 (i := 18) (by decide +kernel) rfl
theorem dX11_monthGoes_116 : decode cX11_monthGoes 116 = .ok (.dup2, 1) := zrD zrw_cX11_monthGoes_96 (i := 20) (by decide +kernel) rfl
theorem dX11_monthGoes_117 : decode cX11_monthGoes 117 = .ok (.iaload, 1) := zrD zrw_cX11_monthGoes_96 (i := 21) (by decide +kernel) rfl
theorem dX11_monthGoes_118 : decode cX11_monthGoes 118 = .ok (.iconst 1, 1) := zrD zrw_cX11_monthGoes_96 (i := 22) (by decide +kernel) rfl
theorem dX11_monthGoes_119 : decode cX11_monthGoes 119 = .ok (.iadd, 1) := zrD zrw_cX11_monthGoes_96 (i := 23) (by decide +kernel) rfl
theorem dX11_monthGoes_120 : decode cX11_monthGoes 120 = .ok (.iastore, 1) := zrD zrw_cX11_monthGoes_96 (i := 24) (by decide +kernel) rfl
theorem dX11_monthGoes_121 : decode cX11_monthGoes 121 = .ok (.aload_n 0, 1) := zrD zrw_cX11_monthGoes_96 (i := 25) (by decide +kernel) rfl
theorem dX11_monthGoes_122 : decode cX11_monthGoes 122 = .ok (.iconst 0, 1) := zrD zrw_cX11_monthGoes_96 (i := 26) (by decide +kernel) rfl
theorem dX11_monthGoes_123 : decode cX11_monthGoes 123 = .ok (.invokevirtual 329, 3) := zrD zrw_cX11_monthGoes_96 (i := 27) (by decide +kernel) rfl
theorem dX11_monthGoes_126 : decode cX11_monthGoes 126 = .ok (.return_, 1) := zrD zrw_cX11_monthGoes_96 (i := 30) (by decide +kernel) rfl
def zrk_cX11_goes_0 : ByteArray := .mk #[3, 61, 28, 27, 162, 0, 13, 42, 182, 1, 124, 132, 2, 1, 167, 255, 244, 177]
theorem zrw_cX11_goes_0 : zrW 0 cX11_goes zrk_cX11_goes_0 := by unfold zrW; decide +kernel
theorem dX11_goes_0 : decode cX11_goes 0 = .ok (.iconst 0, 1) := zrD zrw_cX11_goes_0 (i := 0) (by decide +kernel) rfl
theorem dX11_goes_1 : decode cX11_goes 1 = .ok (.istore_n 2, 1) := zrD zrw_cX11_goes_0 (i := 1) (by decide +kernel) rfl
theorem dX11_goes_2 : decode cX11_goes 2 = .ok (.iload_n 2, 1) := zrD zrw_cX11_goes_0 (i := 2) (by decide +kernel) rfl
theorem dX11_goes_3 : decode cX11_goes 3 = .ok (.iload_n 1, 1) := zrD zrw_cX11_goes_0 (i := 3) (by decide +kernel) rfl
theorem dX11_goes_4 : decode cX11_goes 4 = .ok (.if_icmp .ge 13, 3) := zrD zrw_cX11_goes_0 (i := 4) (by decide +kernel) rfl
theorem dX11_goes_7 : decode cX11_goes 7 = .ok (.aload_n 0, 1) := zrD zrw_cX11_goes_0 (i := 7) (by decide +kernel) rfl
theorem dX11_goes_8 : decode cX11_goes 8 = .ok (.invokevirtual 380, 3) := zrD zrw_cX11_goes_0 (i := 8) (by decide +kernel) rfl
theorem dX11_goes_11 : decode cX11_goes 11 = .ok (.iinc 2 1, 3) := zrD zrw_cX11_goes_0 (i := 11) (by decide +kernel) rfl
theorem dX11_goes_14 : decode cX11_goes 14 = .ok (.goto (-12), 3) := zrD zrw_cX11_goes_0 (i := 14) (by decide +kernel) rfl
theorem dX11_goes_17 : decode cX11_goes 17 = .ok (.return_, 1) := zrD zrw_cX11_goes_0 (i := 17) (by decide +kernel) rfl
def zrk_cX11_spot_0 : ByteArray := .mk #[42, 27, 182, 1, 127, 154, 0, 5, 2, 172, 42, 182, 1, 76, 28]
theorem zrw_cX11_spot_0 : zrW 0 cX11_spot zrk_cX11_spot_0 := by unfold zrW; decide +kernel
theorem dX11_spot_0 : decode cX11_spot 0 = .ok (.aload_n 0, 1) := zrD zrw_cX11_spot_0 (i := 0) (by decide +kernel) rfl
theorem dX11_spot_1 : decode cX11_spot 1 = .ok (.iload_n 1, 1) := zrD zrw_cX11_spot_0 (i := 1) (by decide +kernel) rfl
theorem dX11_spot_2 : decode cX11_spot 2 = .ok (.invokevirtual 383, 3) := zrD zrw_cX11_spot_0 (i := 2) (by decide +kernel) rfl
theorem dX11_spot_5 : decode cX11_spot 5 = .ok (.ifCond .ne 5, 3) := zrD zrw_cX11_spot_0 (i := 5) (by decide +kernel) rfl
theorem dX11_spot_8 : decode cX11_spot 8 = .ok (.iconst (-1), 1) := zrD zrw_cX11_spot_0 (i := 8) (by decide +kernel) rfl
theorem dX11_spot_9 : decode cX11_spot 9 = .ok (.ireturn, 1) := zrD zrw_cX11_spot_0 (i := 9) (by decide +kernel) rfl
theorem dX11_spot_10 : decode cX11_spot 10 = .ok (.aload_n 0, 1) := zrD zrw_cX11_spot_0 (i := 10) (by decide +kernel) rfl
theorem dX11_spot_11 : decode cX11_spot 11 = .ok (.invokevirtual 332, 3) := zrD zrw_cX11_spot_0 (i := 11) (by decide +kernel) rfl
theorem dX11_spot_14 : decode cX11_spot 14 = .ok (.iload_n 2, 1) := zrD zrw_cX11_spot_0 (i := 14) (by decide +kernel) rfl
theorem dX11_spot_15 : decode cX11_spot 15 = .ok (.tableswitch 199 0 12 #[65, 72, 87, 102, 117, 127, 134, 141, 153, 167, 177, 187, 193], 65) := by decide +kernel
def zrk_cX11_spot_80 : ByteArray := .mk #[42, 180, 0, 110, 27, 46, 172, 42, 180, 0, 49, 16, 12, 42, 180, 0, 236, 104, 27, 96, 46, 172, 42, 180, 0, 52, 16, 12, 42, 180, 0, 236]
theorem zrw_cX11_spot_80 : zrW 80 cX11_spot zrk_cX11_spot_80 := by unfold zrW; decide +kernel
theorem dX11_spot_80 : decode cX11_spot 80 = .ok (.aload_n 0, 1) := zrD zrw_cX11_spot_80 (i := 0) (by decide +kernel) rfl
theorem dX11_spot_81 : decode cX11_spot 81 = .ok (.getfield 110, 3) := zrD zrw_cX11_spot_80 (i := 1) (by decide +kernel) rfl
theorem dX11_spot_84 : decode cX11_spot 84 = .ok (.iload_n 1, 1) := zrD zrw_cX11_spot_80 (i := 4) (by decide +kernel) rfl
theorem dX11_spot_85 : decode cX11_spot 85 = .ok (.iaload, 1) := zrD zrw_cX11_spot_80 (i := 5) (by decide +kernel) rfl
theorem dX11_spot_86 : decode cX11_spot 86 = .ok (.ireturn, 1) := zrD zrw_cX11_spot_80 (i := 6) (by decide +kernel) rfl
theorem dX11_spot_87 : decode cX11_spot 87 = .ok (.aload_n 0, 1) := zrD zrw_cX11_spot_80 (i := 7) (by decide +kernel) rfl
theorem dX11_spot_88 : decode cX11_spot 88 = .ok (.getfield 49, 3) := zrD zrw_cX11_spot_80 (i := 8) (by decide +kernel) rfl
theorem dX11_spot_91 : decode cX11_spot 91 = .ok (.bipush 12, 2) := zrD zrw_cX11_spot_80 (i := 11) (by decide +kernel) rfl
theorem dX11_spot_93 : decode cX11_spot 93 = .ok (.aload_n 0, 1) := zrD zrw_cX11_spot_80 (i := 13) (by decide +kernel) rfl
theorem dX11_spot_94 : decode cX11_spot 94 = .ok (.getfield 236, 3) := zrD zrw_cX11_spot_80 (i := 14) (by decide +kernel) rfl
theorem dX11_spot_97 : decode cX11_spot 97 = .ok (.imul, 1) := zrD zrw_cX11_spot_80 (i := 17) (by decide +kernel) rfl
theorem dX11_spot_98 : decode cX11_spot 98 = .ok (.iload_n 1, 1) := zrD zrw_cX11_spot_80 (i := 18) (by decide +kernel) rfl
theorem dX11_spot_99 : decode cX11_spot 99 = .ok (.iadd, 1) := zrD zrw_cX11_spot_80 (i := 19) (by decide +kernel) rfl
theorem dX11_spot_100 : decode cX11_spot 100 = .ok (.iaload, 1) := zrD zrw_cX11_spot_80 (i := 20) (by decide +kernel) rfl
theorem dX11_spot_101 : decode cX11_spot 101 = .ok (.ireturn, 1) := zrD zrw_cX11_spot_80 (i := 21) (by decide +kernel) rfl
theorem dX11_spot_102 : decode cX11_spot 102 = .ok (.aload_n 0, 1) := zrD zrw_cX11_spot_80 (i := 22) (by decide +kernel) rfl
theorem dX11_spot_103 : decode cX11_spot 103 = .ok (.getfield 52, 3) := zrD zrw_cX11_spot_80 (i := 23) (by decide +kernel) rfl
theorem dX11_spot_106 : decode cX11_spot 106 = .ok (.bipush 12, 2) := zrD zrw_cX11_spot_80 (i := 26) (by decide +kernel) rfl
theorem dX11_spot_108 : decode cX11_spot 108 = .ok (.aload_n 0, 1) := zrD zrw_cX11_spot_80 (i := 28) (by decide +kernel) rfl
theorem dX11_spot_109 : decode cX11_spot 109 = .ok (.getfield 236, 3) := zrD zrw_cX11_spot_80 (i := 29) (by decide +kernel) rfl
def zrk_cX11_spot_112 : ByteArray := .mk #[104, 27, 96, 46, 172, 42, 180, 0, 55, 16, 12, 42, 180, 0, 236, 104, 27, 96, 46, 172, 42, 180, 0, 110, 16, 12, 27, 96, 46, 172, 42]
theorem zrw_cX11_spot_112 : zrW 112 cX11_spot zrk_cX11_spot_112 := by unfold zrW; decide +kernel
theorem dX11_spot_112 : decode cX11_spot 112 = .ok (.imul, 1) := zrD zrw_cX11_spot_112 (i := 0) (by decide +kernel) rfl
theorem dX11_spot_113 : decode cX11_spot 113 = .ok (.iload_n 1, 1) := zrD zrw_cX11_spot_112 (i := 1) (by decide +kernel) rfl
theorem dX11_spot_114 : decode cX11_spot 114 = .ok (.iadd, 1) := zrD zrw_cX11_spot_112 (i := 2) (by decide +kernel) rfl
theorem dX11_spot_115 : decode cX11_spot 115 = .ok (.iaload, 1) := zrD zrw_cX11_spot_112 (i := 3) (by decide +kernel) rfl
theorem dX11_spot_116 : decode cX11_spot 116 = .ok (.ireturn, 1) := zrD zrw_cX11_spot_112 (i := 4) (by decide +kernel) rfl
theorem dX11_spot_117 : decode cX11_spot 117 = .ok (.aload_n 0, 1) := zrD zrw_cX11_spot_112 (i := 5) (by decide +kernel) rfl
theorem dX11_spot_118 : decode cX11_spot 118 = .ok (.getfield 55, 3) := zrD zrw_cX11_spot_112 (i := 6) (by decide +kernel) rfl
theorem dX11_spot_121 : decode cX11_spot 121 = .ok (.bipush 12, 2) := zrD zrw_cX11_spot_112 (i := 9) (by decide +kernel) rfl
theorem dX11_spot_123 : decode cX11_spot 123 = .ok (.aload_n 0, 1) := zrD zrw_cX11_spot_112 (i := 11) (by decide +kernel) rfl
theorem dX11_spot_124 : decode cX11_spot 124 = .ok (.getfield 236, 3) := zrD zrw_cX11_spot_112 (i := 12) (by decide +kernel) rfl
theorem dX11_spot_127 : decode cX11_spot 127 = .ok (.imul, 1) := zrD zrw_cX11_spot_112 (i := 15) (by decide +kernel) rfl
theorem dX11_spot_128 : decode cX11_spot 128 = .ok (.iload_n 1, 1) := zrD zrw_cX11_spot_112 (i := 16) (by decide +kernel) rfl
theorem dX11_spot_129 : decode cX11_spot 129 = .ok (.iadd, 1) := zrD zrw_cX11_spot_112 (i := 17) (by decide +kernel) rfl
theorem dX11_spot_130 : decode cX11_spot 130 = .ok (.iaload, 1) := zrD zrw_cX11_spot_112 (i := 18) (by decide +kernel) rfl
theorem dX11_spot_131 : decode cX11_spot 131 = .ok (.ireturn, 1) := zrD zrw_cX11_spot_112 (i := 19) (by decide +kernel) rfl
theorem dX11_spot_132 : decode cX11_spot 132 = .ok (.aload_n 0, 1) := zrD zrw_cX11_spot_112 (i := 20) (by decide +kernel) rfl
theorem dX11_spot_133 : decode cX11_spot 133 = .ok (.getfield 110, 3) := zrD zrw_cX11_spot_112 (i := 21) (by decide +kernel) rfl
theorem dX11_spot_136 : decode cX11_spot 136 = .ok (.bipush 12, 2) := zrD zrw_cX11_spot_112 (i := 24) (by decide +kernel) rfl
theorem dX11_spot_138 : decode cX11_spot 138 = .ok (.iload_n 1, 1) := zrD zrw_cX11_spot_112 (i := 26) (by decide +kernel) rfl
theorem dX11_spot_139 : decode cX11_spot 139 = .ok (.iadd, 1) := zrD zrw_cX11_spot_112 (i := 27) (by decide +kernel) rfl
theorem dX11_spot_140 : decode cX11_spot 140 = .ok (.iaload, 1) := zrD zrw_cX11_spot_112 (i := 28) (by decide +kernel) rfl
theorem dX11_spot_141 : decode cX11_spot 141 = .ok (.ireturn, 1) := zrD zrw_cX11_spot_112 (i := 29) (by decide +kernel) rfl
theorem dX11_spot_142 : decode cX11_spot 142 = .ok (.aload_n 0, 1) := zrD zrw_cX11_spot_112 (i := 30) (by decide +kernel) rfl
def zrk_cX11_spot_143 : ByteArray := .mk #[180, 0, 122, 27, 46, 172, 42, 180, 0, 113, 27, 46, 172, 42, 180, 0, 119, 27, 46, 184, 1, 89, 4, 100, 172, 42, 27, 182, 1, 86]
theorem zrw_cX11_spot_143 : zrW 143 cX11_spot zrk_cX11_spot_143 := by unfold zrW; decide +kernel
theorem dX11_spot_143 : decode cX11_spot 143 = .ok (.getfield 122, 3) := zrD zrw_cX11_spot_143 (i := 0) (by decide +kernel) rfl
theorem dX11_spot_146 : decode cX11_spot 146 = .ok (.iload_n 1, 1) := zrD zrw_cX11_spot_143 (i := 3) (by decide +kernel) rfl
theorem dX11_spot_147 : decode cX11_spot 147 = .ok (.iaload, 1) := zrD zrw_cX11_spot_143 (i := 4) (by decide +kernel) rfl
theorem dX11_spot_148 : decode cX11_spot 148 = .ok (.ireturn, 1) := zrD zrw_cX11_spot_143 (i := 5) (by decide +kernel) rfl
theorem dX11_spot_149 : decode cX11_spot 149 = .ok (.aload_n 0, 1) := zrD zrw_cX11_spot_143 (i := 6) (by decide +kernel) rfl
theorem dX11_spot_150 : decode cX11_spot 150 = .ok (.getfield 113, 3) := zrD zrw_cX11_spot_143 (i := 7) (by decide +kernel) rfl
theorem dX11_spot_153 : decode cX11_spot 153 = .ok (.iload_n 1, 1) := zrD zrw_cX11_spot_143 (i := 10) (by decide +kernel) rfl
theorem dX11_spot_154 : decode cX11_spot 154 = .ok (.iaload, 1) := zrD zrw_cX11_spot_143 (i := 11) (by decide +kernel) rfl
theorem dX11_spot_155 : decode cX11_spot 155 = .ok (.ireturn, 1) := zrD zrw_cX11_spot_143 (i := 12) (by decide +kernel) rfl
theorem dX11_spot_156 : decode cX11_spot 156 = .ok (.aload_n 0, 1) := zrD zrw_cX11_spot_143 (i := 13) (by decide +kernel) rfl
theorem dX11_spot_157 : decode cX11_spot 157 = .ok (.getfield 119, 3) := zrD zrw_cX11_spot_143 (i := 14) (by decide +kernel) rfl
theorem dX11_spot_160 : decode cX11_spot 160 = .ok (.iload_n 1, 1) := zrD zrw_cX11_spot_143 (i := 17) (by decide +kernel) rfl
theorem dX11_spot_161 : decode cX11_spot 161 = .ok (.iaload, 1) := zrD zrw_cX11_spot_143 (i := 18) (by decide +kernel) rfl
theorem dX11_spot_162 : decode cX11_spot 162 = .ok (.invokestatic 345, 3) := zrD zrw_cX11_spot_143 (i := 19) (by decide +kernel) rfl
theorem dX11_spot_165 : decode cX11_spot 165 = .ok (.iconst 1, 1) := zrD zrw_cX11_spot_143 (i := 22) (by decide +kernel) rfl
theorem dX11_spot_166 : decode cX11_spot 166 = .ok (.isub, 1) := zrD zrw_cX11_spot_143 (i := 23) (by decide +kernel) rfl
theorem dX11_spot_167 : decode cX11_spot 167 = .ok (.ireturn, 1) := zrD zrw_cX11_spot_143 (i := 24) (by decide +kernel) rfl
theorem dX11_spot_168 : decode cX11_spot 168 = .ok (.aload_n 0, 1) := zrD zrw_cX11_spot_143 (i := 25) (by decide +kernel) rfl
theorem dX11_spot_169 : decode cX11_spot 169 = .ok (.iload_n 1, 1) := zrD zrw_cX11_spot_143 (i := 26) (by decide +kernel) rfl
theorem dX11_spot_170 : decode cX11_spot 170 = .ok (.invokevirtual 342, 3) := zrD zrw_cX11_spot_143 (i := 27) (by decide +kernel) rfl
def zrk_cX11_spot_173 : ByteArray := .mk #[153, 0, 7, 4, 167, 0, 4, 3, 172, 42, 180, 0, 110, 16, 24, 27, 96, 46, 172, 42, 180, 0, 110, 16, 36, 27, 96, 46, 172, 42, 27]
theorem zrw_cX11_spot_173 : zrW 173 cX11_spot zrk_cX11_spot_173 := by unfold zrW; decide +kernel
theorem dX11_spot_173 : decode cX11_spot 173 = .ok (.ifCond .eq 7, 3) := zrD zrw_cX11_spot_173 (i := 0) (by decide +kernel) rfl
theorem dX11_spot_176 : decode cX11_spot 176 = .ok (.iconst 1, 1) := zrD zrw_cX11_spot_173 (i := 3) (by decide +kernel) rfl
theorem dX11_spot_177 : decode cX11_spot 177 = .ok (.goto 4, 3) := zrD zrw_cX11_spot_173 (i := 4) (by decide +kernel) rfl
theorem dX11_spot_180 : decode cX11_spot 180 = .ok (.iconst 0, 1) := zrD zrw_cX11_spot_173 (i := 7) (by decide +kernel) rfl
theorem dX11_spot_181 : decode cX11_spot 181 = .ok (.ireturn, 1) := zrD zrw_cX11_spot_173 (i := 8) (by decide +kernel) rfl
theorem dX11_spot_182 : decode cX11_spot 182 = .ok (.aload_n 0, 1) := zrD zrw_cX11_spot_173 (i := 9) (by decide +kernel) rfl
theorem dX11_spot_183 : decode cX11_spot 183 = .ok (.getfield 110, 3) := zrD zrw_cX11_spot_173 (i := 10) (by decide +kernel) rfl
theorem dX11_spot_186 : decode cX11_spot 186 = .ok (.bipush 24, 2) := zrD zrw_cX11_spot_173 (i := 13) (by decide +kernel) rfl
theorem dX11_spot_188 : decode cX11_spot 188 = .ok (.iload_n 1, 1) := zrD zrw_cX11_spot_173 (i := 15) (by decide +kernel) rfl
theorem dX11_spot_189 : decode cX11_spot 189 = .ok (.iadd, 1) := zrD zrw_cX11_spot_173 (i := 16) (by decide +kernel) rfl
theorem dX11_spot_190 : decode cX11_spot 190 = .ok (.iaload, 1) := zrD zrw_cX11_spot_173 (i := 17) (by decide +kernel) rfl
theorem dX11_spot_191 : decode cX11_spot 191 = .ok (.ireturn, 1) := zrD zrw_cX11_spot_173 (i := 18) (by decide +kernel) rfl
theorem dX11_spot_192 : decode cX11_spot 192 = .ok (.aload_n 0, 1) := zrD zrw_cX11_spot_173 (i := 19) (by decide +kernel) rfl
theorem dX11_spot_193 : decode cX11_spot 193 = .ok (.getfield 110, 3) := zrD zrw_cX11_spot_173 (i := 20) (by decide +kernel) rfl
theorem dX11_spot_196 : decode cX11_spot 196 = .ok (.bipush 36, 2) := zrD zrw_cX11_spot_173 (i := 23) (by decide +kernel) rfl
theorem dX11_spot_198 : decode cX11_spot 198 = .ok (.iload_n 1, 1) := zrD zrw_cX11_spot_173 (i := 25) (by decide +kernel) rfl
theorem dX11_spot_199 : decode cX11_spot 199 = .ok (.iadd, 1) := zrD zrw_cX11_spot_173 (i := 26) (by decide +kernel) rfl
theorem dX11_spot_200 : decode cX11_spot 200 = .ok (.iaload, 1) := zrD zrw_cX11_spot_173 (i := 27) (by decide +kernel) rfl
theorem dX11_spot_201 : decode cX11_spot 201 = .ok (.ireturn, 1) := zrD zrw_cX11_spot_173 (i := 28) (by decide +kernel) rfl
theorem dX11_spot_202 : decode cX11_spot 202 = .ok (.aload_n 0, 1) := zrD zrw_cX11_spot_173 (i := 29) (by decide +kernel) rfl
theorem dX11_spot_203 : decode cX11_spot 203 = .ok (.iload_n 1, 1) := zrD zrw_cX11_spot_173 (i := 30) (by decide +kernel) rfl
def zrk_cX11_spot_204 : ByteArray := .mk #[182, 1, 104, 172, 42, 27, 182, 1, 107, 172, 2, 172]
theorem zrw_cX11_spot_204 : zrW 204 cX11_spot zrk_cX11_spot_204 := by unfold zrW; decide +kernel
theorem dX11_spot_204 : decode cX11_spot 204 = .ok (.invokevirtual 360, 3) := zrD zrw_cX11_spot_204 (i := 0) (by decide +kernel) rfl
theorem dX11_spot_207 : decode cX11_spot 207 = .ok (.ireturn, 1) := zrD zrw_cX11_spot_204 (i := 3) (by decide +kernel) rfl
theorem dX11_spot_208 : decode cX11_spot 208 = .ok (.aload_n 0, 1) := zrD zrw_cX11_spot_204 (i := 4) (by decide +kernel) rfl
theorem dX11_spot_209 : decode cX11_spot 209 = .ok (.iload_n 1, 1) := zrD zrw_cX11_spot_204 (i := 5) (by decide +kernel) rfl
theorem dX11_spot_210 : decode cX11_spot 210 = .ok (.invokevirtual 363, 3) := zrD zrw_cX11_spot_204 (i := 6) (by decide +kernel) rfl
theorem dX11_spot_213 : decode cX11_spot 213 = .ok (.ireturn, 1) := zrD zrw_cX11_spot_204 (i := 9) (by decide +kernel) rfl
theorem dX11_spot_214 : decode cX11_spot 214 = .ok (.iconst (-1), 1) := zrD zrw_cX11_spot_204 (i := 10) (by decide +kernel) rfl
theorem dX11_spot_215 : decode cX11_spot 215 = .ok (.ireturn, 1) := zrD zrw_cX11_spot_204 (i := 11) (by decide +kernel) rfl
def zrk_cX11_isClaim_0 : ByteArray := .mk #[42, 182, 1, 76, 42, 27, 182, 1, 86, 153, 0, 14, 28, 184, 1, 130, 153, 0, 7, 4, 167, 0, 4, 3, 172]
theorem zrw_cX11_isClaim_0 : zrW 0 cX11_isClaim zrk_cX11_isClaim_0 := by unfold zrW; decide +kernel
theorem dX11_isClaim_0 : decode cX11_isClaim 0 = .ok (.aload_n 0, 1) := zrD zrw_cX11_isClaim_0 (i := 0) (by decide +kernel) rfl
theorem dX11_isClaim_1 : decode cX11_isClaim 1 = .ok (.invokevirtual 332, 3) := zrD zrw_cX11_isClaim_0 (i := 1) (by decide +kernel) rfl
theorem dX11_isClaim_4 : decode cX11_isClaim 4 = .ok (.aload_n 0, 1) := zrD zrw_cX11_isClaim_0 (i := 4) (by decide +kernel) rfl
theorem dX11_isClaim_5 : decode cX11_isClaim 5 = .ok (.iload_n 1, 1) := zrD zrw_cX11_isClaim_0 (i := 5) (by decide +kernel) rfl
theorem dX11_isClaim_6 : decode cX11_isClaim 6 = .ok (.invokevirtual 342, 3) := zrD zrw_cX11_isClaim_0 (i := 6) (by decide +kernel) rfl
theorem dX11_isClaim_9 : decode cX11_isClaim 9 = .ok (.ifCond .eq 14, 3) := zrD zrw_cX11_isClaim_0 (i := 9) (by decide +kernel) rfl
theorem dX11_isClaim_12 : decode cX11_isClaim 12 = .ok (.iload_n 2, 1) := zrD zrw_cX11_isClaim_0 (i := 12) (by decide +kernel) rfl
theorem dX11_isClaim_13 : decode cX11_isClaim 13 = .ok (.invokestatic 386, 3) := zrD zrw_cX11_isClaim_0 (i := 13) (by decide +kernel) rfl
theorem dX11_isClaim_16 : decode cX11_isClaim 16 = .ok (.ifCond .eq 7, 3) := zrD zrw_cX11_isClaim_0 (i := 16) (by decide +kernel) rfl
theorem dX11_isClaim_19 : decode cX11_isClaim 19 = .ok (.iconst 1, 1) := zrD zrw_cX11_isClaim_0 (i := 19) (by decide +kernel) rfl
theorem dX11_isClaim_20 : decode cX11_isClaim 20 = .ok (.goto 4, 3) := zrD zrw_cX11_isClaim_0 (i := 20) (by decide +kernel) rfl
theorem dX11_isClaim_23 : decode cX11_isClaim 23 = .ok (.iconst 0, 1) := zrD zrw_cX11_isClaim_0 (i := 23) (by decide +kernel) rfl
theorem dX11_isClaim_24 : decode cX11_isClaim 24 = .ok (.ireturn, 1) := zrD zrw_cX11_isClaim_0 (i := 24) (by decide +kernel) rfl
def zrk_cX11_claim_0 : ByteArray := .mk #[42, 27, 28, 182, 1, 133, 153, 0, 12, 42, 27, 28, 182, 1, 111, 167, 0, 4, 2, 172]
theorem zrw_cX11_claim_0 : zrW 0 cX11_claim zrk_cX11_claim_0 := by unfold zrW; decide +kernel
theorem dX11_claim_0 : decode cX11_claim 0 = .ok (.aload_n 0, 1) := zrD zrw_cX11_claim_0 (i := 0) (by decide +kernel) rfl
theorem dX11_claim_1 : decode cX11_claim 1 = .ok (.iload_n 1, 1) := zrD zrw_cX11_claim_0 (i := 1) (by decide +kernel) rfl
theorem dX11_claim_2 : decode cX11_claim 2 = .ok (.iload_n 2, 1) := zrD zrw_cX11_claim_0 (i := 2) (by decide +kernel) rfl
theorem dX11_claim_3 : decode cX11_claim 3 = .ok (.invokevirtual 389, 3) := zrD zrw_cX11_claim_0 (i := 3) (by decide +kernel) rfl
theorem dX11_claim_6 : decode cX11_claim 6 = .ok (.ifCond .eq 12, 3) := zrD zrw_cX11_claim_0 (i := 6) (by decide +kernel) rfl
theorem dX11_claim_9 : decode cX11_claim 9 = .ok (.aload_n 0, 1) := zrD zrw_cX11_claim_0 (i := 9) (by decide +kernel) rfl
theorem dX11_claim_10 : decode cX11_claim 10 = .ok (.iload_n 1, 1) := zrD zrw_cX11_claim_0 (i := 10) (by decide +kernel) rfl
theorem dX11_claim_11 : decode cX11_claim 11 = .ok (.iload_n 2, 1) := zrD zrw_cX11_claim_0 (i := 11) (by decide +kernel) rfl
theorem dX11_claim_12 : decode cX11_claim 12 = .ok (.invokevirtual 367, 3) := zrD zrw_cX11_claim_0 (i := 12) (by decide +kernel) rfl
theorem dX11_claim_15 : decode cX11_claim 15 = .ok (.goto 4, 3) := zrD zrw_cX11_claim_0 (i := 15) (by decide +kernel) rfl
theorem dX11_claim_18 : decode cX11_claim 18 = .ok (.iconst (-1), 1) := zrD zrw_cX11_claim_0 (i := 18) (by decide +kernel) rfl
theorem dX11_claim_19 : decode cX11_claim 19 = .ok (.ireturn, 1) := zrD zrw_cX11_claim_0 (i := 19) (by decide +kernel) rfl
def zrk_cX11_winner_0 : ByteArray := .mk #[27, 184, 1, 130, 154, 0, 5, 2, 172, 42, 182, 1, 76, 42, 27, 182, 1, 118, 172]
theorem zrw_cX11_winner_0 : zrW 0 cX11_winner zrk_cX11_winner_0 := by unfold zrW; decide +kernel
theorem dX11_winner_0 : decode cX11_winner 0 = .ok (.iload_n 1, 1) := zrD zrw_cX11_winner_0 (i := 0) (by decide +kernel) rfl
theorem dX11_winner_1 : decode cX11_winner 1 = .ok (.invokestatic 386, 3) := zrD zrw_cX11_winner_0 (i := 1) (by decide +kernel) rfl
theorem dX11_winner_4 : decode cX11_winner 4 = .ok (.ifCond .ne 5, 3) := zrD zrw_cX11_winner_0 (i := 4) (by decide +kernel) rfl
theorem dX11_winner_7 : decode cX11_winner 7 = .ok (.iconst (-1), 1) := zrD zrw_cX11_winner_0 (i := 7) (by decide +kernel) rfl
theorem dX11_winner_8 : decode cX11_winner 8 = .ok (.ireturn, 1) := zrD zrw_cX11_winner_0 (i := 8) (by decide +kernel) rfl
theorem dX11_winner_9 : decode cX11_winner 9 = .ok (.aload_n 0, 1) := zrD zrw_cX11_winner_0 (i := 9) (by decide +kernel) rfl
theorem dX11_winner_10 : decode cX11_winner 10 = .ok (.invokevirtual 332, 3) := zrD zrw_cX11_winner_0 (i := 10) (by decide +kernel) rfl
theorem dX11_winner_13 : decode cX11_winner 13 = .ok (.aload_n 0, 1) := zrD zrw_cX11_winner_0 (i := 13) (by decide +kernel) rfl
theorem dX11_winner_14 : decode cX11_winner 14 = .ok (.iload_n 1, 1) := zrD zrw_cX11_winner_0 (i := 14) (by decide +kernel) rfl
theorem dX11_winner_15 : decode cX11_winner 15 = .ok (.invokevirtual 374, 3) := zrD zrw_cX11_winner_0 (i := 15) (by decide +kernel) rfl
theorem dX11_winner_18 : decode cX11_winner 18 = .ok (.ireturn, 1) := zrD zrw_cX11_winner_0 (i := 18) (by decide +kernel) rfl
def zrk_cX11_records_0 : ByteArray := .mk #[42, 180, 1, 2, 16, 40, 160, 0, 43, 3, 60, 27, 17, 7, 158, 162, 0, 24, 42, 180, 0, 125, 27, 42, 180, 0, 125, 27, 16, 50, 96, 46]
theorem zrw_cX11_records_0 : zrW 0 cX11_records zrk_cX11_records_0 := by unfold zrW; decide +kernel
theorem dX11_records_0 : decode cX11_records 0 = .ok (.aload_n 0, 1) := zrD zrw_cX11_records_0 (i := 0) (by decide +kernel) rfl
theorem dX11_records_1 : decode cX11_records 1 = .ok (.getfield 258, 3) := zrD zrw_cX11_records_0 (i := 1) (by decide +kernel) rfl
theorem dX11_records_4 : decode cX11_records 4 = .ok (.bipush 40, 2) := zrD zrw_cX11_records_0 (i := 4) (by decide +kernel) rfl
theorem dX11_records_6 : decode cX11_records 6 = .ok (.if_icmp .ne 43, 3) := zrD zrw_cX11_records_0 (i := 6) (by decide +kernel) rfl
theorem dX11_records_9 : decode cX11_records 9 = .ok (.iconst 0, 1) := zrD zrw_cX11_records_0 (i := 9) (by decide +kernel) rfl
theorem dX11_records_10 : decode cX11_records 10 = .ok (.istore_n 1, 1) := zrD zrw_cX11_records_0 (i := 10) (by decide +kernel) rfl
theorem dX11_records_11 : decode cX11_records 11 = .ok (.iload_n 1, 1) := zrD zrw_cX11_records_0 (i := 11) (by decide +kernel) rfl
theorem dX11_records_12 : decode cX11_records 12 = .ok (.sipush 1950, 3) := zrD zrw_cX11_records_0 (i := 12) (by decide +kernel) rfl
theorem dX11_records_15 : decode cX11_records 15 = .ok (.if_icmp .ge 24, 3) := zrD zrw_cX11_records_0 (i := 15) (by decide +kernel) rfl
theorem dX11_records_18 : decode cX11_records 18 = .ok (.aload_n 0, 1) := zrD zrw_cX11_records_0 (i := 18) (by decide +kernel) rfl
theorem dX11_records_19 : decode cX11_records 19 = .ok (.getfield 125, 3) := zrD zrw_cX11_records_0 (i := 19) (by decide +kernel) rfl
theorem dX11_records_22 : decode cX11_records 22 = .ok (.iload_n 1, 1) := zrD zrw_cX11_records_0 (i := 22) (by decide +kernel) rfl
theorem dX11_records_23 : decode cX11_records 23 = .ok (.aload_n 0, 1) := zrD zrw_cX11_records_0 (i := 23) (by decide +kernel) rfl
theorem dX11_records_24 : decode cX11_records 24 = .ok (.getfield 125, 3) := zrD zrw_cX11_records_0 (i := 24) (by decide +kernel) rfl
theorem dX11_records_27 : decode cX11_records 27 = .ok (.iload_n 1, 1) := zrD zrw_cX11_records_0 (i := 27) (by decide +kernel) rfl
theorem dX11_records_28 : decode cX11_records 28 = .ok (.bipush 50, 2) := zrD zrw_cX11_records_0 (i := 28) (by decide +kernel) rfl
theorem dX11_records_30 : decode cX11_records 30 = .ok (.iadd, 1) := zrD zrw_cX11_records_0 (i := 30) (by decide +kernel) rfl
theorem dX11_records_31 : decode cX11_records 31 = .ok (.iaload, 1) := zrD zrw_cX11_records_0 (i := 31) (by decide +kernel) rfl
def zrk_cX11_records_32 : ByteArray := .mk #[79, 132, 1, 1, 167, 255, 231, 42, 89, 180, 1, 2, 4, 100, 181, 1, 2, 3, 60, 27, 16, 50, 162, 0, 29, 42, 180, 0, 125, 16, 50, 42]
theorem zrw_cX11_records_32 : zrW 32 cX11_records zrk_cX11_records_32 := by unfold zrW; decide +kernel
theorem dX11_records_32 : decode cX11_records 32 = .ok (.iastore, 1) := zrD zrw_cX11_records_32 (i := 0) (by decide +kernel) rfl
theorem dX11_records_33 : decode cX11_records 33 = .ok (.iinc 1 1, 3) := zrD zrw_cX11_records_32 (i := 1) (by decide +kernel) rfl
theorem dX11_records_36 : decode cX11_records 36 = .ok (.goto (-25), 3) := zrD zrw_cX11_records_32 (i := 4) (by decide +kernel) rfl
theorem dX11_records_39 : decode cX11_records 39 = .ok (.aload_n 0, 1) := zrD zrw_cX11_records_32 (i := 7) (by decide +kernel) rfl
theorem dX11_records_40 : decode cX11_records 40 = .ok (.dup, 1) := zrD zrw_cX11_records_32 (i := 8) (by decide +kernel) rfl
theorem dX11_records_41 : decode cX11_records 41 = .ok (.getfield 258, 3) := zrD zrw_cX11_records_32 (i := 9) (by decide +kernel) rfl
theorem dX11_records_44 : decode cX11_records 44 = .ok (.iconst 1, 1) := zrD zrw_cX11_records_32 (i := 12) (by decide +kernel) rfl
theorem dX11_records_45 : decode cX11_records 45 = .ok (.isub, 1) := zrD zrw_cX11_records_32 (i := 13) (by decide +kernel) rfl
theorem dX11_records_46 : decode cX11_records 46 = .ok (.putfield 258, 3) := zrD zrw_cX11_records_32 (i := 14) (by decide +kernel) rfl
theorem dX11_records_49 : decode cX11_records 49 = .ok (.iconst 0, 1) := zrD zrw_cX11_records_32 (i := 17) (by decide +kernel) rfl
theorem dX11_records_50 : decode cX11_records 50 = .ok (.istore_n 1, 1) := zrD zrw_cX11_records_32 (i := 18) (by decide +kernel) rfl
theorem dX11_records_51 : decode cX11_records 51 = .ok (.iload_n 1, 1) := zrD zrw_cX11_records_32 (i := 19) (by decide +kernel) rfl
theorem dX11_records_52 : decode cX11_records 52 = .ok (.bipush 50, 2) := zrD zrw_cX11_records_32 (i := 20) (by decide +kernel) rfl
theorem dX11_records_54 : decode cX11_records 54 = .ok (.if_icmp .ge 29, 3) := zrD zrw_cX11_records_32 (i := 22) (by decide +kernel) rfl
theorem dX11_records_57 : decode cX11_records 57 = .ok (.aload_n 0, 1) := zrD zrw_cX11_records_32 (i := 25) (by decide +kernel) rfl
theorem dX11_records_58 : decode cX11_records 58 = .ok (.getfield 125, 3) := zrD zrw_cX11_records_32 (i := 26) (by decide +kernel) rfl
theorem dX11_records_61 : decode cX11_records 61 = .ok (.bipush 50, 2) := zrD zrw_cX11_records_32 (i := 29) (by decide +kernel) rfl
theorem dX11_records_63 : decode cX11_records 63 = .ok (.aload_n 0, 1) := zrD zrw_cX11_records_32 (i := 31) (by decide +kernel) rfl
def zrk_cX11_records_64 : ByteArray := .mk #[180, 1, 2, 104, 27, 96, 42, 180, 0, 107, 27, 46, 79, 132, 1, 1, 167, 255, 227, 42, 89, 180, 1, 2, 4, 96, 181, 1, 2, 42]
theorem zrw_cX11_records_64 : zrW 64 cX11_records zrk_cX11_records_64 := by unfold zrW; decide +kernel
theorem dX11_records_64 : decode cX11_records 64 = .ok (.getfield 258, 3) := zrD zrw_cX11_records_64 (i := 0) (by decide +kernel) rfl
theorem dX11_records_67 : decode cX11_records 67 = .ok (.imul, 1) := zrD zrw_cX11_records_64 (i := 3) (by decide +kernel) rfl
theorem dX11_records_68 : decode cX11_records 68 = .ok (.iload_n 1, 1) := zrD zrw_cX11_records_64 (i := 4) (by decide +kernel) rfl
theorem dX11_records_69 : decode cX11_records 69 = .ok (.iadd, 1) := zrD zrw_cX11_records_64 (i := 5) (by decide +kernel) rfl
theorem dX11_records_70 : decode cX11_records 70 = .ok (.aload_n 0, 1) := zrD zrw_cX11_records_64 (i := 6) (by decide +kernel) rfl
theorem dX11_records_71 : decode cX11_records 71 = .ok (.getfield 107, 3) := zrD zrw_cX11_records_64 (i := 7) (by decide +kernel) rfl
theorem dX11_records_74 : decode cX11_records 74 = .ok (.iload_n 1, 1) := zrD zrw_cX11_records_64 (i := 10) (by decide +kernel) rfl
theorem dX11_records_75 : decode cX11_records 75 = .ok (.iaload, 1) := zrD zrw_cX11_records_64 (i := 11) (by decide +kernel) rfl
theorem dX11_records_76 : decode cX11_records 76 = .ok (.iastore, 1) := zrD zrw_cX11_records_64 (i := 12) (by decide +kernel) rfl
theorem dX11_records_77 : decode cX11_records 77 = .ok (.iinc 1 1, 3) := zrD zrw_cX11_records_64 (i := 13) (by decide +kernel) rfl
theorem dX11_records_80 : decode cX11_records 80 = .ok (.goto (-29), 3) := zrD zrw_cX11_records_64 (i := 16) (by decide +kernel) rfl
theorem dX11_records_83 : decode cX11_records 83 = .ok (.aload_n 0, 1) := zrD zrw_cX11_records_64 (i := 19) (by decide +kernel) rfl
theorem dX11_records_84 : decode cX11_records 84 = .ok (.dup, 1) := zrD zrw_cX11_records_64 (i := 20) (by decide +kernel) rfl
theorem dX11_records_85 : decode cX11_records 85 = .ok (.getfield 258, 3) := zrD zrw_cX11_records_64 (i := 21) (by decide +kernel) rfl
theorem dX11_records_88 : decode cX11_records 88 = .ok (.iconst 1, 1) := zrD zrw_cX11_records_64 (i := 24) (by decide +kernel) rfl
theorem dX11_records_89 : decode cX11_records 89 = .ok (.iadd, 1) := zrD zrw_cX11_records_64 (i := 25) (by decide +kernel) rfl
theorem dX11_records_90 : decode cX11_records 90 = .ok (.putfield 258, 3) := zrD zrw_cX11_records_64 (i := 26) (by decide +kernel) rfl
theorem dX11_records_93 : decode cX11_records 93 = .ok (.aload_n 0, 1) := zrD zrw_cX11_records_64 (i := 29) (by decide +kernel) rfl
def zrk_cX11_records_94 : ByteArray := .mk #[182, 0, 166, 177]
theorem zrw_cX11_records_94 : zrW 94 cX11_records zrk_cX11_records_94 := by unfold zrW; decide +kernel
theorem dX11_records_94 : decode cX11_records 94 = .ok (.invokevirtual 166, 3) := zrD zrw_cX11_records_94 (i := 0) (by decide +kernel) rfl
theorem dX11_records_97 : decode cX11_records 97 = .ok (.return_, 1) := zrD zrw_cX11_records_94 (i := 3) (by decide +kernel) rfl
def zrk_cX11_does_0 : ByteArray := .mk #[42, 182, 1, 76, 42, 180, 0, 110, 27, 28, 79, 42, 182, 1, 137, 177]
theorem zrw_cX11_does_0 : zrW 0 cX11_does zrk_cX11_does_0 := by unfold zrW; decide +kernel
theorem dX11_does_0 : decode cX11_does 0 = .ok (.aload_n 0, 1) := zrD zrw_cX11_does_0 (i := 0) (by decide +kernel) rfl
theorem dX11_does_1 : decode cX11_does 1 = .ok (.invokevirtual 332, 3) := zrD zrw_cX11_does_0 (i := 1) (by decide +kernel) rfl
theorem dX11_does_4 : decode cX11_does 4 = .ok (.aload_n 0, 1) := zrD zrw_cX11_does_0 (i := 4) (by decide +kernel) rfl
theorem dX11_does_5 : decode cX11_does 5 = .ok (.getfield 110, 3) := zrD zrw_cX11_does_0 (i := 5) (by decide +kernel) rfl
theorem dX11_does_8 : decode cX11_does 8 = .ok (.iload_n 1, 1) := zrD zrw_cX11_does_0 (i := 8) (by decide +kernel) rfl
theorem dX11_does_9 : decode cX11_does 9 = .ok (.iload_n 2, 1) := zrD zrw_cX11_does_0 (i := 9) (by decide +kernel) rfl
theorem dX11_does_10 : decode cX11_does 10 = .ok (.iastore, 1) := zrD zrw_cX11_does_0 (i := 10) (by decide +kernel) rfl
theorem dX11_does_11 : decode cX11_does 11 = .ok (.aload_n 0, 1) := zrD zrw_cX11_does_0 (i := 11) (by decide +kernel) rfl
theorem dX11_does_12 : decode cX11_does 12 = .ok (.invokevirtual 393, 3) := zrD zrw_cX11_does_0 (i := 12) (by decide +kernel) rfl
theorem dX11_does_15 : decode cX11_does 15 = .ok (.return_, 1) := zrD zrw_cX11_does_0 (i := 15) (by decide +kernel) rfl
def zrk_cX11_dam_0 : ByteArray := .mk #[42, 27, 182, 1, 83, 153, 0, 25, 42, 180, 0, 107, 16, 12, 27, 96, 46, 4, 160, 0, 7, 4, 167, 0, 4, 3, 28, 160, 0, 5, 3, 172]
theorem zrw_cX11_dam_0 : zrW 0 cX11_dam zrk_cX11_dam_0 := by unfold zrW; decide +kernel
theorem dX11_dam_0 : decode cX11_dam 0 = .ok (.aload_n 0, 1) := zrD zrw_cX11_dam_0 (i := 0) (by decide +kernel) rfl
theorem dX11_dam_1 : decode cX11_dam 1 = .ok (.iload_n 1, 1) := zrD zrw_cX11_dam_0 (i := 1) (by decide +kernel) rfl
theorem dX11_dam_2 : decode cX11_dam 2 = .ok (.invokevirtual 339, 3) := zrD zrw_cX11_dam_0 (i := 2) (by decide +kernel) rfl
theorem dX11_dam_5 : decode cX11_dam 5 = .ok (.ifCond .eq 25, 3) := zrD zrw_cX11_dam_0 (i := 5) (by decide +kernel) rfl
theorem dX11_dam_8 : decode cX11_dam 8 = .ok (.aload_n 0, 1) := zrD zrw_cX11_dam_0 (i := 8) (by decide +kernel) rfl
theorem dX11_dam_9 : decode cX11_dam 9 = .ok (.getfield 107, 3) := zrD zrw_cX11_dam_0 (i := 9) (by decide +kernel) rfl
theorem dX11_dam_12 : decode cX11_dam 12 = .ok (.bipush 12, 2) := zrD zrw_cX11_dam_0 (i := 12) (by decide +kernel) rfl
theorem dX11_dam_14 : decode cX11_dam 14 = .ok (.iload_n 1, 1) := zrD zrw_cX11_dam_0 (i := 14) (by decide +kernel) rfl
theorem dX11_dam_15 : decode cX11_dam 15 = .ok (.iadd, 1) := zrD zrw_cX11_dam_0 (i := 15) (by decide +kernel) rfl
theorem dX11_dam_16 : decode cX11_dam 16 = .ok (.iaload, 1) := zrD zrw_cX11_dam_0 (i := 16) (by decide +kernel) rfl
theorem dX11_dam_17 : decode cX11_dam 17 = .ok (.iconst 1, 1) := zrD zrw_cX11_dam_0 (i := 17) (by decide +kernel) rfl
theorem dX11_dam_18 : decode cX11_dam 18 = .ok (.if_icmp .ne 7, 3) := zrD zrw_cX11_dam_0 (i := 18) (by decide +kernel) rfl
theorem dX11_dam_21 : decode cX11_dam 21 = .ok (.iconst 1, 1) := zrD zrw_cX11_dam_0 (i := 21) (by decide +kernel) rfl
theorem dX11_dam_22 : decode cX11_dam 22 = .ok (.goto 4, 3) := zrD zrw_cX11_dam_0 (i := 22) (by decide +kernel) rfl
theorem dX11_dam_25 : decode cX11_dam 25 = .ok (.iconst 0, 1) := zrD zrw_cX11_dam_0 (i := 25) (by decide +kernel) rfl
theorem dX11_dam_26 : decode cX11_dam 26 = .ok (.iload_n 2, 1) := zrD zrw_cX11_dam_0 (i := 26) (by decide +kernel) rfl
theorem dX11_dam_27 : decode cX11_dam 27 = .ok (.if_icmp .ne 5, 3) := zrD zrw_cX11_dam_0 (i := 27) (by decide +kernel) rfl
theorem dX11_dam_30 : decode cX11_dam 30 = .ok (.iconst 0, 1) := zrD zrw_cX11_dam_0 (i := 30) (by decide +kernel) rfl
theorem dX11_dam_31 : decode cX11_dam 31 = .ok (.ireturn, 1) := zrD zrw_cX11_dam_0 (i := 31) (by decide +kernel) rfl
def zrk_cX11_dam_32 : ByteArray := .mk #[42, 16, 12, 27, 96, 28, 153, 0, 7, 4, 167, 0, 4, 3, 182, 1, 140, 4, 172]
theorem zrw_cX11_dam_32 : zrW 32 cX11_dam zrk_cX11_dam_32 := by unfold zrW; decide +kernel
theorem dX11_dam_32 : decode cX11_dam 32 = .ok (.aload_n 0, 1) := zrD zrw_cX11_dam_32 (i := 0) (by decide +kernel) rfl
theorem dX11_dam_33 : decode cX11_dam 33 = .ok (.bipush 12, 2) := zrD zrw_cX11_dam_32 (i := 1) (by decide +kernel) rfl
theorem dX11_dam_35 : decode cX11_dam 35 = .ok (.iload_n 1, 1) := zrD zrw_cX11_dam_32 (i := 3) (by decide +kernel) rfl
theorem dX11_dam_36 : decode cX11_dam 36 = .ok (.iadd, 1) := zrD zrw_cX11_dam_32 (i := 4) (by decide +kernel) rfl
theorem dX11_dam_37 : decode cX11_dam 37 = .ok (.iload_n 2, 1) := zrD zrw_cX11_dam_32 (i := 5) (by decide +kernel) rfl
theorem dX11_dam_38 : decode cX11_dam 38 = .ok (.ifCond .eq 7, 3) := zrD zrw_cX11_dam_32 (i := 6) (by decide +kernel) rfl
theorem dX11_dam_41 : decode cX11_dam 41 = .ok (.iconst 1, 1) := zrD zrw_cX11_dam_32 (i := 9) (by decide +kernel) rfl
theorem dX11_dam_42 : decode cX11_dam 42 = .ok (.goto 4, 3) := zrD zrw_cX11_dam_32 (i := 10) (by decide +kernel) rfl
theorem dX11_dam_45 : decode cX11_dam 45 = .ok (.iconst 0, 1) := zrD zrw_cX11_dam_32 (i := 13) (by decide +kernel) rfl
theorem dX11_dam_46 : decode cX11_dam 46 = .ok (.invokevirtual 396, 3) := zrD zrw_cX11_dam_32 (i := 14) (by decide +kernel) rfl
theorem dX11_dam_49 : decode cX11_dam 49 = .ok (.iconst 1, 1) := zrD zrw_cX11_dam_32 (i := 17) (by decide +kernel) rfl
theorem dX11_dam_50 : decode cX11_dam 50 = .ok (.ireturn, 1) := zrD zrw_cX11_dam_32 (i := 18) (by decide +kernel) rfl
def zrk_cX11_canTurn_0 : ByteArray := .mk #[42, 27, 182, 1, 83, 153, 0, 38, 42, 28, 182, 1, 127, 153, 0, 30, 42, 180, 0, 107, 27, 46, 28, 159, 0, 20, 42, 180, 0, 119, 27, 46]
theorem zrw_cX11_canTurn_0 : zrW 0 cX11_canTurn zrk_cX11_canTurn_0 := by unfold zrW; decide +kernel
theorem dX11_canTurn_0 : decode cX11_canTurn 0 = .ok (.aload_n 0, 1) := zrD zrw_cX11_canTurn_0 (i := 0) (by decide +kernel) rfl
theorem dX11_canTurn_1 : decode cX11_canTurn 1 = .ok (.iload_n 1, 1) := zrD zrw_cX11_canTurn_0 (i := 1) (by decide +kernel) rfl
theorem dX11_canTurn_2 : decode cX11_canTurn 2 = .ok (.invokevirtual 339, 3) := zrD zrw_cX11_canTurn_0 (i := 2) (by decide +kernel) rfl
theorem dX11_canTurn_5 : decode cX11_canTurn 5 = .ok (.ifCond .eq 38, 3) := zrD zrw_cX11_canTurn_0 (i := 5) (by decide +kernel) rfl
theorem dX11_canTurn_8 : decode cX11_canTurn 8 = .ok (.aload_n 0, 1) := zrD zrw_cX11_canTurn_0 (i := 8) (by decide +kernel) rfl
theorem dX11_canTurn_9 : decode cX11_canTurn 9 = .ok (.iload_n 2, 1) := zrD zrw_cX11_canTurn_0 (i := 9) (by decide +kernel) rfl
theorem dX11_canTurn_10 : decode cX11_canTurn 10 = .ok (.invokevirtual 383, 3) := zrD zrw_cX11_canTurn_0 (i := 10) (by decide +kernel) rfl
theorem dX11_canTurn_13 : decode cX11_canTurn 13 = .ok (.ifCond .eq 30, 3) := zrD zrw_cX11_canTurn_0 (i := 13) (by decide +kernel) rfl
theorem dX11_canTurn_16 : decode cX11_canTurn 16 = .ok (.aload_n 0, 1) := zrD zrw_cX11_canTurn_0 (i := 16) (by decide +kernel) rfl
theorem dX11_canTurn_17 : decode cX11_canTurn 17 = .ok (.getfield 107, 3) := zrD zrw_cX11_canTurn_0 (i := 17) (by decide +kernel) rfl
theorem dX11_canTurn_20 : decode cX11_canTurn 20 = .ok (.iload_n 1, 1) := zrD zrw_cX11_canTurn_0 (i := 20) (by decide +kernel) rfl
theorem dX11_canTurn_21 : decode cX11_canTurn 21 = .ok (.iaload, 1) := zrD zrw_cX11_canTurn_0 (i := 21) (by decide +kernel) rfl
theorem dX11_canTurn_22 : decode cX11_canTurn 22 = .ok (.iload_n 2, 1) := zrD zrw_cX11_canTurn_0 (i := 22) (by decide +kernel) rfl
theorem dX11_canTurn_23 : decode cX11_canTurn 23 = .ok (.if_icmp .eq 20, 3) := zrD zrw_cX11_canTurn_0 (i := 23) (by decide +kernel) rfl
theorem dX11_canTurn_26 : decode cX11_canTurn 26 = .ok (.aload_n 0, 1) := zrD zrw_cX11_canTurn_0 (i := 26) (by decide +kernel) rfl
theorem dX11_canTurn_27 : decode cX11_canTurn 27 = .ok (.getfield 119, 3) := zrD zrw_cX11_canTurn_0 (i := 27) (by decide +kernel) rfl
theorem dX11_canTurn_30 : decode cX11_canTurn 30 = .ok (.iload_n 1, 1) := zrD zrw_cX11_canTurn_0 (i := 30) (by decide +kernel) rfl
theorem dX11_canTurn_31 : decode cX11_canTurn 31 = .ok (.iaload, 1) := zrD zrw_cX11_canTurn_0 (i := 31) (by decide +kernel) rfl
def zrk_cX11_canTurn_32 : ByteArray := .mk #[28, 122, 4, 126, 154, 0, 7, 4, 167, 0, 4, 3, 172]
theorem zrw_cX11_canTurn_32 : zrW 32 cX11_canTurn zrk_cX11_canTurn_32 := by unfold zrW; decide +kernel
theorem dX11_canTurn_32 : decode cX11_canTurn 32 = .ok (.iload_n 2, 1) := zrD zrw_cX11_canTurn_32 (i := 0) (by decide +kernel) rfl
theorem dX11_canTurn_33 : decode cX11_canTurn 33 = .ok (.ishr, 1) := zrD zrw_cX11_canTurn_32 (i := 1) (by decide +kernel) rfl
theorem dX11_canTurn_34 : decode cX11_canTurn 34 = .ok (.iconst 1, 1) := zrD zrw_cX11_canTurn_32 (i := 2) (by decide +kernel) rfl
theorem dX11_canTurn_35 : decode cX11_canTurn 35 = .ok (.iand, 1) := zrD zrw_cX11_canTurn_32 (i := 3) (by decide +kernel) rfl
theorem dX11_canTurn_36 : decode cX11_canTurn 36 = .ok (.ifCond .ne 7, 3) := zrD zrw_cX11_canTurn_32 (i := 4) (by decide +kernel) rfl
theorem dX11_canTurn_39 : decode cX11_canTurn 39 = .ok (.iconst 1, 1) := zrD zrw_cX11_canTurn_32 (i := 7) (by decide +kernel) rfl
theorem dX11_canTurn_40 : decode cX11_canTurn 40 = .ok (.goto 4, 3) := zrD zrw_cX11_canTurn_32 (i := 8) (by decide +kernel) rfl
theorem dX11_canTurn_43 : decode cX11_canTurn 43 = .ok (.iconst 0, 1) := zrD zrw_cX11_canTurn_32 (i := 11) (by decide +kernel) rfl
theorem dX11_canTurn_44 : decode cX11_canTurn 44 = .ok (.ireturn, 1) := zrD zrw_cX11_canTurn_32 (i := 12) (by decide +kernel) rfl
def zrk_cX11_turn_0 : ByteArray := .mk #[42, 182, 1, 76, 42, 27, 28, 182, 1, 143, 154, 0, 5, 3, 172, 42, 27, 28, 182, 1, 140, 4, 172]
theorem zrw_cX11_turn_0 : zrW 0 cX11_turn zrk_cX11_turn_0 := by unfold zrW; decide +kernel
theorem dX11_turn_0 : decode cX11_turn 0 = .ok (.aload_n 0, 1) := zrD zrw_cX11_turn_0 (i := 0) (by decide +kernel) rfl
theorem dX11_turn_1 : decode cX11_turn 1 = .ok (.invokevirtual 332, 3) := zrD zrw_cX11_turn_0 (i := 1) (by decide +kernel) rfl
theorem dX11_turn_4 : decode cX11_turn 4 = .ok (.aload_n 0, 1) := zrD zrw_cX11_turn_0 (i := 4) (by decide +kernel) rfl
theorem dX11_turn_5 : decode cX11_turn 5 = .ok (.iload_n 1, 1) := zrD zrw_cX11_turn_0 (i := 5) (by decide +kernel) rfl
theorem dX11_turn_6 : decode cX11_turn 6 = .ok (.iload_n 2, 1) := zrD zrw_cX11_turn_0 (i := 6) (by decide +kernel) rfl
theorem dX11_turn_7 : decode cX11_turn 7 = .ok (.invokevirtual 399, 3) := zrD zrw_cX11_turn_0 (i := 7) (by decide +kernel) rfl
theorem dX11_turn_10 : decode cX11_turn 10 = .ok (.ifCond .ne 5, 3) := zrD zrw_cX11_turn_0 (i := 10) (by decide +kernel) rfl
theorem dX11_turn_13 : decode cX11_turn 13 = .ok (.iconst 0, 1) := zrD zrw_cX11_turn_0 (i := 13) (by decide +kernel) rfl
theorem dX11_turn_14 : decode cX11_turn 14 = .ok (.ireturn, 1) := zrD zrw_cX11_turn_0 (i := 14) (by decide +kernel) rfl
theorem dX11_turn_15 : decode cX11_turn 15 = .ok (.aload_n 0, 1) := zrD zrw_cX11_turn_0 (i := 15) (by decide +kernel) rfl
theorem dX11_turn_16 : decode cX11_turn 16 = .ok (.iload_n 1, 1) := zrD zrw_cX11_turn_0 (i := 16) (by decide +kernel) rfl
theorem dX11_turn_17 : decode cX11_turn 17 = .ok (.iload_n 2, 1) := zrD zrw_cX11_turn_0 (i := 17) (by decide +kernel) rfl
theorem dX11_turn_18 : decode cX11_turn 18 = .ok (.invokevirtual 396, 3) := zrD zrw_cX11_turn_0 (i := 18) (by decide +kernel) rfl
theorem dX11_turn_21 : decode cX11_turn 21 = .ok (.iconst 1, 1) := zrD zrw_cX11_turn_0 (i := 21) (by decide +kernel) rfl
theorem dX11_turn_22 : decode cX11_turn 22 = .ok (.ireturn, 1) := zrD zrw_cX11_turn_0 (i := 22) (by decide +kernel) rfl
def zrk_cX11_rule_0 : ByteArray := .mk #[27, 184, 1, 130, 153, 0, 14, 42, 180, 0, 107, 16, 49, 46, 27, 160, 0, 5, 3, 172, 42, 16, 49, 27, 182, 1, 140, 4, 172]
theorem zrw_cX11_rule_0 : zrW 0 cX11_rule zrk_cX11_rule_0 := by unfold zrW; decide +kernel
theorem dX11_rule_0 : decode cX11_rule 0 = .ok (.iload_n 1, 1) := zrD zrw_cX11_rule_0 (i := 0) (by decide +kernel) rfl
theorem dX11_rule_1 : decode cX11_rule 1 = .ok (.invokestatic 386, 3) := zrD zrw_cX11_rule_0 (i := 1) (by decide +kernel) rfl
theorem dX11_rule_4 : decode cX11_rule 4 = .ok (.ifCond .eq 14, 3) := zrD zrw_cX11_rule_0 (i := 4) (by decide +kernel) rfl
theorem dX11_rule_7 : decode cX11_rule 7 = .ok (.aload_n 0, 1) := zrD zrw_cX11_rule_0 (i := 7) (by decide +kernel) rfl
theorem dX11_rule_8 : decode cX11_rule 8 = .ok (.getfield 107, 3) := zrD zrw_cX11_rule_0 (i := 8) (by decide +kernel) rfl
theorem dX11_rule_11 : decode cX11_rule 11 = .ok (.bipush 49, 2) := zrD zrw_cX11_rule_0 (i := 11) (by decide +kernel) rfl
theorem dX11_rule_13 : decode cX11_rule 13 = .ok (.iaload, 1) := zrD zrw_cX11_rule_0 (i := 13) (by decide +kernel) rfl
theorem dX11_rule_14 : decode cX11_rule 14 = .ok (.iload_n 1, 1) := zrD zrw_cX11_rule_0 (i := 14) (by decide +kernel) rfl
theorem dX11_rule_15 : decode cX11_rule 15 = .ok (.if_icmp .ne 5, 3) := zrD zrw_cX11_rule_0 (i := 15) (by decide +kernel) rfl
theorem dX11_rule_18 : decode cX11_rule 18 = .ok (.iconst 0, 1) := zrD zrw_cX11_rule_0 (i := 18) (by decide +kernel) rfl
theorem dX11_rule_19 : decode cX11_rule 19 = .ok (.ireturn, 1) := zrD zrw_cX11_rule_0 (i := 19) (by decide +kernel) rfl
theorem dX11_rule_20 : decode cX11_rule 20 = .ok (.aload_n 0, 1) := zrD zrw_cX11_rule_0 (i := 20) (by decide +kernel) rfl
theorem dX11_rule_21 : decode cX11_rule 21 = .ok (.bipush 49, 2) := zrD zrw_cX11_rule_0 (i := 21) (by decide +kernel) rfl
theorem dX11_rule_23 : decode cX11_rule 23 = .ok (.iload_n 1, 1) := zrD zrw_cX11_rule_0 (i := 23) (by decide +kernel) rfl
theorem dX11_rule_24 : decode cX11_rule 24 = .ok (.invokevirtual 396, 3) := zrD zrw_cX11_rule_0 (i := 24) (by decide +kernel) rfl
theorem dX11_rule_27 : decode cX11_rule 27 = .ok (.iconst 1, 1) := zrD zrw_cX11_rule_0 (i := 27) (by decide +kernel) rfl
theorem dX11_rule_28 : decode cX11_rule 28 = .ok (.ireturn, 1) := zrD zrw_cX11_rule_0 (i := 28) (by decide +kernel) rfl
def zrk_cX11_isLong_0 : ByteArray := .mk #[26, 3, 16, 60, 184, 1, 60, 172]
theorem zrw_cX11_isLong_0 : zrW 0 cX11_isLong zrk_cX11_isLong_0 := by unfold zrW; decide +kernel
theorem dX11_isLong_0 : decode cX11_isLong 0 = .ok (.iload_n 0, 1) := zrD zrw_cX11_isLong_0 (i := 0) (by decide +kernel) rfl
theorem dX11_isLong_1 : decode cX11_isLong 1 = .ok (.iconst 0, 1) := zrD zrw_cX11_isLong_0 (i := 1) (by decide +kernel) rfl
theorem dX11_isLong_2 : decode cX11_isLong 2 = .ok (.bipush 60, 2) := zrD zrw_cX11_isLong_0 (i := 2) (by decide +kernel) rfl
theorem dX11_isLong_4 : decode cX11_isLong 4 = .ok (.invokestatic 316, 3) := zrD zrw_cX11_isLong_0 (i := 4) (by decide +kernel) rfl
theorem dX11_isLong_7 : decode cX11_isLong 7 = .ok (.ireturn, 1) := zrD zrw_cX11_isLong_0 (i := 7) (by decide +kernel) rfl
def zrk_cX11_isSome_0 : ByteArray := .mk #[26, 4, 16, 24, 184, 1, 60, 172]
theorem zrw_cX11_isSome_0 : zrW 0 cX11_isSome zrk_cX11_isSome_0 := by unfold zrW; decide +kernel
theorem dX11_isSome_0 : decode cX11_isSome 0 = .ok (.iload_n 0, 1) := zrD zrw_cX11_isSome_0 (i := 0) (by decide +kernel) rfl
theorem dX11_isSome_1 : decode cX11_isSome 1 = .ok (.iconst 1, 1) := zrD zrw_cX11_isSome_0 (i := 1) (by decide +kernel) rfl
theorem dX11_isSome_2 : decode cX11_isSome 2 = .ok (.bipush 24, 2) := zrD zrw_cX11_isSome_0 (i := 2) (by decide +kernel) rfl
theorem dX11_isSome_4 : decode cX11_isSome 4 = .ok (.invokestatic 316, 3) := zrD zrw_cX11_isSome_0 (i := 4) (by decide +kernel) rfl
theorem dX11_isSome_7 : decode cX11_isSome 7 = .ok (.ireturn, 1) := zrD zrw_cX11_isSome_0 (i := 7) (by decide +kernel) rfl
def zrk_cX11_months_0 : ByteArray := .mk #[27, 184, 1, 146, 154, 0, 5, 2, 172, 27, 154, 0, 11, 42, 180, 0, 107, 16, 48, 46, 172, 42, 182, 1, 76, 42, 27, 182, 1, 149, 42]
theorem zrw_cX11_months_0 : zrW 0 cX11_months zrk_cX11_months_0 := by unfold zrW; decide +kernel
theorem dX11_months_0 : decode cX11_months 0 = .ok (.iload_n 1, 1) := zrD zrw_cX11_months_0 (i := 0) (by decide +kernel) rfl
theorem dX11_months_1 : decode cX11_months 1 = .ok (.invokestatic 402, 3) := zrD zrw_cX11_months_0 (i := 1) (by decide +kernel) rfl
theorem dX11_months_4 : decode cX11_months 4 = .ok (.ifCond .ne 5, 3) := zrD zrw_cX11_months_0 (i := 4) (by decide +kernel) rfl
theorem dX11_months_7 : decode cX11_months 7 = .ok (.iconst (-1), 1) := zrD zrw_cX11_months_0 (i := 7) (by decide +kernel) rfl
theorem dX11_months_8 : decode cX11_months 8 = .ok (.ireturn, 1) := zrD zrw_cX11_months_0 (i := 8) (by decide +kernel) rfl
theorem dX11_months_9 : decode cX11_months 9 = .ok (.iload_n 1, 1) := zrD zrw_cX11_months_0 (i := 9) (by decide +kernel) rfl
theorem dX11_months_10 : decode cX11_months 10 = .ok (.ifCond .ne 11, 3) := zrD zrw_cX11_months_0 (i := 10) (by decide +kernel) rfl
theorem dX11_months_13 : decode cX11_months 13 = .ok (.aload_n 0, 1) := zrD zrw_cX11_months_0 (i := 13) (by decide +kernel) rfl
theorem dX11_months_14 : decode cX11_months 14 = .ok (.getfield 107, 3) := zrD zrw_cX11_months_0 (i := 14) (by decide +kernel) rfl
theorem dX11_months_17 : decode cX11_months 17 = .ok (.bipush 48, 2) := zrD zrw_cX11_months_0 (i := 17) (by decide +kernel) rfl
theorem dX11_months_19 : decode cX11_months 19 = .ok (.iaload, 1) := zrD zrw_cX11_months_0 (i := 19) (by decide +kernel) rfl
theorem dX11_months_20 : decode cX11_months 20 = .ok (.ireturn, 1) := zrD zrw_cX11_months_0 (i := 20) (by decide +kernel) rfl
theorem dX11_months_21 : decode cX11_months 21 = .ok (.aload_n 0, 1) := zrD zrw_cX11_months_0 (i := 21) (by decide +kernel) rfl
theorem dX11_months_22 : decode cX11_months 22 = .ok (.invokevirtual 332, 3) := zrD zrw_cX11_months_0 (i := 22) (by decide +kernel) rfl
theorem dX11_months_25 : decode cX11_months 25 = .ok (.aload_n 0, 1) := zrD zrw_cX11_months_0 (i := 25) (by decide +kernel) rfl
theorem dX11_months_26 : decode cX11_months 26 = .ok (.iload_n 1, 1) := zrD zrw_cX11_months_0 (i := 26) (by decide +kernel) rfl
theorem dX11_months_27 : decode cX11_months 27 = .ok (.invokevirtual 405, 3) := zrD zrw_cX11_months_0 (i := 27) (by decide +kernel) rfl
theorem dX11_months_30 : decode cX11_months 30 = .ok (.aload_n 0, 1) := zrD zrw_cX11_months_0 (i := 30) (by decide +kernel) rfl
def zrk_cX11_months_31 : ByteArray := .mk #[182, 1, 137, 42, 180, 0, 107, 16, 48, 46, 172]
theorem zrw_cX11_months_31 : zrW 31 cX11_months zrk_cX11_months_31 := by unfold zrW; decide +kernel
theorem dX11_months_31 : decode cX11_months 31 = .ok (.invokevirtual 393, 3) := zrD zrw_cX11_months_31 (i := 0) (by decide +kernel) rfl
theorem dX11_months_34 : decode cX11_months 34 = .ok (.aload_n 0, 1) := zrD zrw_cX11_months_31 (i := 3) (by decide +kernel) rfl
theorem dX11_months_35 : decode cX11_months 35 = .ok (.getfield 107, 3) := zrD zrw_cX11_months_31 (i := 4) (by decide +kernel) rfl
theorem dX11_months_38 : decode cX11_months 38 = .ok (.bipush 48, 2) := zrD zrw_cX11_months_31 (i := 7) (by decide +kernel) rfl
theorem dX11_months_40 : decode cX11_months 40 = .ok (.iaload, 1) := zrD zrw_cX11_months_31 (i := 9) (by decide +kernel) rfl
theorem dX11_months_41 : decode cX11_months 41 = .ok (.ireturn, 1) := zrD zrw_cX11_months_31 (i := 10) (by decide +kernel) rfl
def zrk_cX11_undo_0 : ByteArray := .mk #[42, 180, 1, 2, 154, 0, 5, 3, 172, 42, 89, 180, 1, 2, 4, 100, 181, 1, 2, 3, 60, 27, 16, 50, 162, 0, 29, 42, 180, 0, 107, 27]
theorem zrw_cX11_undo_0 : zrW 0 cX11_undo zrk_cX11_undo_0 := by unfold zrW; decide +kernel
theorem dX11_undo_0 : decode cX11_undo 0 = .ok (.aload_n 0, 1) := zrD zrw_cX11_undo_0 (i := 0) (by decide +kernel) rfl
theorem dX11_undo_1 : decode cX11_undo 1 = .ok (.getfield 258, 3) := zrD zrw_cX11_undo_0 (i := 1) (by decide +kernel) rfl
theorem dX11_undo_4 : decode cX11_undo 4 = .ok (.ifCond .ne 5, 3) := zrD zrw_cX11_undo_0 (i := 4) (by decide +kernel) rfl
theorem dX11_undo_7 : decode cX11_undo 7 = .ok (.iconst 0, 1) := zrD zrw_cX11_undo_0 (i := 7) (by decide +kernel) rfl
theorem dX11_undo_8 : decode cX11_undo 8 = .ok (.ireturn, 1) := zrD zrw_cX11_undo_0 (i := 8) (by decide +kernel) rfl
theorem dX11_undo_9 : decode cX11_undo 9 = .ok (.aload_n 0, 1) := zrD zrw_cX11_undo_0 (i := 9) (by decide +kernel) rfl
theorem dX11_undo_10 : decode cX11_undo 10 = .ok (.dup, 1) := zrD zrw_cX11_undo_0 (i := 10) (by decide +kernel) rfl
theorem dX11_undo_11 : decode cX11_undo 11 = .ok (.getfield 258, 3) := zrD zrw_cX11_undo_0 (i := 11) (by decide +kernel) rfl
theorem dX11_undo_14 : decode cX11_undo 14 = .ok (.iconst 1, 1) := zrD zrw_cX11_undo_0 (i := 14) (by decide +kernel) rfl
theorem dX11_undo_15 : decode cX11_undo 15 = .ok (.isub, 1) := zrD zrw_cX11_undo_0 (i := 15) (by decide +kernel) rfl
theorem dX11_undo_16 : decode cX11_undo 16 = .ok (.putfield 258, 3) := zrD zrw_cX11_undo_0 (i := 16) (by decide +kernel) rfl
theorem dX11_undo_19 : decode cX11_undo 19 = .ok (.iconst 0, 1) := zrD zrw_cX11_undo_0 (i := 19) (by decide +kernel) rfl
theorem dX11_undo_20 : decode cX11_undo 20 = .ok (.istore_n 1, 1) := zrD zrw_cX11_undo_0 (i := 20) (by decide +kernel) rfl
theorem dX11_undo_21 : decode cX11_undo 21 = .ok (.iload_n 1, 1) := zrD zrw_cX11_undo_0 (i := 21) (by decide +kernel) rfl
theorem dX11_undo_22 : decode cX11_undo 22 = .ok (.bipush 50, 2) := zrD zrw_cX11_undo_0 (i := 22) (by decide +kernel) rfl
theorem dX11_undo_24 : decode cX11_undo 24 = .ok (.if_icmp .ge 29, 3) := zrD zrw_cX11_undo_0 (i := 24) (by decide +kernel) rfl
theorem dX11_undo_27 : decode cX11_undo 27 = .ok (.aload_n 0, 1) := zrD zrw_cX11_undo_0 (i := 27) (by decide +kernel) rfl
theorem dX11_undo_28 : decode cX11_undo 28 = .ok (.getfield 107, 3) := zrD zrw_cX11_undo_0 (i := 28) (by decide +kernel) rfl
theorem dX11_undo_31 : decode cX11_undo 31 = .ok (.iload_n 1, 1) := zrD zrw_cX11_undo_0 (i := 31) (by decide +kernel) rfl
def zrk_cX11_undo_32 : ByteArray := .mk #[42, 180, 0, 125, 16, 50, 42, 180, 1, 2, 104, 27, 96, 46, 79, 132, 1, 1, 167, 255, 227, 4, 172]
theorem zrw_cX11_undo_32 : zrW 32 cX11_undo zrk_cX11_undo_32 := by unfold zrW; decide +kernel
theorem dX11_undo_32 : decode cX11_undo 32 = .ok (.aload_n 0, 1) := zrD zrw_cX11_undo_32 (i := 0) (by decide +kernel) rfl
theorem dX11_undo_33 : decode cX11_undo 33 = .ok (.getfield 125, 3) := zrD zrw_cX11_undo_32 (i := 1) (by decide +kernel) rfl
theorem dX11_undo_36 : decode cX11_undo 36 = .ok (.bipush 50, 2) := zrD zrw_cX11_undo_32 (i := 4) (by decide +kernel) rfl
theorem dX11_undo_38 : decode cX11_undo 38 = .ok (.aload_n 0, 1) := zrD zrw_cX11_undo_32 (i := 6) (by decide +kernel) rfl
theorem dX11_undo_39 : decode cX11_undo 39 = .ok (.getfield 258, 3) := zrD zrw_cX11_undo_32 (i := 7) (by decide +kernel) rfl
theorem dX11_undo_42 : decode cX11_undo 42 = .ok (.imul, 1) := zrD zrw_cX11_undo_32 (i := 10) (by decide +kernel) rfl
theorem dX11_undo_43 : decode cX11_undo 43 = .ok (.iload_n 1, 1) := zrD zrw_cX11_undo_32 (i := 11) (by decide +kernel) rfl
theorem dX11_undo_44 : decode cX11_undo 44 = .ok (.iadd, 1) := zrD zrw_cX11_undo_32 (i := 12) (by decide +kernel) rfl
theorem dX11_undo_45 : decode cX11_undo 45 = .ok (.iaload, 1) := zrD zrw_cX11_undo_32 (i := 13) (by decide +kernel) rfl
theorem dX11_undo_46 : decode cX11_undo 46 = .ok (.iastore, 1) := zrD zrw_cX11_undo_32 (i := 14) (by decide +kernel) rfl
theorem dX11_undo_47 : decode cX11_undo 47 = .ok (.iinc 1 1, 3) := zrD zrw_cX11_undo_32 (i := 15) (by decide +kernel) rfl
theorem dX11_undo_50 : decode cX11_undo 50 = .ok (.goto (-29), 3) := zrD zrw_cX11_undo_32 (i := 18) (by decide +kernel) rfl
theorem dX11_undo_53 : decode cX11_undo 53 = .ok (.iconst 1, 1) := zrD zrw_cX11_undo_32 (i := 21) (by decide +kernel) rfl
theorem dX11_undo_54 : decode cX11_undo 54 = .ok (.ireturn, 1) := zrD zrw_cX11_undo_32 (i := 22) (by decide +kernel) rfl
def zrk_cX11_agree_0 : ByteArray := .mk #[27, 184, 1, 152, 154, 0, 5, 2, 172, 42, 182, 1, 155, 3, 61, 3, 62, 29, 27, 162, 0, 48, 42, 3, 182, 1, 118, 54, 4, 21, 4]
theorem zrw_cX11_agree_0 : zrW 0 cX11_agree zrk_cX11_agree_0 := by unfold zrW; decide +kernel
theorem dX11_agree_0 : decode cX11_agree 0 = .ok (.iload_n 1, 1) := zrD zrw_cX11_agree_0 (i := 0) (by decide +kernel) rfl
theorem dX11_agree_1 : decode cX11_agree 1 = .ok (.invokestatic 408, 3) := zrD zrw_cX11_agree_0 (i := 1) (by decide +kernel) rfl
theorem dX11_agree_4 : decode cX11_agree 4 = .ok (.ifCond .ne 5, 3) := zrD zrw_cX11_agree_0 (i := 4) (by decide +kernel) rfl
theorem dX11_agree_7 : decode cX11_agree 7 = .ok (.iconst (-1), 1) := zrD zrw_cX11_agree_0 (i := 7) (by decide +kernel) rfl
theorem dX11_agree_8 : decode cX11_agree 8 = .ok (.ireturn, 1) := zrD zrw_cX11_agree_0 (i := 8) (by decide +kernel) rfl
theorem dX11_agree_9 : decode cX11_agree 9 = .ok (.aload_n 0, 1) := zrD zrw_cX11_agree_0 (i := 9) (by decide +kernel) rfl
theorem dX11_agree_10 : decode cX11_agree 10 = .ok (.invokevirtual 411, 3) := zrD zrw_cX11_agree_0 (i := 10) (by decide +kernel) rfl
theorem dX11_agree_13 : decode cX11_agree 13 = .ok (.iconst 0, 1) := zrD zrw_cX11_agree_0 (i := 13) (by decide +kernel) rfl
theorem dX11_agree_14 : decode cX11_agree 14 = .ok (.istore_n 2, 1) := zrD zrw_cX11_agree_0 (i := 14) (by decide +kernel) rfl
theorem dX11_agree_15 : decode cX11_agree 15 = .ok (.iconst 0, 1) := zrD zrw_cX11_agree_0 (i := 15) (by decide +kernel) rfl
theorem dX11_agree_16 : decode cX11_agree 16 = .ok (.istore_n 3, 1) := zrD zrw_cX11_agree_0 (i := 16) (by decide +kernel) rfl
theorem dX11_agree_17 : decode cX11_agree 17 = .ok (.iload_n 3, 1) := zrD zrw_cX11_agree_0 (i := 17) (by decide +kernel) rfl
theorem dX11_agree_18 : decode cX11_agree 18 = .ok (.iload_n 1, 1) := zrD zrw_cX11_agree_0 (i := 18) (by decide +kernel) rfl
theorem dX11_agree_19 : decode cX11_agree 19 = .ok (.if_icmp .ge 48, 3) := zrD zrw_cX11_agree_0 (i := 19) (by decide +kernel) rfl
theorem dX11_agree_22 : decode cX11_agree 22 = .ok (.aload_n 0, 1) := zrD zrw_cX11_agree_0 (i := 22) (by decide +kernel) rfl
theorem dX11_agree_23 : decode cX11_agree 23 = .ok (.iconst 0, 1) := zrD zrw_cX11_agree_0 (i := 23) (by decide +kernel) rfl
theorem dX11_agree_24 : decode cX11_agree 24 = .ok (.invokevirtual 374, 3) := zrD zrw_cX11_agree_0 (i := 24) (by decide +kernel) rfl
theorem dX11_agree_27 : decode cX11_agree 27 = .ok (.istore 4, 2) := zrD zrw_cX11_agree_0 (i := 27) (by decide +kernel) rfl
theorem dX11_agree_29 : decode cX11_agree 29 = .ok (.iload 4, 2) := zrD zrw_cX11_agree_0 (i := 29) (by decide +kernel) rfl
def zrk_cX11_agree_31 : ByteArray := .mk #[155, 0, 26, 42, 4, 182, 1, 118, 21, 4, 160, 0, 16, 42, 5, 182, 1, 118, 21, 4, 160, 0, 6, 132, 2, 1, 42, 182, 1, 124]
theorem zrw_cX11_agree_31 : zrW 31 cX11_agree zrk_cX11_agree_31 := by unfold zrW; decide +kernel
theorem dX11_agree_31 : decode cX11_agree 31 = .ok (.ifCond .lt 26, 3) := zrD zrw_cX11_agree_31 (i := 0) (by decide +kernel) rfl
theorem dX11_agree_34 : decode cX11_agree 34 = .ok (.aload_n 0, 1) := zrD zrw_cX11_agree_31 (i := 3) (by decide +kernel) rfl
theorem dX11_agree_35 : decode cX11_agree 35 = .ok (.iconst 1, 1) := zrD zrw_cX11_agree_31 (i := 4) (by decide +kernel) rfl
theorem dX11_agree_36 : decode cX11_agree 36 = .ok (.invokevirtual 374, 3) := zrD zrw_cX11_agree_31 (i := 5) (by decide +kernel) rfl
theorem dX11_agree_39 : decode cX11_agree 39 = .ok (.iload 4, 2) := zrD zrw_cX11_agree_31 (i := 8) (by decide +kernel) rfl
theorem dX11_agree_41 : decode cX11_agree 41 = .ok (.if_icmp .ne 16, 3) := zrD zrw_cX11_agree_31 (i := 10) (by decide +kernel) rfl
theorem dX11_agree_44 : decode cX11_agree 44 = .ok (.aload_n 0, 1) := zrD zrw_cX11_agree_31 (i := 13) (by decide +kernel) rfl
theorem dX11_agree_45 : decode cX11_agree 45 = .ok (.iconst 2, 1) := zrD zrw_cX11_agree_31 (i := 14) (by decide +kernel) rfl
theorem dX11_agree_46 : decode cX11_agree 46 = .ok (.invokevirtual 374, 3) := zrD zrw_cX11_agree_31 (i := 15) (by decide +kernel) rfl
theorem dX11_agree_49 : decode cX11_agree 49 = .ok (.iload 4, 2) := zrD zrw_cX11_agree_31 (i := 18) (by decide +kernel) rfl
theorem dX11_agree_51 : decode cX11_agree 51 = .ok (.if_icmp .ne 6, 3) := zrD zrw_cX11_agree_31 (i := 20) (by decide +kernel) rfl
theorem dX11_agree_54 : decode cX11_agree 54 = .ok (.iinc 2 1, 3) := zrD zrw_cX11_agree_31 (i := 23) (by decide +kernel) rfl
theorem dX11_agree_57 : decode cX11_agree 57 = .ok (.aload_n 0, 1) := zrD zrw_cX11_agree_31 (i := 26) (by decide +kernel) rfl
theorem dX11_agree_58 : decode cX11_agree 58 = .ok (.invokevirtual 380, 3) := zrD zrw_cX11_agree_31 (i := 27) (by decide +kernel) rfl
def zrk_cX11_agree_61 : ByteArray := .mk #[132, 3, 1, 167, 255, 209, 28, 172]
theorem zrw_cX11_agree_61 : zrW 61 cX11_agree zrk_cX11_agree_61 := by unfold zrW; decide +kernel
theorem dX11_agree_61 : decode cX11_agree 61 = .ok (.iinc 3 1, 3) := zrD zrw_cX11_agree_61 (i := 0) (by decide +kernel) rfl
theorem dX11_agree_64 : decode cX11_agree 64 = .ok (.goto (-47), 3) := zrD zrw_cX11_agree_61 (i := 3) (by decide +kernel) rfl
theorem dX11_agree_67 : decode cX11_agree 67 = .ok (.iload_n 2, 1) := zrD zrw_cX11_agree_61 (i := 6) (by decide +kernel) rfl
theorem dX11_agree_68 : decode cX11_agree 68 = .ok (.ireturn, 1) := zrD zrw_cX11_agree_61 (i := 7) (by decide +kernel) rfl
def zrk_cX11_behind_0 : ByteArray := .mk #[42, 27, 28, 182, 1, 133, 154, 0, 5, 2, 172, 42, 42, 28, 182, 1, 118, 28, 182, 1, 111, 42, 27, 28, 182, 1, 111, 100, 172]
theorem zrw_cX11_behind_0 : zrW 0 cX11_behind zrk_cX11_behind_0 := by unfold zrW; decide +kernel
theorem dX11_behind_0 : decode cX11_behind 0 = .ok (.aload_n 0, 1) := zrD zrw_cX11_behind_0 (i := 0) (by decide +kernel) rfl
theorem dX11_behind_1 : decode cX11_behind 1 = .ok (.iload_n 1, 1) := zrD zrw_cX11_behind_0 (i := 1) (by decide +kernel) rfl
theorem dX11_behind_2 : decode cX11_behind 2 = .ok (.iload_n 2, 1) := zrD zrw_cX11_behind_0 (i := 2) (by decide +kernel) rfl
theorem dX11_behind_3 : decode cX11_behind 3 = .ok (.invokevirtual 389, 3) := zrD zrw_cX11_behind_0 (i := 3) (by decide +kernel) rfl
theorem dX11_behind_6 : decode cX11_behind 6 = .ok (.ifCond .ne 5, 3) := zrD zrw_cX11_behind_0 (i := 6) (by decide +kernel) rfl
theorem dX11_behind_9 : decode cX11_behind 9 = .ok (.iconst (-1), 1) := zrD zrw_cX11_behind_0 (i := 9) (by decide +kernel) rfl
theorem dX11_behind_10 : decode cX11_behind 10 = .ok (.ireturn, 1) := zrD zrw_cX11_behind_0 (i := 10) (by decide +kernel) rfl
theorem dX11_behind_11 : decode cX11_behind 11 = .ok (.aload_n 0, 1) := zrD zrw_cX11_behind_0 (i := 11) (by decide +kernel) rfl
theorem dX11_behind_12 : decode cX11_behind 12 = .ok (.aload_n 0, 1) := zrD zrw_cX11_behind_0 (i := 12) (by decide +kernel) rfl
theorem dX11_behind_13 : decode cX11_behind 13 = .ok (.iload_n 2, 1) := zrD zrw_cX11_behind_0 (i := 13) (by decide +kernel) rfl
theorem dX11_behind_14 : decode cX11_behind 14 = .ok (.invokevirtual 374, 3) := zrD zrw_cX11_behind_0 (i := 14) (by decide +kernel) rfl
theorem dX11_behind_17 : decode cX11_behind 17 = .ok (.iload_n 2, 1) := zrD zrw_cX11_behind_0 (i := 17) (by decide +kernel) rfl
theorem dX11_behind_18 : decode cX11_behind 18 = .ok (.invokevirtual 367, 3) := zrD zrw_cX11_behind_0 (i := 18) (by decide +kernel) rfl
theorem dX11_behind_21 : decode cX11_behind 21 = .ok (.aload_n 0, 1) := zrD zrw_cX11_behind_0 (i := 21) (by decide +kernel) rfl
theorem dX11_behind_22 : decode cX11_behind 22 = .ok (.iload_n 1, 1) := zrD zrw_cX11_behind_0 (i := 22) (by decide +kernel) rfl
theorem dX11_behind_23 : decode cX11_behind 23 = .ok (.iload_n 2, 1) := zrD zrw_cX11_behind_0 (i := 23) (by decide +kernel) rfl
theorem dX11_behind_24 : decode cX11_behind 24 = .ok (.invokevirtual 367, 3) := zrD zrw_cX11_behind_0 (i := 24) (by decide +kernel) rfl
theorem dX11_behind_27 : decode cX11_behind 27 = .ok (.isub, 1) := zrD zrw_cX11_behind_0 (i := 27) (by decide +kernel) rfl
theorem dX11_behind_28 : decode cX11_behind 28 = .ok (.ireturn, 1) := zrD zrw_cX11_behind_0 (i := 28) (by decide +kernel) rfl
def zrk_cX11_margin_0 : ByteArray := .mk #[27, 184, 1, 130, 154, 0, 5, 2, 172, 42, 182, 1, 76, 42, 27, 182, 1, 118, 61, 16, 254, 62, 4, 54, 4, 21, 4, 42, 182, 1, 57]
theorem zrw_cX11_margin_0 : zrW 0 cX11_margin zrk_cX11_margin_0 := by unfold zrW; decide +kernel
theorem dX11_margin_0 : decode cX11_margin 0 = .ok (.iload_n 1, 1) := zrD zrw_cX11_margin_0 (i := 0) (by decide +kernel) rfl
theorem dX11_margin_1 : decode cX11_margin 1 = .ok (.invokestatic 386, 3) := zrD zrw_cX11_margin_0 (i := 1) (by decide +kernel) rfl
theorem dX11_margin_4 : decode cX11_margin 4 = .ok (.ifCond .ne 5, 3) := zrD zrw_cX11_margin_0 (i := 4) (by decide +kernel) rfl
theorem dX11_margin_7 : decode cX11_margin 7 = .ok (.iconst (-1), 1) := zrD zrw_cX11_margin_0 (i := 7) (by decide +kernel) rfl
theorem dX11_margin_8 : decode cX11_margin 8 = .ok (.ireturn, 1) := zrD zrw_cX11_margin_0 (i := 8) (by decide +kernel) rfl
theorem dX11_margin_9 : decode cX11_margin 9 = .ok (.aload_n 0, 1) := zrD zrw_cX11_margin_0 (i := 9) (by decide +kernel) rfl
theorem dX11_margin_10 : decode cX11_margin 10 = .ok (.invokevirtual 332, 3) := zrD zrw_cX11_margin_0 (i := 10) (by decide +kernel) rfl
theorem dX11_margin_13 : decode cX11_margin 13 = .ok (.aload_n 0, 1) := zrD zrw_cX11_margin_0 (i := 13) (by decide +kernel) rfl
theorem dX11_margin_14 : decode cX11_margin 14 = .ok (.iload_n 1, 1) := zrD zrw_cX11_margin_0 (i := 14) (by decide +kernel) rfl
theorem dX11_margin_15 : decode cX11_margin 15 = .ok (.invokevirtual 374, 3) := zrD zrw_cX11_margin_0 (i := 15) (by decide +kernel) rfl
theorem dX11_margin_18 : decode cX11_margin 18 = .ok (.istore_n 2, 1) := zrD zrw_cX11_margin_0 (i := 18) (by decide +kernel) rfl
theorem dX11_margin_19 : decode cX11_margin 19 = .ok (.bipush (-2), 2) := zrD zrw_cX11_margin_0 (i := 19) (by decide +kernel) rfl
theorem dX11_margin_21 : decode cX11_margin 21 = .ok (.istore_n 3, 1) := zrD zrw_cX11_margin_0 (i := 21) (by decide +kernel) rfl
theorem dX11_margin_22 : decode cX11_margin 22 = .ok (.iconst 1, 1) := zrD zrw_cX11_margin_0 (i := 22) (by decide +kernel) rfl
theorem dX11_margin_23 : decode cX11_margin 23 = .ok (.istore 4, 2) := zrD zrw_cX11_margin_0 (i := 23) (by decide +kernel) rfl
theorem dX11_margin_25 : decode cX11_margin 25 = .ok (.iload 4, 2) := zrD zrw_cX11_margin_0 (i := 25) (by decide +kernel) rfl
theorem dX11_margin_27 : decode cX11_margin 27 = .ok (.aload_n 0, 1) := zrD zrw_cX11_margin_0 (i := 27) (by decide +kernel) rfl
theorem dX11_margin_28 : decode cX11_margin 28 = .ok (.invokevirtual 313, 3) := zrD zrw_cX11_margin_0 (i := 28) (by decide +kernel) rfl
def zrk_cX11_margin_31 : ByteArray := .mk #[162, 0, 43, 21, 4, 28, 159, 0, 31, 42, 21, 4, 182, 1, 86, 153, 0, 22, 42, 21, 4, 27, 182, 1, 111, 29, 164, 0, 11, 42, 21, 4]
theorem zrw_cX11_margin_31 : zrW 31 cX11_margin zrk_cX11_margin_31 := by unfold zrW; decide +kernel
theorem dX11_margin_31 : decode cX11_margin 31 = .ok (.if_icmp .ge 43, 3) := zrD zrw_cX11_margin_31 (i := 0) (by decide +kernel) rfl
theorem dX11_margin_34 : decode cX11_margin 34 = .ok (.iload 4, 2) := zrD zrw_cX11_margin_31 (i := 3) (by decide +kernel) rfl
theorem dX11_margin_36 : decode cX11_margin 36 = .ok (.iload_n 2, 1) := zrD zrw_cX11_margin_31 (i := 5) (by decide +kernel) rfl
theorem dX11_margin_37 : decode cX11_margin 37 = .ok (.if_icmp .eq 31, 3) := zrD zrw_cX11_margin_31 (i := 6) (by decide +kernel) rfl
theorem dX11_margin_40 : decode cX11_margin 40 = .ok (.aload_n 0, 1) := zrD zrw_cX11_margin_31 (i := 9) (by decide +kernel) rfl
theorem dX11_margin_41 : decode cX11_margin 41 = .ok (.iload 4, 2) := zrD zrw_cX11_margin_31 (i := 10) (by decide +kernel) rfl
theorem dX11_margin_43 : decode cX11_margin 43 = .ok (.invokevirtual 342, 3) := zrD zrw_cX11_margin_31 (i := 12) (by decide +kernel) rfl
theorem dX11_margin_46 : decode cX11_margin 46 = .ok (.ifCond .eq 22, 3) := zrD zrw_cX11_margin_31 (i := 15) (by decide +kernel) rfl
theorem dX11_margin_49 : decode cX11_margin 49 = .ok (.aload_n 0, 1) := zrD zrw_cX11_margin_31 (i := 18) (by decide +kernel) rfl
theorem dX11_margin_50 : decode cX11_margin 50 = .ok (.iload 4, 2) := zrD zrw_cX11_margin_31 (i := 19) (by decide +kernel) rfl
theorem dX11_margin_52 : decode cX11_margin 52 = .ok (.iload_n 1, 1) := zrD zrw_cX11_margin_31 (i := 21) (by decide +kernel) rfl
theorem dX11_margin_53 : decode cX11_margin 53 = .ok (.invokevirtual 367, 3) := zrD zrw_cX11_margin_31 (i := 22) (by decide +kernel) rfl
theorem dX11_margin_56 : decode cX11_margin 56 = .ok (.iload_n 3, 1) := zrD zrw_cX11_margin_31 (i := 25) (by decide +kernel) rfl
theorem dX11_margin_57 : decode cX11_margin 57 = .ok (.if_icmp .le 11, 3) := zrD zrw_cX11_margin_31 (i := 26) (by decide +kernel) rfl
theorem dX11_margin_60 : decode cX11_margin 60 = .ok (.aload_n 0, 1) := zrD zrw_cX11_margin_31 (i := 29) (by decide +kernel) rfl
theorem dX11_margin_61 : decode cX11_margin 61 = .ok (.iload 4, 2) := zrD zrw_cX11_margin_31 (i := 30) (by decide +kernel) rfl
def zrk_cX11_margin_63 : ByteArray := .mk #[27, 182, 1, 111, 62, 132, 4, 1, 167, 255, 210, 29, 156, 0, 8, 16, 254, 167, 0, 11, 42, 28, 27, 182, 1, 111, 29, 100, 172]
theorem zrw_cX11_margin_63 : zrW 63 cX11_margin zrk_cX11_margin_63 := by unfold zrW; decide +kernel
theorem dX11_margin_63 : decode cX11_margin 63 = .ok (.iload_n 1, 1) := zrD zrw_cX11_margin_63 (i := 0) (by decide +kernel) rfl
theorem dX11_margin_64 : decode cX11_margin 64 = .ok (.invokevirtual 367, 3) := zrD zrw_cX11_margin_63 (i := 1) (by decide +kernel) rfl
theorem dX11_margin_67 : decode cX11_margin 67 = .ok (.istore_n 3, 1) := zrD zrw_cX11_margin_63 (i := 4) (by decide +kernel) rfl
theorem dX11_margin_68 : decode cX11_margin 68 = .ok (.iinc 4 1, 3) := zrD zrw_cX11_margin_63 (i := 5) (by decide +kernel) rfl
theorem dX11_margin_71 : decode cX11_margin 71 = .ok (.goto (-46), 3) := zrD zrw_cX11_margin_63 (i := 8) (by decide +kernel) rfl
theorem dX11_margin_74 : decode cX11_margin 74 = .ok (.iload_n 3, 1) := zrD zrw_cX11_margin_63 (i := 11) (by decide +kernel) rfl
theorem dX11_margin_75 : decode cX11_margin 75 = .ok (.ifCond .ge 8, 3) := zrD zrw_cX11_margin_63 (i := 12) (by decide +kernel) rfl
theorem dX11_margin_78 : decode cX11_margin 78 = .ok (.bipush (-2), 2) := zrD zrw_cX11_margin_63 (i := 15) (by decide +kernel) rfl
theorem dX11_margin_80 : decode cX11_margin 80 = .ok (.goto 11, 3) := zrD zrw_cX11_margin_63 (i := 17) (by decide +kernel) rfl
theorem dX11_margin_83 : decode cX11_margin 83 = .ok (.aload_n 0, 1) := zrD zrw_cX11_margin_63 (i := 20) (by decide +kernel) rfl
theorem dX11_margin_84 : decode cX11_margin 84 = .ok (.iload_n 2, 1) := zrD zrw_cX11_margin_63 (i := 21) (by decide +kernel) rfl
theorem dX11_margin_85 : decode cX11_margin 85 = .ok (.iload_n 1, 1) := zrD zrw_cX11_margin_63 (i := 22) (by decide +kernel) rfl
theorem dX11_margin_86 : decode cX11_margin 86 = .ok (.invokevirtual 367, 3) := zrD zrw_cX11_margin_63 (i := 23) (by decide +kernel) rfl
theorem dX11_margin_89 : decode cX11_margin 89 = .ok (.iload_n 3, 1) := zrD zrw_cX11_margin_63 (i := 26) (by decide +kernel) rfl
theorem dX11_margin_90 : decode cX11_margin 90 = .ok (.isub, 1) := zrD zrw_cX11_margin_63 (i := 27) (by decide +kernel) rfl
theorem dX11_margin_91 : decode cX11_margin 91 = .ok (.ireturn, 1) := zrD zrw_cX11_margin_63 (i := 28) (by decide +kernel) rfl
def zrk_cX11_richest_0 : ByteArray := .mk #[27, 3, 4, 184, 1, 60, 154, 0, 5, 2, 172, 16, 254, 61, 4, 62, 29, 42, 182, 1, 57, 162, 0, 40, 42, 180, 0, 107, 16, 36, 29, 96]
theorem zrw_cX11_richest_0 : zrW 0 cX11_richest zrk_cX11_richest_0 := by unfold zrW; decide +kernel
theorem dX11_richest_0 : decode cX11_richest 0 = .ok (.iload_n 1, 1) := zrD zrw_cX11_richest_0 (i := 0) (by decide +kernel) rfl
theorem dX11_richest_1 : decode cX11_richest 1 = .ok (.iconst 0, 1) := zrD zrw_cX11_richest_0 (i := 1) (by decide +kernel) rfl
theorem dX11_richest_2 : decode cX11_richest 2 = .ok (.iconst 1, 1) := zrD zrw_cX11_richest_0 (i := 2) (by decide +kernel) rfl
theorem dX11_richest_3 : decode cX11_richest 3 = .ok (.invokestatic 316, 3) := zrD zrw_cX11_richest_0 (i := 3) (by decide +kernel) rfl
theorem dX11_richest_6 : decode cX11_richest 6 = .ok (.ifCond .ne 5, 3) := zrD zrw_cX11_richest_0 (i := 6) (by decide +kernel) rfl
theorem dX11_richest_9 : decode cX11_richest 9 = .ok (.iconst (-1), 1) := zrD zrw_cX11_richest_0 (i := 9) (by decide +kernel) rfl
theorem dX11_richest_10 : decode cX11_richest 10 = .ok (.ireturn, 1) := zrD zrw_cX11_richest_0 (i := 10) (by decide +kernel) rfl
theorem dX11_richest_11 : decode cX11_richest 11 = .ok (.bipush (-2), 2) := zrD zrw_cX11_richest_0 (i := 11) (by decide +kernel) rfl
theorem dX11_richest_13 : decode cX11_richest 13 = .ok (.istore_n 2, 1) := zrD zrw_cX11_richest_0 (i := 13) (by decide +kernel) rfl
theorem dX11_richest_14 : decode cX11_richest 14 = .ok (.iconst 1, 1) := zrD zrw_cX11_richest_0 (i := 14) (by decide +kernel) rfl
theorem dX11_richest_15 : decode cX11_richest 15 = .ok (.istore_n 3, 1) := zrD zrw_cX11_richest_0 (i := 15) (by decide +kernel) rfl
theorem dX11_richest_16 : decode cX11_richest 16 = .ok (.iload_n 3, 1) := zrD zrw_cX11_richest_0 (i := 16) (by decide +kernel) rfl
theorem dX11_richest_17 : decode cX11_richest 17 = .ok (.aload_n 0, 1) := zrD zrw_cX11_richest_0 (i := 17) (by decide +kernel) rfl
theorem dX11_richest_18 : decode cX11_richest 18 = .ok (.invokevirtual 313, 3) := zrD zrw_cX11_richest_0 (i := 18) (by decide +kernel) rfl
theorem dX11_richest_21 : decode cX11_richest 21 = .ok (.if_icmp .ge 40, 3) := zrD zrw_cX11_richest_0 (i := 21) (by decide +kernel) rfl
theorem dX11_richest_24 : decode cX11_richest 24 = .ok (.aload_n 0, 1) := zrD zrw_cX11_richest_0 (i := 24) (by decide +kernel) rfl
theorem dX11_richest_25 : decode cX11_richest 25 = .ok (.getfield 107, 3) := zrD zrw_cX11_richest_0 (i := 25) (by decide +kernel) rfl
theorem dX11_richest_28 : decode cX11_richest 28 = .ok (.bipush 36, 2) := zrD zrw_cX11_richest_0 (i := 28) (by decide +kernel) rfl
theorem dX11_richest_30 : decode cX11_richest 30 = .ok (.iload_n 3, 1) := zrD zrw_cX11_richest_0 (i := 30) (by decide +kernel) rfl
theorem dX11_richest_31 : decode cX11_richest 31 = .ok (.iadd, 1) := zrD zrw_cX11_richest_0 (i := 31) (by decide +kernel) rfl
def zrk_cX11_richest_32 : ByteArray := .mk #[46, 28, 156, 0, 7, 3, 167, 0, 12, 42, 180, 0, 107, 16, 36, 28, 96, 46, 164, 0, 5, 29, 61, 132, 3, 1, 167, 255, 214, 28]
theorem zrw_cX11_richest_32 : zrW 32 cX11_richest zrk_cX11_richest_32 := by unfold zrW; decide +kernel
theorem dX11_richest_32 : decode cX11_richest 32 = .ok (.iaload, 1) := zrD zrw_cX11_richest_32 (i := 0) (by decide +kernel) rfl
theorem dX11_richest_33 : decode cX11_richest 33 = .ok (.iload_n 2, 1) := zrD zrw_cX11_richest_32 (i := 1) (by decide +kernel) rfl
theorem dX11_richest_34 : decode cX11_richest 34 = .ok (.ifCond .ge 7, 3) := zrD zrw_cX11_richest_32 (i := 2) (by decide +kernel) rfl
theorem dX11_richest_37 : decode cX11_richest 37 = .ok (.iconst 0, 1) := zrD zrw_cX11_richest_32 (i := 5) (by decide +kernel) rfl
theorem dX11_richest_38 : decode cX11_richest 38 = .ok (.goto 12, 3) := zrD zrw_cX11_richest_32 (i := 6) (by decide +kernel) rfl
theorem dX11_richest_41 : decode cX11_richest 41 = .ok (.aload_n 0, 1) := zrD zrw_cX11_richest_32 (i := 9) (by decide +kernel) rfl
theorem dX11_richest_42 : decode cX11_richest 42 = .ok (.getfield 107, 3) := zrD zrw_cX11_richest_32 (i := 10) (by decide +kernel) rfl
theorem dX11_richest_45 : decode cX11_richest 45 = .ok (.bipush 36, 2) := zrD zrw_cX11_richest_32 (i := 13) (by decide +kernel) rfl
theorem dX11_richest_47 : decode cX11_richest 47 = .ok (.iload_n 2, 1) := zrD zrw_cX11_richest_32 (i := 15) (by decide +kernel) rfl
theorem dX11_richest_48 : decode cX11_richest 48 = .ok (.iadd, 1) := zrD zrw_cX11_richest_32 (i := 16) (by decide +kernel) rfl
theorem dX11_richest_49 : decode cX11_richest 49 = .ok (.iaload, 1) := zrD zrw_cX11_richest_32 (i := 17) (by decide +kernel) rfl
theorem dX11_richest_50 : decode cX11_richest 50 = .ok (.if_icmp .le 5, 3) := zrD zrw_cX11_richest_32 (i := 18) (by decide +kernel) rfl
theorem dX11_richest_53 : decode cX11_richest 53 = .ok (.iload_n 3, 1) := zrD zrw_cX11_richest_32 (i := 21) (by decide +kernel) rfl
theorem dX11_richest_54 : decode cX11_richest 54 = .ok (.istore_n 2, 1) := zrD zrw_cX11_richest_32 (i := 22) (by decide +kernel) rfl
theorem dX11_richest_55 : decode cX11_richest 55 = .ok (.iinc 3 1, 3) := zrD zrw_cX11_richest_32 (i := 23) (by decide +kernel) rfl
theorem dX11_richest_58 : decode cX11_richest 58 = .ok (.goto (-42), 3) := zrD zrw_cX11_richest_32 (i := 26) (by decide +kernel) rfl
theorem dX11_richest_61 : decode cX11_richest 61 = .ok (.iload_n 2, 1) := zrD zrw_cX11_richest_32 (i := 29) (by decide +kernel) rfl
def zrk_cX11_richest_62 : ByteArray := .mk #[155, 0, 7, 27, 154, 0, 7, 28, 167, 0, 12, 42, 180, 0, 107, 16, 36, 28, 96, 46, 172]
theorem zrw_cX11_richest_62 : zrW 62 cX11_richest zrk_cX11_richest_62 := by unfold zrW; decide +kernel
theorem dX11_richest_62 : decode cX11_richest 62 = .ok (.ifCond .lt 7, 3) := zrD zrw_cX11_richest_62 (i := 0) (by decide +kernel) rfl
theorem dX11_richest_65 : decode cX11_richest 65 = .ok (.iload_n 1, 1) := zrD zrw_cX11_richest_62 (i := 3) (by decide +kernel) rfl
theorem dX11_richest_66 : decode cX11_richest 66 = .ok (.ifCond .ne 7, 3) := zrD zrw_cX11_richest_62 (i := 4) (by decide +kernel) rfl
theorem dX11_richest_69 : decode cX11_richest 69 = .ok (.iload_n 2, 1) := zrD zrw_cX11_richest_62 (i := 7) (by decide +kernel) rfl
theorem dX11_richest_70 : decode cX11_richest 70 = .ok (.goto 12, 3) := zrD zrw_cX11_richest_62 (i := 8) (by decide +kernel) rfl
theorem dX11_richest_73 : decode cX11_richest 73 = .ok (.aload_n 0, 1) := zrD zrw_cX11_richest_62 (i := 11) (by decide +kernel) rfl
theorem dX11_richest_74 : decode cX11_richest 74 = .ok (.getfield 107, 3) := zrD zrw_cX11_richest_62 (i := 12) (by decide +kernel) rfl
theorem dX11_richest_77 : decode cX11_richest 77 = .ok (.bipush 36, 2) := zrD zrw_cX11_richest_62 (i := 15) (by decide +kernel) rfl
theorem dX11_richest_79 : decode cX11_richest 79 = .ok (.iload_n 2, 1) := zrD zrw_cX11_richest_62 (i := 17) (by decide +kernel) rfl
theorem dX11_richest_80 : decode cX11_richest 80 = .ok (.iadd, 1) := zrD zrw_cX11_richest_62 (i := 18) (by decide +kernel) rfl
theorem dX11_richest_81 : decode cX11_richest 81 = .ok (.iaload, 1) := zrD zrw_cX11_richest_62 (i := 19) (by decide +kernel) rfl
theorem dX11_richest_82 : decode cX11_richest 82 = .ok (.ireturn, 1) := zrD zrw_cX11_richest_62 (i := 20) (by decide +kernel) rfl
def zrk_cX11_rankOf_0 : ByteArray := .mk #[3, 62, 42, 27, 28, 182, 1, 111, 54, 4, 4, 54, 5, 21, 5, 42, 182, 1, 57, 162, 0, 59, 21, 5, 27, 159, 0, 47, 42, 21, 5]
theorem zrw_cX11_rankOf_0 : zrW 0 cX11_rankOf zrk_cX11_rankOf_0 := by unfold zrW; decide +kernel
theorem dX11_rankOf_0 : decode cX11_rankOf 0 = .ok (.iconst 0, 1) := zrD zrw_cX11_rankOf_0 (i := 0) (by decide +kernel) rfl
theorem dX11_rankOf_1 : decode cX11_rankOf 1 = .ok (.istore_n 3, 1) := zrD zrw_cX11_rankOf_0 (i := 1) (by decide +kernel) rfl
theorem dX11_rankOf_2 : decode cX11_rankOf 2 = .ok (.aload_n 0, 1) := zrD zrw_cX11_rankOf_0 (i := 2) (by decide +kernel) rfl
theorem dX11_rankOf_3 : decode cX11_rankOf 3 = .ok (.iload_n 1, 1) := zrD zrw_cX11_rankOf_0 (i := 3) (by decide +kernel) rfl
theorem dX11_rankOf_4 : decode cX11_rankOf 4 = .ok (.iload_n 2, 1) := zrD zrw_cX11_rankOf_0 (i := 4) (by decide +kernel) rfl
theorem dX11_rankOf_5 : decode cX11_rankOf 5 = .ok (.invokevirtual 367, 3) := zrD zrw_cX11_rankOf_0 (i := 5) (by decide +kernel) rfl
theorem dX11_rankOf_8 : decode cX11_rankOf 8 = .ok (.istore 4, 2) := zrD zrw_cX11_rankOf_0 (i := 8) (by decide +kernel) rfl
theorem dX11_rankOf_10 : decode cX11_rankOf 10 = .ok (.iconst 1, 1) := zrD zrw_cX11_rankOf_0 (i := 10) (by decide +kernel) rfl
theorem dX11_rankOf_11 : decode cX11_rankOf 11 = .ok (.istore 5, 2) := zrD zrw_cX11_rankOf_0 (i := 11) (by decide +kernel) rfl
theorem dX11_rankOf_13 : decode cX11_rankOf 13 = .ok (.iload 5, 2) := zrD zrw_cX11_rankOf_0 (i := 13) (by decide +kernel) rfl
theorem dX11_rankOf_15 : decode cX11_rankOf 15 = .ok (.aload_n 0, 1) := zrD zrw_cX11_rankOf_0 (i := 15) (by decide +kernel) rfl
theorem dX11_rankOf_16 : decode cX11_rankOf 16 = .ok (.invokevirtual 313, 3) := zrD zrw_cX11_rankOf_0 (i := 16) (by decide +kernel) rfl
theorem dX11_rankOf_19 : decode cX11_rankOf 19 = .ok (.if_icmp .ge 59, 3) := zrD zrw_cX11_rankOf_0 (i := 19) (by decide +kernel) rfl
theorem dX11_rankOf_22 : decode cX11_rankOf 22 = .ok (.iload 5, 2) := zrD zrw_cX11_rankOf_0 (i := 22) (by decide +kernel) rfl
theorem dX11_rankOf_24 : decode cX11_rankOf 24 = .ok (.iload_n 1, 1) := zrD zrw_cX11_rankOf_0 (i := 24) (by decide +kernel) rfl
theorem dX11_rankOf_25 : decode cX11_rankOf 25 = .ok (.if_icmp .eq 47, 3) := zrD zrw_cX11_rankOf_0 (i := 25) (by decide +kernel) rfl
theorem dX11_rankOf_28 : decode cX11_rankOf 28 = .ok (.aload_n 0, 1) := zrD zrw_cX11_rankOf_0 (i := 28) (by decide +kernel) rfl
theorem dX11_rankOf_29 : decode cX11_rankOf 29 = .ok (.iload 5, 2) := zrD zrw_cX11_rankOf_0 (i := 29) (by decide +kernel) rfl
def zrk_cX11_rankOf_31 : ByteArray := .mk #[182, 1, 86, 154, 0, 6, 167, 0, 35, 42, 21, 5, 28, 182, 1, 111, 54, 6, 21, 6, 21, 4, 163, 0, 16, 21, 6, 21, 4, 160, 0, 12]
theorem zrw_cX11_rankOf_31 : zrW 31 cX11_rankOf zrk_cX11_rankOf_31 := by unfold zrW; decide +kernel
theorem dX11_rankOf_31 : decode cX11_rankOf 31 = .ok (.invokevirtual 342, 3) := zrD zrw_cX11_rankOf_31 (i := 0) (by decide +kernel) rfl
theorem dX11_rankOf_34 : decode cX11_rankOf 34 = .ok (.ifCond .ne 6, 3) := zrD zrw_cX11_rankOf_31 (i := 3) (by decide +kernel) rfl
theorem dX11_rankOf_37 : decode cX11_rankOf 37 = .ok (.goto 35, 3) := zrD zrw_cX11_rankOf_31 (i := 6) (by decide +kernel) rfl
theorem dX11_rankOf_40 : decode cX11_rankOf 40 = .ok (.aload_n 0, 1) := zrD zrw_cX11_rankOf_31 (i := 9) (by decide +kernel) rfl
theorem dX11_rankOf_41 : decode cX11_rankOf 41 = .ok (.iload 5, 2) := zrD zrw_cX11_rankOf_31 (i := 10) (by decide +kernel) rfl
theorem dX11_rankOf_43 : decode cX11_rankOf 43 = .ok (.iload_n 2, 1) := zrD zrw_cX11_rankOf_31 (i := 12) (by decide +kernel) rfl
theorem dX11_rankOf_44 : decode cX11_rankOf 44 = .ok (.invokevirtual 367, 3) := zrD zrw_cX11_rankOf_31 (i := 13) (by decide +kernel) rfl
theorem dX11_rankOf_47 : decode cX11_rankOf 47 = .ok (.istore 6, 2) := zrD zrw_cX11_rankOf_31 (i := 16) (by decide +kernel) rfl
theorem dX11_rankOf_49 : decode cX11_rankOf 49 = .ok (.iload 6, 2) := zrD zrw_cX11_rankOf_31 (i := 18) (by decide +kernel) rfl
theorem dX11_rankOf_51 : decode cX11_rankOf 51 = .ok (.iload 4, 2) := zrD zrw_cX11_rankOf_31 (i := 20) (by decide +kernel) rfl
theorem dX11_rankOf_53 : decode cX11_rankOf 53 = .ok (.if_icmp .gt 16, 3) := zrD zrw_cX11_rankOf_31 (i := 22) (by decide +kernel) rfl
theorem dX11_rankOf_56 : decode cX11_rankOf 56 = .ok (.iload 6, 2) := zrD zrw_cX11_rankOf_31 (i := 25) (by decide +kernel) rfl
theorem dX11_rankOf_58 : decode cX11_rankOf 58 = .ok (.iload 4, 2) := zrD zrw_cX11_rankOf_31 (i := 27) (by decide +kernel) rfl
theorem dX11_rankOf_60 : decode cX11_rankOf 60 = .ok (.if_icmp .ne 12, 3) := zrD zrw_cX11_rankOf_31 (i := 29) (by decide +kernel) rfl
def zrk_cX11_rankOf_63 : ByteArray := .mk #[21, 5, 27, 162, 0, 6, 132, 3, 1, 132, 5, 1, 167, 255, 194, 29, 172]
theorem zrw_cX11_rankOf_63 : zrW 63 cX11_rankOf zrk_cX11_rankOf_63 := by unfold zrW; decide +kernel
theorem dX11_rankOf_63 : decode cX11_rankOf 63 = .ok (.iload 5, 2) := zrD zrw_cX11_rankOf_63 (i := 0) (by decide +kernel) rfl
theorem dX11_rankOf_65 : decode cX11_rankOf 65 = .ok (.iload_n 1, 1) := zrD zrw_cX11_rankOf_63 (i := 2) (by decide +kernel) rfl
theorem dX11_rankOf_66 : decode cX11_rankOf 66 = .ok (.if_icmp .ge 6, 3) := zrD zrw_cX11_rankOf_63 (i := 3) (by decide +kernel) rfl
theorem dX11_rankOf_69 : decode cX11_rankOf 69 = .ok (.iinc 3 1, 3) := zrD zrw_cX11_rankOf_63 (i := 6) (by decide +kernel) rfl
theorem dX11_rankOf_72 : decode cX11_rankOf 72 = .ok (.iinc 5 1, 3) := zrD zrw_cX11_rankOf_63 (i := 9) (by decide +kernel) rfl
theorem dX11_rankOf_75 : decode cX11_rankOf 75 = .ok (.goto (-62), 3) := zrD zrw_cX11_rankOf_63 (i := 12) (by decide +kernel) rfl
theorem dX11_rankOf_78 : decode cX11_rankOf 78 = .ok (.iload_n 3, 1) := zrD zrw_cX11_rankOf_63 (i := 15) (by decide +kernel) rfl
theorem dX11_rankOf_79 : decode cX11_rankOf 79 = .ok (.ireturn, 1) := zrD zrw_cX11_rankOf_63 (i := 16) (by decide +kernel) rfl
def zrk_cX11_rank_0 : ByteArray := .mk #[42, 27, 28, 182, 1, 133, 153, 0, 12, 42, 27, 28, 182, 1, 158, 167, 0, 4, 2, 172]
theorem zrw_cX11_rank_0 : zrW 0 cX11_rank zrk_cX11_rank_0 := by unfold zrW; decide +kernel
theorem dX11_rank_0 : decode cX11_rank 0 = .ok (.aload_n 0, 1) := zrD zrw_cX11_rank_0 (i := 0) (by decide +kernel) rfl
theorem dX11_rank_1 : decode cX11_rank 1 = .ok (.iload_n 1, 1) := zrD zrw_cX11_rank_0 (i := 1) (by decide +kernel) rfl
theorem dX11_rank_2 : decode cX11_rank 2 = .ok (.iload_n 2, 1) := zrD zrw_cX11_rank_0 (i := 2) (by decide +kernel) rfl
theorem dX11_rank_3 : decode cX11_rank 3 = .ok (.invokevirtual 389, 3) := zrD zrw_cX11_rank_0 (i := 3) (by decide +kernel) rfl
theorem dX11_rank_6 : decode cX11_rank 6 = .ok (.ifCond .eq 12, 3) := zrD zrw_cX11_rank_0 (i := 6) (by decide +kernel) rfl
theorem dX11_rank_9 : decode cX11_rank 9 = .ok (.aload_n 0, 1) := zrD zrw_cX11_rank_0 (i := 9) (by decide +kernel) rfl
theorem dX11_rank_10 : decode cX11_rank 10 = .ok (.iload_n 1, 1) := zrD zrw_cX11_rank_0 (i := 10) (by decide +kernel) rfl
theorem dX11_rank_11 : decode cX11_rank 11 = .ok (.iload_n 2, 1) := zrD zrw_cX11_rank_0 (i := 11) (by decide +kernel) rfl
theorem dX11_rank_12 : decode cX11_rank 12 = .ok (.invokevirtual 414, 3) := zrD zrw_cX11_rank_0 (i := 12) (by decide +kernel) rfl
theorem dX11_rank_15 : decode cX11_rank 15 = .ok (.goto 4, 3) := zrD zrw_cX11_rank_0 (i := 15) (by decide +kernel) rfl
theorem dX11_rank_18 : decode cX11_rank 18 = .ok (.iconst (-1), 1) := zrD zrw_cX11_rank_0 (i := 18) (by decide +kernel) rfl
theorem dX11_rank_19 : decode cX11_rank 19 = .ok (.ireturn, 1) := zrD zrw_cX11_rank_0 (i := 19) (by decide +kernel) rfl
def zrk_cX11_vote_0 : ByteArray := .mk #[27, 3, 4, 184, 1, 60, 154, 0, 5, 2, 172, 42, 182, 1, 76, 42, 182, 1, 161, 154, 0, 6, 16, 254, 172, 3, 61, 28, 6, 162, 0, 16]
theorem zrw_cX11_vote_0 : zrW 0 cX11_vote zrk_cX11_vote_0 := by unfold zrW; decide +kernel
theorem dX11_vote_0 : decode cX11_vote 0 = .ok (.iload_n 1, 1) := zrD zrw_cX11_vote_0 (i := 0) (by decide +kernel) rfl
theorem dX11_vote_1 : decode cX11_vote 1 = .ok (.iconst 0, 1) := zrD zrw_cX11_vote_0 (i := 1) (by decide +kernel) rfl
theorem dX11_vote_2 : decode cX11_vote 2 = .ok (.iconst 1, 1) := zrD zrw_cX11_vote_0 (i := 2) (by decide +kernel) rfl
theorem dX11_vote_3 : decode cX11_vote 3 = .ok (.invokestatic 316, 3) := zrD zrw_cX11_vote_0 (i := 3) (by decide +kernel) rfl
theorem dX11_vote_6 : decode cX11_vote 6 = .ok (.ifCond .ne 5, 3) := zrD zrw_cX11_vote_0 (i := 6) (by decide +kernel) rfl
theorem dX11_vote_9 : decode cX11_vote 9 = .ok (.iconst (-1), 1) := zrD zrw_cX11_vote_0 (i := 9) (by decide +kernel) rfl
theorem dX11_vote_10 : decode cX11_vote 10 = .ok (.ireturn, 1) := zrD zrw_cX11_vote_0 (i := 10) (by decide +kernel) rfl
theorem dX11_vote_11 : decode cX11_vote 11 = .ok (.aload_n 0, 1) := zrD zrw_cX11_vote_0 (i := 11) (by decide +kernel) rfl
theorem dX11_vote_12 : decode cX11_vote 12 = .ok (.invokevirtual 332, 3) := zrD zrw_cX11_vote_0 (i := 12) (by decide +kernel) rfl
theorem dX11_vote_15 : decode cX11_vote 15 = .ok (.aload_n 0, 1) := zrD zrw_cX11_vote_0 (i := 15) (by decide +kernel) rfl
theorem dX11_vote_16 : decode cX11_vote 16 = .ok (.invokevirtual 417, 3) := zrD zrw_cX11_vote_0 (i := 16) (by decide +kernel) rfl
theorem dX11_vote_19 : decode cX11_vote 19 = .ok (.ifCond .ne 6, 3) := zrD zrw_cX11_vote_0 (i := 19) (by decide +kernel) rfl
theorem dX11_vote_22 : decode cX11_vote 22 = .ok (.bipush (-2), 2) := zrD zrw_cX11_vote_0 (i := 22) (by decide +kernel) rfl
theorem dX11_vote_24 : decode cX11_vote 24 = .ok (.ireturn, 1) := zrD zrw_cX11_vote_0 (i := 24) (by decide +kernel) rfl
theorem dX11_vote_25 : decode cX11_vote 25 = .ok (.iconst 0, 1) := zrD zrw_cX11_vote_0 (i := 25) (by decide +kernel) rfl
theorem dX11_vote_26 : decode cX11_vote 26 = .ok (.istore_n 2, 1) := zrD zrw_cX11_vote_0 (i := 26) (by decide +kernel) rfl
theorem dX11_vote_27 : decode cX11_vote 27 = .ok (.iload_n 2, 1) := zrD zrw_cX11_vote_0 (i := 27) (by decide +kernel) rfl
theorem dX11_vote_28 : decode cX11_vote 28 = .ok (.iconst 3, 1) := zrD zrw_cX11_vote_0 (i := 28) (by decide +kernel) rfl
theorem dX11_vote_29 : decode cX11_vote 29 = .ok (.if_icmp .ge 16, 3) := zrD zrw_cX11_vote_0 (i := 29) (by decide +kernel) rfl
def zrk_cX11_vote_32 : ByteArray := .mk #[42, 180, 0, 128, 28, 3, 79, 132, 2, 1, 167, 255, 241, 4, 61, 28, 42, 182, 1, 57, 162, 0, 66, 42, 28, 182, 1, 86, 154, 0, 6]
theorem zrw_cX11_vote_32 : zrW 32 cX11_vote zrk_cX11_vote_32 := by unfold zrW; decide +kernel
theorem dX11_vote_32 : decode cX11_vote 32 = .ok (.aload_n 0, 1) := zrD zrw_cX11_vote_32 (i := 0) (by decide +kernel) rfl
theorem dX11_vote_33 : decode cX11_vote 33 = .ok (.getfield 128, 3) := zrD zrw_cX11_vote_32 (i := 1) (by decide +kernel) rfl
theorem dX11_vote_36 : decode cX11_vote 36 = .ok (.iload_n 2, 1) := zrD zrw_cX11_vote_32 (i := 4) (by decide +kernel) rfl
theorem dX11_vote_37 : decode cX11_vote 37 = .ok (.iconst 0, 1) := zrD zrw_cX11_vote_32 (i := 5) (by decide +kernel) rfl
theorem dX11_vote_38 : decode cX11_vote 38 = .ok (.iastore, 1) := zrD zrw_cX11_vote_32 (i := 6) (by decide +kernel) rfl
theorem dX11_vote_39 : decode cX11_vote 39 = .ok (.iinc 2 1, 3) := zrD zrw_cX11_vote_32 (i := 7) (by decide +kernel) rfl
theorem dX11_vote_42 : decode cX11_vote 42 = .ok (.goto (-15), 3) := zrD zrw_cX11_vote_32 (i := 10) (by decide +kernel) rfl
theorem dX11_vote_45 : decode cX11_vote 45 = .ok (.iconst 1, 1) := zrD zrw_cX11_vote_32 (i := 13) (by decide +kernel) rfl
theorem dX11_vote_46 : decode cX11_vote 46 = .ok (.istore_n 2, 1) := zrD zrw_cX11_vote_32 (i := 14) (by decide +kernel) rfl
theorem dX11_vote_47 : decode cX11_vote 47 = .ok (.iload_n 2, 1) := zrD zrw_cX11_vote_32 (i := 15) (by decide +kernel) rfl
theorem dX11_vote_48 : decode cX11_vote 48 = .ok (.aload_n 0, 1) := zrD zrw_cX11_vote_32 (i := 16) (by decide +kernel) rfl
theorem dX11_vote_49 : decode cX11_vote 49 = .ok (.invokevirtual 313, 3) := zrD zrw_cX11_vote_32 (i := 17) (by decide +kernel) rfl
theorem dX11_vote_52 : decode cX11_vote 52 = .ok (.if_icmp .ge 66, 3) := zrD zrw_cX11_vote_32 (i := 20) (by decide +kernel) rfl
theorem dX11_vote_55 : decode cX11_vote 55 = .ok (.aload_n 0, 1) := zrD zrw_cX11_vote_32 (i := 23) (by decide +kernel) rfl
theorem dX11_vote_56 : decode cX11_vote 56 = .ok (.iload_n 2, 1) := zrD zrw_cX11_vote_32 (i := 24) (by decide +kernel) rfl
theorem dX11_vote_57 : decode cX11_vote 57 = .ok (.invokevirtual 342, 3) := zrD zrw_cX11_vote_32 (i := 25) (by decide +kernel) rfl
theorem dX11_vote_60 : decode cX11_vote 60 = .ok (.ifCond .ne 6, 3) := zrD zrw_cX11_vote_32 (i := 28) (by decide +kernel) rfl
def zrk_cX11_vote_63 : ByteArray := .mk #[167, 0, 49, 3, 62, 4, 54, 4, 21, 4, 6, 162, 0, 28, 42, 28, 21, 4, 182, 1, 158, 42, 28, 29, 182, 1, 158, 162, 0, 6, 21, 4]
theorem zrw_cX11_vote_63 : zrW 63 cX11_vote zrk_cX11_vote_63 := by unfold zrW; decide +kernel
theorem dX11_vote_63 : decode cX11_vote 63 = .ok (.goto 49, 3) := zrD zrw_cX11_vote_63 (i := 0) (by decide +kernel) rfl
theorem dX11_vote_66 : decode cX11_vote 66 = .ok (.iconst 0, 1) := zrD zrw_cX11_vote_63 (i := 3) (by decide +kernel) rfl
theorem dX11_vote_67 : decode cX11_vote 67 = .ok (.istore_n 3, 1) := zrD zrw_cX11_vote_63 (i := 4) (by decide +kernel) rfl
theorem dX11_vote_68 : decode cX11_vote 68 = .ok (.iconst 1, 1) := zrD zrw_cX11_vote_63 (i := 5) (by decide +kernel) rfl
theorem dX11_vote_69 : decode cX11_vote 69 = .ok (.istore 4, 2) := zrD zrw_cX11_vote_63 (i := 6) (by decide +kernel) rfl
theorem dX11_vote_71 : decode cX11_vote 71 = .ok (.iload 4, 2) := zrD zrw_cX11_vote_63 (i := 8) (by decide +kernel) rfl
theorem dX11_vote_73 : decode cX11_vote 73 = .ok (.iconst 3, 1) := zrD zrw_cX11_vote_63 (i := 10) (by decide +kernel) rfl
theorem dX11_vote_74 : decode cX11_vote 74 = .ok (.if_icmp .ge 28, 3) := zrD zrw_cX11_vote_63 (i := 11) (by decide +kernel) rfl
theorem dX11_vote_77 : decode cX11_vote 77 = .ok (.aload_n 0, 1) := zrD zrw_cX11_vote_63 (i := 14) (by decide +kernel) rfl
theorem dX11_vote_78 : decode cX11_vote 78 = .ok (.iload_n 2, 1) := zrD zrw_cX11_vote_63 (i := 15) (by decide +kernel) rfl
theorem dX11_vote_79 : decode cX11_vote 79 = .ok (.iload 4, 2) := zrD zrw_cX11_vote_63 (i := 16) (by decide +kernel) rfl
theorem dX11_vote_81 : decode cX11_vote 81 = .ok (.invokevirtual 414, 3) := zrD zrw_cX11_vote_63 (i := 18) (by decide +kernel) rfl
theorem dX11_vote_84 : decode cX11_vote 84 = .ok (.aload_n 0, 1) := zrD zrw_cX11_vote_63 (i := 21) (by decide +kernel) rfl
theorem dX11_vote_85 : decode cX11_vote 85 = .ok (.iload_n 2, 1) := zrD zrw_cX11_vote_63 (i := 22) (by decide +kernel) rfl
theorem dX11_vote_86 : decode cX11_vote 86 = .ok (.iload_n 3, 1) := zrD zrw_cX11_vote_63 (i := 23) (by decide +kernel) rfl
theorem dX11_vote_87 : decode cX11_vote 87 = .ok (.invokevirtual 414, 3) := zrD zrw_cX11_vote_63 (i := 24) (by decide +kernel) rfl
theorem dX11_vote_90 : decode cX11_vote 90 = .ok (.if_icmp .ge 6, 3) := zrD zrw_cX11_vote_63 (i := 27) (by decide +kernel) rfl
theorem dX11_vote_93 : decode cX11_vote 93 = .ok (.iload 4, 2) := zrD zrw_cX11_vote_63 (i := 30) (by decide +kernel) rfl
def zrk_cX11_vote_95 : ByteArray := .mk #[62, 132, 4, 1, 167, 255, 228, 42, 180, 0, 128, 29, 92, 46, 4, 96, 79, 132, 2, 1, 167, 255, 188, 3, 61, 4, 62, 29, 6, 162, 0, 26]
theorem zrw_cX11_vote_95 : zrW 95 cX11_vote zrk_cX11_vote_95 := by unfold zrW; decide +kernel
theorem dX11_vote_95 : decode cX11_vote 95 = .ok (.istore_n 3, 1) := zrD zrw_cX11_vote_95 (i := 0) (by decide +kernel) rfl
theorem dX11_vote_96 : decode cX11_vote 96 = .ok (.iinc 4 1, 3) := zrD zrw_cX11_vote_95 (i := 1) (by decide +kernel) rfl
theorem dX11_vote_99 : decode cX11_vote 99 = .ok (.goto (-28), 3) := zrD zrw_cX11_vote_95 (i := 4) (by decide +kernel) rfl
theorem dX11_vote_102 : decode cX11_vote 102 = .ok (.aload_n 0, 1) := zrD zrw_cX11_vote_95 (i := 7) (by decide +kernel) rfl
theorem dX11_vote_103 : decode cX11_vote 103 = .ok (.getfield 128, 3) := zrD zrw_cX11_vote_95 (i := 8) (by decide +kernel) rfl
theorem dX11_vote_106 : decode cX11_vote 106 = .ok (.iload_n 3, 1) := zrD zrw_cX11_vote_95 (i := 11) (by decide +kernel) rfl
theorem dX11_vote_107 : decode cX11_vote 107 = .ok (.dup2, 1) := zrD zrw_cX11_vote_95 (i := 12) (by decide +kernel) rfl
theorem dX11_vote_108 : decode cX11_vote 108 = .ok (.iaload, 1) := zrD zrw_cX11_vote_95 (i := 13) (by decide +kernel) rfl
theorem dX11_vote_109 : decode cX11_vote 109 = .ok (.iconst 1, 1) := zrD zrw_cX11_vote_95 (i := 14) (by decide +kernel) rfl
theorem dX11_vote_110 : decode cX11_vote 110 = .ok (.iadd, 1) := zrD zrw_cX11_vote_95 (i := 15) (by decide +kernel) rfl
theorem dX11_vote_111 : decode cX11_vote 111 = .ok (.iastore, 1) := zrD zrw_cX11_vote_95 (i := 16) (by decide +kernel) rfl
theorem dX11_vote_112 : decode cX11_vote 112 = .ok (.iinc 2 1, 3) := zrD zrw_cX11_vote_95 (i := 17) (by decide +kernel) rfl
theorem dX11_vote_115 : decode cX11_vote 115 = .ok (.goto (-68), 3) := zrD zrw_cX11_vote_95 (i := 20) (by decide +kernel) rfl
theorem dX11_vote_118 : decode cX11_vote 118 = .ok (.iconst 0, 1) := zrD zrw_cX11_vote_95 (i := 23) (by decide +kernel) rfl
theorem dX11_vote_119 : decode cX11_vote 119 = .ok (.istore_n 2, 1) := zrD zrw_cX11_vote_95 (i := 24) (by decide +kernel) rfl
theorem dX11_vote_120 : decode cX11_vote 120 = .ok (.iconst 1, 1) := zrD zrw_cX11_vote_95 (i := 25) (by decide +kernel) rfl
theorem dX11_vote_121 : decode cX11_vote 121 = .ok (.istore_n 3, 1) := zrD zrw_cX11_vote_95 (i := 26) (by decide +kernel) rfl
theorem dX11_vote_122 : decode cX11_vote 122 = .ok (.iload_n 3, 1) := zrD zrw_cX11_vote_95 (i := 27) (by decide +kernel) rfl
theorem dX11_vote_123 : decode cX11_vote 123 = .ok (.iconst 3, 1) := zrD zrw_cX11_vote_95 (i := 28) (by decide +kernel) rfl
theorem dX11_vote_124 : decode cX11_vote 124 = .ok (.if_icmp .ge 26, 3) := zrD zrw_cX11_vote_95 (i := 29) (by decide +kernel) rfl
def zrk_cX11_vote_127 : ByteArray := .mk #[42, 180, 0, 128, 29, 46, 42, 180, 0, 128, 28, 46, 164, 0, 5, 29, 61, 132, 3, 1, 167, 255, 231, 27, 154, 0, 7, 28, 167, 0, 9, 42]
theorem zrw_cX11_vote_127 : zrW 127 cX11_vote zrk_cX11_vote_127 := by unfold zrW; decide +kernel
theorem dX11_vote_127 : decode cX11_vote 127 = .ok (.aload_n 0, 1) := zrD zrw_cX11_vote_127 (i := 0) (by decide +kernel) rfl
theorem dX11_vote_128 : decode cX11_vote 128 = .ok (.getfield 128, 3) := zrD zrw_cX11_vote_127 (i := 1) (by decide +kernel) rfl
theorem dX11_vote_131 : decode cX11_vote 131 = .ok (.iload_n 3, 1) := zrD zrw_cX11_vote_127 (i := 4) (by decide +kernel) rfl
theorem dX11_vote_132 : decode cX11_vote 132 = .ok (.iaload, 1) := zrD zrw_cX11_vote_127 (i := 5) (by decide +kernel) rfl
theorem dX11_vote_133 : decode cX11_vote 133 = .ok (.aload_n 0, 1) := zrD zrw_cX11_vote_127 (i := 6) (by decide +kernel) rfl
theorem dX11_vote_134 : decode cX11_vote 134 = .ok (.getfield 128, 3) := zrD zrw_cX11_vote_127 (i := 7) (by decide +kernel) rfl
theorem dX11_vote_137 : decode cX11_vote 137 = .ok (.iload_n 2, 1) := zrD zrw_cX11_vote_127 (i := 10) (by decide +kernel) rfl
theorem dX11_vote_138 : decode cX11_vote 138 = .ok (.iaload, 1) := zrD zrw_cX11_vote_127 (i := 11) (by decide +kernel) rfl
theorem dX11_vote_139 : decode cX11_vote 139 = .ok (.if_icmp .le 5, 3) := zrD zrw_cX11_vote_127 (i := 12) (by decide +kernel) rfl
theorem dX11_vote_142 : decode cX11_vote 142 = .ok (.iload_n 3, 1) := zrD zrw_cX11_vote_127 (i := 15) (by decide +kernel) rfl
theorem dX11_vote_143 : decode cX11_vote 143 = .ok (.istore_n 2, 1) := zrD zrw_cX11_vote_127 (i := 16) (by decide +kernel) rfl
theorem dX11_vote_144 : decode cX11_vote 144 = .ok (.iinc 3 1, 3) := zrD zrw_cX11_vote_127 (i := 17) (by decide +kernel) rfl
theorem dX11_vote_147 : decode cX11_vote 147 = .ok (.goto (-25), 3) := zrD zrw_cX11_vote_127 (i := 20) (by decide +kernel) rfl
theorem dX11_vote_150 : decode cX11_vote 150 = .ok (.iload_n 1, 1) := zrD zrw_cX11_vote_127 (i := 23) (by decide +kernel) rfl
theorem dX11_vote_151 : decode cX11_vote 151 = .ok (.ifCond .ne 7, 3) := zrD zrw_cX11_vote_127 (i := 24) (by decide +kernel) rfl
theorem dX11_vote_154 : decode cX11_vote 154 = .ok (.iload_n 2, 1) := zrD zrw_cX11_vote_127 (i := 27) (by decide +kernel) rfl
theorem dX11_vote_155 : decode cX11_vote 155 = .ok (.goto 9, 3) := zrD zrw_cX11_vote_127 (i := 28) (by decide +kernel) rfl
theorem dX11_vote_158 : decode cX11_vote 158 = .ok (.aload_n 0, 1) := zrD zrw_cX11_vote_127 (i := 31) (by decide +kernel) rfl
def zrk_cX11_vote_159 : ByteArray := .mk #[180, 0, 128, 28, 46, 172]
theorem zrw_cX11_vote_159 : zrW 159 cX11_vote zrk_cX11_vote_159 := by unfold zrW; decide +kernel
theorem dX11_vote_159 : decode cX11_vote 159 = .ok (.getfield 128, 3) := zrD zrw_cX11_vote_159 (i := 0) (by decide +kernel) rfl
theorem dX11_vote_162 : decode cX11_vote 162 = .ok (.iload_n 2, 1) := zrD zrw_cX11_vote_159 (i := 3) (by decide +kernel) rfl
theorem dX11_vote_163 : decode cX11_vote 163 = .ok (.iaload, 1) := zrD zrw_cX11_vote_159 (i := 4) (by decide +kernel) rfl
theorem dX11_vote_164 : decode cX11_vote 164 = .ok (.ireturn, 1) := zrD zrw_cX11_vote_159 (i := 5) (by decide +kernel) rfl
def zrk_cX11_damsAll_0 : ByteArray := .mk #[42, 182, 1, 76, 4, 61, 28, 42, 182, 1, 57, 162, 0, 28, 27, 28, 122, 4, 126, 4, 160, 0, 13, 42, 180, 0, 110, 16, 12, 28, 96, 4]
theorem zrw_cX11_damsAll_0 : zrW 0 cX11_damsAll zrk_cX11_damsAll_0 := by unfold zrW; decide +kernel
theorem dX11_damsAll_0 : decode cX11_damsAll 0 = .ok (.aload_n 0, 1) := zrD zrw_cX11_damsAll_0 (i := 0) (by decide +kernel) rfl
theorem dX11_damsAll_1 : decode cX11_damsAll 1 = .ok (.invokevirtual 332, 3) := zrD zrw_cX11_damsAll_0 (i := 1) (by decide +kernel) rfl
theorem dX11_damsAll_4 : decode cX11_damsAll 4 = .ok (.iconst 1, 1) := zrD zrw_cX11_damsAll_0 (i := 4) (by decide +kernel) rfl
theorem dX11_damsAll_5 : decode cX11_damsAll 5 = .ok (.istore_n 2, 1) := zrD zrw_cX11_damsAll_0 (i := 5) (by decide +kernel) rfl
theorem dX11_damsAll_6 : decode cX11_damsAll 6 = .ok (.iload_n 2, 1) := zrD zrw_cX11_damsAll_0 (i := 6) (by decide +kernel) rfl
theorem dX11_damsAll_7 : decode cX11_damsAll 7 = .ok (.aload_n 0, 1) := zrD zrw_cX11_damsAll_0 (i := 7) (by decide +kernel) rfl
theorem dX11_damsAll_8 : decode cX11_damsAll 8 = .ok (.invokevirtual 313, 3) := zrD zrw_cX11_damsAll_0 (i := 8) (by decide +kernel) rfl
theorem dX11_damsAll_11 : decode cX11_damsAll 11 = .ok (.if_icmp .ge 28, 3) := zrD zrw_cX11_damsAll_0 (i := 11) (by decide +kernel) rfl
theorem dX11_damsAll_14 : decode cX11_damsAll 14 = .ok (.iload_n 1, 1) := zrD zrw_cX11_damsAll_0 (i := 14) (by decide +kernel) rfl
theorem dX11_damsAll_15 : decode cX11_damsAll 15 = .ok (.iload_n 2, 1) := zrD zrw_cX11_damsAll_0 (i := 15) (by decide +kernel) rfl
theorem dX11_damsAll_16 : decode cX11_damsAll 16 = .ok (.ishr, 1) := zrD zrw_cX11_damsAll_0 (i := 16) (by decide +kernel) rfl
theorem dX11_damsAll_17 : decode cX11_damsAll 17 = .ok (.iconst 1, 1) := zrD zrw_cX11_damsAll_0 (i := 17) (by decide +kernel) rfl
theorem dX11_damsAll_18 : decode cX11_damsAll 18 = .ok (.iand, 1) := zrD zrw_cX11_damsAll_0 (i := 18) (by decide +kernel) rfl
theorem dX11_damsAll_19 : decode cX11_damsAll 19 = .ok (.iconst 1, 1) := zrD zrw_cX11_damsAll_0 (i := 19) (by decide +kernel) rfl
theorem dX11_damsAll_20 : decode cX11_damsAll 20 = .ok (.if_icmp .ne 13, 3) := zrD zrw_cX11_damsAll_0 (i := 20) (by decide +kernel) rfl
theorem dX11_damsAll_23 : decode cX11_damsAll 23 = .ok (.aload_n 0, 1) := zrD zrw_cX11_damsAll_0 (i := 23) (by decide +kernel) rfl
theorem dX11_damsAll_24 : decode cX11_damsAll 24 = .ok (.getfield 110, 3) := zrD zrw_cX11_damsAll_0 (i := 24) (by decide +kernel) rfl
theorem dX11_damsAll_27 : decode cX11_damsAll 27 = .ok (.bipush 12, 2) := zrD zrw_cX11_damsAll_0 (i := 27) (by decide +kernel) rfl
theorem dX11_damsAll_29 : decode cX11_damsAll 29 = .ok (.iload_n 2, 1) := zrD zrw_cX11_damsAll_0 (i := 29) (by decide +kernel) rfl
theorem dX11_damsAll_30 : decode cX11_damsAll 30 = .ok (.iadd, 1) := zrD zrw_cX11_damsAll_0 (i := 30) (by decide +kernel) rfl
theorem dX11_damsAll_31 : decode cX11_damsAll 31 = .ok (.iconst 1, 1) := zrD zrw_cX11_damsAll_0 (i := 31) (by decide +kernel) rfl
def zrk_cX11_damsAll_32 : ByteArray := .mk #[79, 132, 2, 1, 167, 255, 226, 42, 3, 182, 1, 73, 177]
theorem zrw_cX11_damsAll_32 : zrW 32 cX11_damsAll zrk_cX11_damsAll_32 := by unfold zrW; decide +kernel
theorem dX11_damsAll_32 : decode cX11_damsAll 32 = .ok (.iastore, 1) := zrD zrw_cX11_damsAll_32 (i := 0) (by decide +kernel) rfl
theorem dX11_damsAll_33 : decode cX11_damsAll 33 = .ok (.iinc 2 1, 3) := zrD zrw_cX11_damsAll_32 (i := 1) (by decide +kernel) rfl
theorem dX11_damsAll_36 : decode cX11_damsAll 36 = .ok (.goto (-30), 3) := zrD zrw_cX11_damsAll_32 (i := 4) (by decide +kernel) rfl
theorem dX11_damsAll_39 : decode cX11_damsAll 39 = .ok (.aload_n 0, 1) := zrD zrw_cX11_damsAll_32 (i := 7) (by decide +kernel) rfl
theorem dX11_damsAll_40 : decode cX11_damsAll 40 = .ok (.iconst 0, 1) := zrD zrw_cX11_damsAll_32 (i := 8) (by decide +kernel) rfl
theorem dX11_damsAll_41 : decode cX11_damsAll 41 = .ok (.invokevirtual 329, 3) := zrD zrw_cX11_damsAll_32 (i := 9) (by decide +kernel) rfl
theorem dX11_damsAll_44 : decode cX11_damsAll 44 = .ok (.return_, 1) := zrD zrw_cX11_damsAll_32 (i := 12) (by decide +kernel) rfl
def zrk_cX11_dammedBits_0 : ByteArray := .mk #[3, 60, 4, 61, 28, 42, 182, 1, 57, 162, 0, 23, 27, 42, 180, 0, 107, 16, 12, 28, 96, 46, 28, 120, 128, 60, 132, 2, 1, 167, 255, 231]
theorem zrw_cX11_dammedBits_0 : zrW 0 cX11_dammedBits zrk_cX11_dammedBits_0 := by unfold zrW; decide +kernel
theorem dX11_dammedBits_0 : decode cX11_dammedBits 0 = .ok (.iconst 0, 1) := zrD zrw_cX11_dammedBits_0 (i := 0) (by decide +kernel) rfl
theorem dX11_dammedBits_1 : decode cX11_dammedBits 1 = .ok (.istore_n 1, 1) := zrD zrw_cX11_dammedBits_0 (i := 1) (by decide +kernel) rfl
theorem dX11_dammedBits_2 : decode cX11_dammedBits 2 = .ok (.iconst 1, 1) := zrD zrw_cX11_dammedBits_0 (i := 2) (by decide +kernel) rfl
theorem dX11_dammedBits_3 : decode cX11_dammedBits 3 = .ok (.istore_n 2, 1) := zrD zrw_cX11_dammedBits_0 (i := 3) (by decide +kernel) rfl
theorem dX11_dammedBits_4 : decode cX11_dammedBits 4 = .ok (.iload_n 2, 1) := zrD zrw_cX11_dammedBits_0 (i := 4) (by decide +kernel) rfl
theorem dX11_dammedBits_5 : decode cX11_dammedBits 5 = .ok (.aload_n 0, 1) := zrD zrw_cX11_dammedBits_0 (i := 5) (by decide +kernel) rfl
theorem dX11_dammedBits_6 : decode cX11_dammedBits 6 = .ok (.invokevirtual 313, 3) := zrD zrw_cX11_dammedBits_0 (i := 6) (by decide +kernel) rfl
theorem dX11_dammedBits_9 : decode cX11_dammedBits 9 = .ok (.if_icmp .ge 23, 3) := zrD zrw_cX11_dammedBits_0 (i := 9) (by decide +kernel) rfl
theorem dX11_dammedBits_12 : decode cX11_dammedBits 12 = .ok (.iload_n 1, 1) := zrD zrw_cX11_dammedBits_0 (i := 12) (by decide +kernel) rfl
theorem dX11_dammedBits_13 : decode cX11_dammedBits 13 = .ok (.aload_n 0, 1) := zrD zrw_cX11_dammedBits_0 (i := 13) (by decide +kernel) rfl
theorem dX11_dammedBits_14 : decode cX11_dammedBits 14 = .ok (.getfield 107, 3) := zrD zrw_cX11_dammedBits_0 (i := 14) (by decide +kernel) rfl
theorem dX11_dammedBits_17 : decode cX11_dammedBits 17 = .ok (.bipush 12, 2) := zrD zrw_cX11_dammedBits_0 (i := 17) (by decide +kernel) rfl
theorem dX11_dammedBits_19 : decode cX11_dammedBits 19 = .ok (.iload_n 2, 1) := zrD zrw_cX11_dammedBits_0 (i := 19) (by decide +kernel) rfl
theorem dX11_dammedBits_20 : decode cX11_dammedBits 20 = .ok (.iadd, 1) := zrD zrw_cX11_dammedBits_0 (i := 20) (by decide +kernel) rfl
theorem dX11_dammedBits_21 : decode cX11_dammedBits 21 = .ok (.iaload, 1) := zrD zrw_cX11_dammedBits_0 (i := 21) (by decide +kernel) rfl
theorem dX11_dammedBits_22 : decode cX11_dammedBits 22 = .ok (.iload_n 2, 1) := zrD zrw_cX11_dammedBits_0 (i := 22) (by decide +kernel) rfl
theorem dX11_dammedBits_23 : decode cX11_dammedBits 23 = .ok (.ishl, 1) := zrD zrw_cX11_dammedBits_0 (i := 23) (by decide +kernel) rfl
theorem dX11_dammedBits_24 : decode cX11_dammedBits 24 = .ok (.ior, 1) := zrD zrw_cX11_dammedBits_0 (i := 24) (by decide +kernel) rfl
theorem dX11_dammedBits_25 : decode cX11_dammedBits 25 = .ok (.istore_n 1, 1) := zrD zrw_cX11_dammedBits_0 (i := 25) (by decide +kernel) rfl
theorem dX11_dammedBits_26 : decode cX11_dammedBits 26 = .ok (.iinc 2 1, 3) := zrD zrw_cX11_dammedBits_0 (i := 26) (by decide +kernel) rfl
theorem dX11_dammedBits_29 : decode cX11_dammedBits 29 = .ok (.goto (-25), 3) := zrD zrw_cX11_dammedBits_0 (i := 29) (by decide +kernel) rfl
def zrk_cX11_dammedBits_32 : ByteArray := .mk #[27, 172]
theorem zrw_cX11_dammedBits_32 : zrW 32 cX11_dammedBits zrk_cX11_dammedBits_32 := by unfold zrW; decide +kernel
theorem dX11_dammedBits_32 : decode cX11_dammedBits 32 = .ok (.iload_n 1, 1) := zrD zrw_cX11_dammedBits_32 (i := 0) (by decide +kernel) rfl
theorem dX11_dammedBits_33 : decode cX11_dammedBits 33 = .ok (.ireturn, 1) := zrD zrw_cX11_dammedBits_32 (i := 1) (by decide +kernel) rfl
def zrk_cX11_ithOf_0 : ByteArray := .mk #[3, 61, 3, 62, 29, 16, 12, 162, 0, 30, 26, 29, 122, 4, 126, 154, 0, 6, 167, 0, 13, 28, 27, 160, 0, 5, 29, 172, 132, 2, 1]
theorem zrw_cX11_ithOf_0 : zrW 0 cX11_ithOf zrk_cX11_ithOf_0 := by unfold zrW; decide +kernel
theorem dX11_ithOf_0 : decode cX11_ithOf 0 = .ok (.iconst 0, 1) := zrD zrw_cX11_ithOf_0 (i := 0) (by decide +kernel) rfl
theorem dX11_ithOf_1 : decode cX11_ithOf 1 = .ok (.istore_n 2, 1) := zrD zrw_cX11_ithOf_0 (i := 1) (by decide +kernel) rfl
theorem dX11_ithOf_2 : decode cX11_ithOf 2 = .ok (.iconst 0, 1) := zrD zrw_cX11_ithOf_0 (i := 2) (by decide +kernel) rfl
theorem dX11_ithOf_3 : decode cX11_ithOf 3 = .ok (.istore_n 3, 1) := zrD zrw_cX11_ithOf_0 (i := 3) (by decide +kernel) rfl
theorem dX11_ithOf_4 : decode cX11_ithOf 4 = .ok (.iload_n 3, 1) := zrD zrw_cX11_ithOf_0 (i := 4) (by decide +kernel) rfl
theorem dX11_ithOf_5 : decode cX11_ithOf 5 = .ok (.bipush 12, 2) := zrD zrw_cX11_ithOf_0 (i := 5) (by decide +kernel) rfl
theorem dX11_ithOf_7 : decode cX11_ithOf 7 = .ok (.if_icmp .ge 30, 3) := zrD zrw_cX11_ithOf_0 (i := 7) (by decide +kernel) rfl
theorem dX11_ithOf_10 : decode cX11_ithOf 10 = .ok (.iload_n 0, 1) := zrD zrw_cX11_ithOf_0 (i := 10) (by decide +kernel) rfl
theorem dX11_ithOf_11 : decode cX11_ithOf 11 = .ok (.iload_n 3, 1) := zrD zrw_cX11_ithOf_0 (i := 11) (by decide +kernel) rfl
theorem dX11_ithOf_12 : decode cX11_ithOf 12 = .ok (.ishr, 1) := zrD zrw_cX11_ithOf_0 (i := 12) (by decide +kernel) rfl
theorem dX11_ithOf_13 : decode cX11_ithOf 13 = .ok (.iconst 1, 1) := zrD zrw_cX11_ithOf_0 (i := 13) (by decide +kernel) rfl
theorem dX11_ithOf_14 : decode cX11_ithOf 14 = .ok (.iand, 1) := zrD zrw_cX11_ithOf_0 (i := 14) (by decide +kernel) rfl
theorem dX11_ithOf_15 : decode cX11_ithOf 15 = .ok (.ifCond .ne 6, 3) := zrD zrw_cX11_ithOf_0 (i := 15) (by decide +kernel) rfl
theorem dX11_ithOf_18 : decode cX11_ithOf 18 = .ok (.goto 13, 3) := zrD zrw_cX11_ithOf_0 (i := 18) (by decide +kernel) rfl
theorem dX11_ithOf_21 : decode cX11_ithOf 21 = .ok (.iload_n 2, 1) := zrD zrw_cX11_ithOf_0 (i := 21) (by decide +kernel) rfl
theorem dX11_ithOf_22 : decode cX11_ithOf 22 = .ok (.iload_n 1, 1) := zrD zrw_cX11_ithOf_0 (i := 22) (by decide +kernel) rfl
theorem dX11_ithOf_23 : decode cX11_ithOf 23 = .ok (.if_icmp .ne 5, 3) := zrD zrw_cX11_ithOf_0 (i := 23) (by decide +kernel) rfl
theorem dX11_ithOf_26 : decode cX11_ithOf 26 = .ok (.iload_n 3, 1) := zrD zrw_cX11_ithOf_0 (i := 26) (by decide +kernel) rfl
theorem dX11_ithOf_27 : decode cX11_ithOf 27 = .ok (.ireturn, 1) := zrD zrw_cX11_ithOf_0 (i := 27) (by decide +kernel) rfl
theorem dX11_ithOf_28 : decode cX11_ithOf 28 = .ok (.iinc 2 1, 3) := zrD zrw_cX11_ithOf_0 (i := 28) (by decide +kernel) rfl
def zrk_cX11_ithOf_31 : ByteArray := .mk #[132, 3, 1, 167, 255, 226, 2, 172]
theorem zrw_cX11_ithOf_31 : zrW 31 cX11_ithOf zrk_cX11_ithOf_31 := by unfold zrW; decide +kernel
theorem dX11_ithOf_31 : decode cX11_ithOf 31 = .ok (.iinc 3 1, 3) := zrD zrw_cX11_ithOf_31 (i := 0) (by decide +kernel) rfl
theorem dX11_ithOf_34 : decode cX11_ithOf 34 = .ok (.goto (-30), 3) := zrD zrw_cX11_ithOf_31 (i := 3) (by decide +kernel) rfl
theorem dX11_ithOf_37 : decode cX11_ithOf 37 = .ok (.iconst (-1), 1) := zrD zrw_cX11_ithOf_31 (i := 6) (by decide +kernel) rfl
theorem dX11_ithOf_38 : decode cX11_ithOf 38 = .ok (.ireturn, 1) := zrD zrw_cX11_ithOf_31 (i := 7) (by decide +kernel) rfl
def zrk_cX11_isEarlier_0 : ByteArray := .mk #[3, 61, 28, 6, 162, 0, 41, 26, 28, 184, 1, 164, 27, 28, 184, 1, 164, 159, 0, 22, 26, 28, 184, 1, 164, 27, 28, 184, 1, 164]
theorem zrw_cX11_isEarlier_0 : zrW 0 cX11_isEarlier zrk_cX11_isEarlier_0 := by unfold zrW; decide +kernel
theorem dX11_isEarlier_0 : decode cX11_isEarlier 0 = .ok (.iconst 0, 1) := zrD zrw_cX11_isEarlier_0 (i := 0) (by decide +kernel) rfl
theorem dX11_isEarlier_1 : decode cX11_isEarlier 1 = .ok (.istore_n 2, 1) := zrD zrw_cX11_isEarlier_0 (i := 1) (by decide +kernel) rfl
theorem dX11_isEarlier_2 : decode cX11_isEarlier 2 = .ok (.iload_n 2, 1) := zrD zrw_cX11_isEarlier_0 (i := 2) (by decide +kernel) rfl
theorem dX11_isEarlier_3 : decode cX11_isEarlier 3 = .ok (.iconst 3, 1) := zrD zrw_cX11_isEarlier_0 (i := 3) (by decide +kernel) rfl
theorem dX11_isEarlier_4 : decode cX11_isEarlier 4 = .ok (.if_icmp .ge 41, 3) := zrD zrw_cX11_isEarlier_0 (i := 4) (by decide +kernel) rfl
theorem dX11_isEarlier_7 : decode cX11_isEarlier 7 = .ok (.iload_n 0, 1) := zrD zrw_cX11_isEarlier_0 (i := 7) (by decide +kernel) rfl
theorem dX11_isEarlier_8 : decode cX11_isEarlier 8 = .ok (.iload_n 2, 1) := zrD zrw_cX11_isEarlier_0 (i := 8) (by decide +kernel) rfl
theorem dX11_isEarlier_9 : decode cX11_isEarlier 9 = .ok (.invokestatic 420, 3) := zrD zrw_cX11_isEarlier_0 (i := 9) (by decide +kernel) rfl
theorem dX11_isEarlier_12 : decode cX11_isEarlier 12 = .ok (.iload_n 1, 1) := zrD zrw_cX11_isEarlier_0 (i := 12) (by decide +kernel) rfl
theorem dX11_isEarlier_13 : decode cX11_isEarlier 13 = .ok (.iload_n 2, 1) := zrD zrw_cX11_isEarlier_0 (i := 13) (by decide +kernel) rfl
theorem dX11_isEarlier_14 : decode cX11_isEarlier 14 = .ok (.invokestatic 420, 3) := zrD zrw_cX11_isEarlier_0 (i := 14) (by decide +kernel) rfl
theorem dX11_isEarlier_17 : decode cX11_isEarlier 17 = .ok (.if_icmp .eq 22, 3) := zrD zrw_cX11_isEarlier_0 (i := 17) (by decide +kernel) rfl
theorem dX11_isEarlier_20 : decode cX11_isEarlier 20 = .ok (.iload_n 0, 1) := zrD zrw_cX11_isEarlier_0 (i := 20) (by decide +kernel) rfl
theorem dX11_isEarlier_21 : decode cX11_isEarlier 21 = .ok (.iload_n 2, 1) := zrD zrw_cX11_isEarlier_0 (i := 21) (by decide +kernel) rfl
theorem dX11_isEarlier_22 : decode cX11_isEarlier 22 = .ok (.invokestatic 420, 3) := zrD zrw_cX11_isEarlier_0 (i := 22) (by decide +kernel) rfl
theorem dX11_isEarlier_25 : decode cX11_isEarlier 25 = .ok (.iload_n 1, 1) := zrD zrw_cX11_isEarlier_0 (i := 25) (by decide +kernel) rfl
theorem dX11_isEarlier_26 : decode cX11_isEarlier 26 = .ok (.iload_n 2, 1) := zrD zrw_cX11_isEarlier_0 (i := 26) (by decide +kernel) rfl
theorem dX11_isEarlier_27 : decode cX11_isEarlier 27 = .ok (.invokestatic 420, 3) := zrD zrw_cX11_isEarlier_0 (i := 27) (by decide +kernel) rfl
def zrk_cX11_isEarlier_30 : ByteArray := .mk #[162, 0, 7, 4, 167, 0, 4, 3, 172, 132, 2, 1, 167, 255, 216, 3, 172]
theorem zrw_cX11_isEarlier_30 : zrW 30 cX11_isEarlier zrk_cX11_isEarlier_30 := by unfold zrW; decide +kernel
theorem dX11_isEarlier_30 : decode cX11_isEarlier 30 = .ok (.if_icmp .ge 7, 3) := zrD zrw_cX11_isEarlier_30 (i := 0) (by decide +kernel) rfl
theorem dX11_isEarlier_33 : decode cX11_isEarlier 33 = .ok (.iconst 1, 1) := zrD zrw_cX11_isEarlier_30 (i := 3) (by decide +kernel) rfl
theorem dX11_isEarlier_34 : decode cX11_isEarlier 34 = .ok (.goto 4, 3) := zrD zrw_cX11_isEarlier_30 (i := 4) (by decide +kernel) rfl
theorem dX11_isEarlier_37 : decode cX11_isEarlier 37 = .ok (.iconst 0, 1) := zrD zrw_cX11_isEarlier_30 (i := 7) (by decide +kernel) rfl
theorem dX11_isEarlier_38 : decode cX11_isEarlier 38 = .ok (.ireturn, 1) := zrD zrw_cX11_isEarlier_30 (i := 8) (by decide +kernel) rfl
theorem dX11_isEarlier_39 : decode cX11_isEarlier 39 = .ok (.iinc 2 1, 3) := zrD zrw_cX11_isEarlier_30 (i := 9) (by decide +kernel) rfl
theorem dX11_isEarlier_42 : decode cX11_isEarlier 42 = .ok (.goto (-40), 3) := zrD zrw_cX11_isEarlier_30 (i := 12) (by decide +kernel) rfl
theorem dX11_isEarlier_45 : decode cX11_isEarlier 45 = .ok (.iconst 0, 1) := zrD zrw_cX11_isEarlier_30 (i := 15) (by decide +kernel) rfl
theorem dX11_isEarlier_46 : decode cX11_isEarlier 46 = .ok (.ireturn, 1) := zrD zrw_cX11_isEarlier_30 (i := 16) (by decide +kernel) rfl
def zrk_cX11_dams_0 : ByteArray := .mk #[27, 3, 17, 39, 15, 184, 1, 60, 153, 0, 19, 28, 2, 5, 184, 1, 60, 153, 0, 10, 42, 182, 1, 57, 154, 0, 5, 2, 172, 42]
theorem zrw_cX11_dams_0 : zrW 0 cX11_dams zrk_cX11_dams_0 := by unfold zrW; decide +kernel
theorem dX11_dams_0 : decode cX11_dams 0 = .ok (.iload_n 1, 1) := zrD zrw_cX11_dams_0 (i := 0) (by decide +kernel) rfl
theorem dX11_dams_1 : decode cX11_dams 1 = .ok (.iconst 0, 1) := zrD zrw_cX11_dams_0 (i := 1) (by decide +kernel) rfl
theorem dX11_dams_2 : decode cX11_dams 2 = .ok (.sipush 9999, 3) := zrD zrw_cX11_dams_0 (i := 2) (by decide +kernel) rfl
theorem dX11_dams_5 : decode cX11_dams 5 = .ok (.invokestatic 316, 3) := zrD zrw_cX11_dams_0 (i := 5) (by decide +kernel) rfl
theorem dX11_dams_8 : decode cX11_dams 8 = .ok (.ifCond .eq 19, 3) := zrD zrw_cX11_dams_0 (i := 8) (by decide +kernel) rfl
theorem dX11_dams_11 : decode cX11_dams 11 = .ok (.iload_n 2, 1) := zrD zrw_cX11_dams_0 (i := 11) (by decide +kernel) rfl
theorem dX11_dams_12 : decode cX11_dams 12 = .ok (.iconst (-1), 1) := zrD zrw_cX11_dams_0 (i := 12) (by decide +kernel) rfl
theorem dX11_dams_13 : decode cX11_dams 13 = .ok (.iconst 2, 1) := zrD zrw_cX11_dams_0 (i := 13) (by decide +kernel) rfl
theorem dX11_dams_14 : decode cX11_dams 14 = .ok (.invokestatic 316, 3) := zrD zrw_cX11_dams_0 (i := 14) (by decide +kernel) rfl
theorem dX11_dams_17 : decode cX11_dams 17 = .ok (.ifCond .eq 10, 3) := zrD zrw_cX11_dams_0 (i := 17) (by decide +kernel) rfl
theorem dX11_dams_20 : decode cX11_dams 20 = .ok (.aload_n 0, 1) := zrD zrw_cX11_dams_0 (i := 20) (by decide +kernel) rfl
theorem dX11_dams_21 : decode cX11_dams 21 = .ok (.invokevirtual 313, 3) := zrD zrw_cX11_dams_0 (i := 21) (by decide +kernel) rfl
theorem dX11_dams_24 : decode cX11_dams 24 = .ok (.ifCond .ne 5, 3) := zrD zrw_cX11_dams_0 (i := 24) (by decide +kernel) rfl
theorem dX11_dams_27 : decode cX11_dams 27 = .ok (.iconst (-1), 1) := zrD zrw_cX11_dams_0 (i := 27) (by decide +kernel) rfl
theorem dX11_dams_28 : decode cX11_dams 28 = .ok (.ireturn, 1) := zrD zrw_cX11_dams_0 (i := 28) (by decide +kernel) rfl
theorem dX11_dams_29 : decode cX11_dams 29 = .ok (.aload_n 0, 1) := zrD zrw_cX11_dams_0 (i := 29) (by decide +kernel) rfl
def zrk_cX11_dams_30 : ByteArray := .mk #[182, 1, 167, 62, 2, 54, 4, 3, 54, 5, 21, 5, 4, 42, 182, 1, 57, 120, 162, 0, 92, 21, 5, 184, 1, 89, 6, 163, 0, 77, 21, 5]
theorem zrw_cX11_dams_30 : zrW 30 cX11_dams zrk_cX11_dams_30 := by unfold zrW; decide +kernel
theorem dX11_dams_30 : decode cX11_dams 30 = .ok (.invokevirtual 423, 3) := zrD zrw_cX11_dams_30 (i := 0) (by decide +kernel) rfl
theorem dX11_dams_33 : decode cX11_dams 33 = .ok (.istore_n 3, 1) := zrD zrw_cX11_dams_30 (i := 3) (by decide +kernel) rfl
theorem dX11_dams_34 : decode cX11_dams 34 = .ok (.iconst (-1), 1) := zrD zrw_cX11_dams_30 (i := 4) (by decide +kernel) rfl
theorem dX11_dams_35 : decode cX11_dams 35 = .ok (.istore 4, 2) := zrD zrw_cX11_dams_30 (i := 5) (by decide +kernel) rfl
theorem dX11_dams_37 : decode cX11_dams 37 = .ok (.iconst 0, 1) := zrD zrw_cX11_dams_30 (i := 7) (by decide +kernel) rfl
theorem dX11_dams_38 : decode cX11_dams 38 = .ok (.istore 5, 2) := zrD zrw_cX11_dams_30 (i := 8) (by decide +kernel) rfl
theorem dX11_dams_40 : decode cX11_dams 40 = .ok (.iload 5, 2) := zrD zrw_cX11_dams_30 (i := 10) (by decide +kernel) rfl
theorem dX11_dams_42 : decode cX11_dams 42 = .ok (.iconst 1, 1) := zrD zrw_cX11_dams_30 (i := 12) (by decide +kernel) rfl
theorem dX11_dams_43 : decode cX11_dams 43 = .ok (.aload_n 0, 1) := zrD zrw_cX11_dams_30 (i := 13) (by decide +kernel) rfl
theorem dX11_dams_44 : decode cX11_dams 44 = .ok (.invokevirtual 313, 3) := zrD zrw_cX11_dams_30 (i := 14) (by decide +kernel) rfl
theorem dX11_dams_47 : decode cX11_dams 47 = .ok (.ishl, 1) := zrD zrw_cX11_dams_30 (i := 17) (by decide +kernel) rfl
theorem dX11_dams_48 : decode cX11_dams 48 = .ok (.if_icmp .ge 92, 3) := zrD zrw_cX11_dams_30 (i := 18) (by decide +kernel) rfl
theorem dX11_dams_51 : decode cX11_dams 51 = .ok (.iload 5, 2) := zrD zrw_cX11_dams_30 (i := 21) (by decide +kernel) rfl
theorem dX11_dams_53 : decode cX11_dams 53 = .ok (.invokestatic 345, 3) := zrD zrw_cX11_dams_30 (i := 23) (by decide +kernel) rfl
theorem dX11_dams_56 : decode cX11_dams 56 = .ok (.iconst 3, 1) := zrD zrw_cX11_dams_30 (i := 26) (by decide +kernel) rfl
theorem dX11_dams_57 : decode cX11_dams 57 = .ok (.if_icmp .gt 77, 3) := zrD zrw_cX11_dams_30 (i := 27) (by decide +kernel) rfl
theorem dX11_dams_60 : decode cX11_dams 60 = .ok (.iload 5, 2) := zrD zrw_cX11_dams_30 (i := 30) (by decide +kernel) rfl
def zrk_cX11_dams_62 : ByteArray := .mk #[29, 126, 153, 0, 6, 167, 0, 67, 21, 4, 155, 0, 42, 21, 5, 184, 1, 89, 21, 4, 184, 1, 89, 163, 0, 49, 21, 5, 184, 1, 89]
theorem zrw_cX11_dams_62 : zrW 62 cX11_dams zrk_cX11_dams_62 := by unfold zrW; decide +kernel
theorem dX11_dams_62 : decode cX11_dams 62 = .ok (.iload_n 3, 1) := zrD zrw_cX11_dams_62 (i := 0) (by decide +kernel) rfl
theorem dX11_dams_63 : decode cX11_dams 63 = .ok (.iand, 1) := zrD zrw_cX11_dams_62 (i := 1) (by decide +kernel) rfl
theorem dX11_dams_64 : decode cX11_dams 64 = .ok (.ifCond .eq 6, 3) := zrD zrw_cX11_dams_62 (i := 2) (by decide +kernel) rfl
theorem dX11_dams_67 : decode cX11_dams 67 = .ok (.goto 67, 3) := zrD zrw_cX11_dams_62 (i := 5) (by decide +kernel) rfl
theorem dX11_dams_70 : decode cX11_dams 70 = .ok (.iload 4, 2) := zrD zrw_cX11_dams_62 (i := 8) (by decide +kernel) rfl
theorem dX11_dams_72 : decode cX11_dams 72 = .ok (.ifCond .lt 42, 3) := zrD zrw_cX11_dams_62 (i := 10) (by decide +kernel) rfl
theorem dX11_dams_75 : decode cX11_dams 75 = .ok (.iload 5, 2) := zrD zrw_cX11_dams_62 (i := 13) (by decide +kernel) rfl
theorem dX11_dams_77 : decode cX11_dams 77 = .ok (.invokestatic 345, 3) := zrD zrw_cX11_dams_62 (i := 15) (by decide +kernel) rfl
theorem dX11_dams_80 : decode cX11_dams 80 = .ok (.iload 4, 2) := zrD zrw_cX11_dams_62 (i := 18) (by decide +kernel) rfl
theorem dX11_dams_82 : decode cX11_dams 82 = .ok (.invokestatic 345, 3) := zrD zrw_cX11_dams_62 (i := 20) (by decide +kernel) rfl
theorem dX11_dams_85 : decode cX11_dams 85 = .ok (.if_icmp .gt 49, 3) := zrD zrw_cX11_dams_62 (i := 23) (by decide +kernel) rfl
theorem dX11_dams_88 : decode cX11_dams 88 = .ok (.iload 5, 2) := zrD zrw_cX11_dams_62 (i := 26) (by decide +kernel) rfl
theorem dX11_dams_90 : decode cX11_dams 90 = .ok (.invokestatic 345, 3) := zrD zrw_cX11_dams_62 (i := 28) (by decide +kernel) rfl
def zrk_cX11_dams_93 : ByteArray := .mk #[21, 4, 184, 1, 89, 160, 0, 16, 21, 5, 21, 4, 184, 1, 170, 154, 0, 6, 167, 0, 23, 42, 21, 5, 182, 1, 173, 42, 180, 0, 122, 3]
theorem zrw_cX11_dams_93 : zrW 93 cX11_dams zrk_cX11_dams_93 := by unfold zrW; decide +kernel
theorem dX11_dams_93 : decode cX11_dams 93 = .ok (.iload 4, 2) := zrD zrw_cX11_dams_93 (i := 0) (by decide +kernel) rfl
theorem dX11_dams_95 : decode cX11_dams 95 = .ok (.invokestatic 345, 3) := zrD zrw_cX11_dams_93 (i := 2) (by decide +kernel) rfl
theorem dX11_dams_98 : decode cX11_dams 98 = .ok (.if_icmp .ne 16, 3) := zrD zrw_cX11_dams_93 (i := 5) (by decide +kernel) rfl
theorem dX11_dams_101 : decode cX11_dams 101 = .ok (.iload 5, 2) := zrD zrw_cX11_dams_93 (i := 8) (by decide +kernel) rfl
theorem dX11_dams_103 : decode cX11_dams 103 = .ok (.iload 4, 2) := zrD zrw_cX11_dams_93 (i := 10) (by decide +kernel) rfl
theorem dX11_dams_105 : decode cX11_dams 105 = .ok (.invokestatic 426, 3) := zrD zrw_cX11_dams_93 (i := 12) (by decide +kernel) rfl
theorem dX11_dams_108 : decode cX11_dams 108 = .ok (.ifCond .ne 6, 3) := zrD zrw_cX11_dams_93 (i := 15) (by decide +kernel) rfl
theorem dX11_dams_111 : decode cX11_dams 111 = .ok (.goto 23, 3) := zrD zrw_cX11_dams_93 (i := 18) (by decide +kernel) rfl
theorem dX11_dams_114 : decode cX11_dams 114 = .ok (.aload_n 0, 1) := zrD zrw_cX11_dams_93 (i := 21) (by decide +kernel) rfl
theorem dX11_dams_115 : decode cX11_dams 115 = .ok (.iload 5, 2) := zrD zrw_cX11_dams_93 (i := 22) (by decide +kernel) rfl
theorem dX11_dams_117 : decode cX11_dams 117 = .ok (.invokevirtual 429, 3) := zrD zrw_cX11_dams_93 (i := 24) (by decide +kernel) rfl
theorem dX11_dams_120 : decode cX11_dams 120 = .ok (.aload_n 0, 1) := zrD zrw_cX11_dams_93 (i := 27) (by decide +kernel) rfl
theorem dX11_dams_121 : decode cX11_dams 121 = .ok (.getfield 122, 3) := zrD zrw_cX11_dams_93 (i := 28) (by decide +kernel) rfl
theorem dX11_dams_124 : decode cX11_dams 124 = .ok (.iconst 0, 1) := zrD zrw_cX11_dams_93 (i := 31) (by decide +kernel) rfl
def zrk_cX11_dams_125 : ByteArray := .mk #[46, 27, 163, 0, 7, 21, 5, 54, 4, 132, 5, 2, 167, 255, 159, 21, 4, 156, 0, 6, 16, 254, 172, 28, 2, 160, 0, 11, 21, 4]
theorem zrw_cX11_dams_125 : zrW 125 cX11_dams zrk_cX11_dams_125 := by unfold zrW; decide +kernel
theorem dX11_dams_125 : decode cX11_dams 125 = .ok (.iaload, 1) := zrD zrw_cX11_dams_125 (i := 0) (by decide +kernel) rfl
theorem dX11_dams_126 : decode cX11_dams 126 = .ok (.iload_n 1, 1) := zrD zrw_cX11_dams_125 (i := 1) (by decide +kernel) rfl
theorem dX11_dams_127 : decode cX11_dams 127 = .ok (.if_icmp .gt 7, 3) := zrD zrw_cX11_dams_125 (i := 2) (by decide +kernel) rfl
theorem dX11_dams_130 : decode cX11_dams 130 = .ok (.iload 5, 2) := zrD zrw_cX11_dams_125 (i := 5) (by decide +kernel) rfl
theorem dX11_dams_132 : decode cX11_dams 132 = .ok (.istore 4, 2) := zrD zrw_cX11_dams_125 (i := 7) (by decide +kernel) rfl
theorem dX11_dams_134 : decode cX11_dams 134 = .ok (.iinc 5 2, 3) := zrD zrw_cX11_dams_125 (i := 9) (by decide +kernel) rfl
theorem dX11_dams_137 : decode cX11_dams 137 = .ok (.goto (-97), 3) := zrD zrw_cX11_dams_125 (i := 12) (by decide +kernel) rfl
theorem dX11_dams_140 : decode cX11_dams 140 = .ok (.iload 4, 2) := zrD zrw_cX11_dams_125 (i := 15) (by decide +kernel) rfl
theorem dX11_dams_142 : decode cX11_dams 142 = .ok (.ifCond .ge 6, 3) := zrD zrw_cX11_dams_125 (i := 17) (by decide +kernel) rfl
theorem dX11_dams_145 : decode cX11_dams 145 = .ok (.bipush (-2), 2) := zrD zrw_cX11_dams_125 (i := 20) (by decide +kernel) rfl
theorem dX11_dams_147 : decode cX11_dams 147 = .ok (.ireturn, 1) := zrD zrw_cX11_dams_125 (i := 22) (by decide +kernel) rfl
theorem dX11_dams_148 : decode cX11_dams 148 = .ok (.iload_n 2, 1) := zrD zrw_cX11_dams_125 (i := 23) (by decide +kernel) rfl
theorem dX11_dams_149 : decode cX11_dams 149 = .ok (.iconst (-1), 1) := zrD zrw_cX11_dams_125 (i := 24) (by decide +kernel) rfl
theorem dX11_dams_150 : decode cX11_dams 150 = .ok (.if_icmp .ne 11, 3) := zrD zrw_cX11_dams_125 (i := 25) (by decide +kernel) rfl
theorem dX11_dams_153 : decode cX11_dams 153 = .ok (.iload 4, 2) := zrD zrw_cX11_dams_125 (i := 28) (by decide +kernel) rfl
def zrk_cX11_dams_155 : ByteArray := .mk #[184, 1, 89, 167, 0, 9, 21, 4, 28, 184, 1, 164, 172]
theorem zrw_cX11_dams_155 : zrW 155 cX11_dams zrk_cX11_dams_155 := by unfold zrW; decide +kernel
theorem dX11_dams_155 : decode cX11_dams 155 = .ok (.invokestatic 345, 3) := zrD zrw_cX11_dams_155 (i := 0) (by decide +kernel) rfl
theorem dX11_dams_158 : decode cX11_dams 158 = .ok (.goto 9, 3) := zrD zrw_cX11_dams_155 (i := 3) (by decide +kernel) rfl
theorem dX11_dams_161 : decode cX11_dams 161 = .ok (.iload 4, 2) := zrD zrw_cX11_dams_155 (i := 6) (by decide +kernel) rfl
theorem dX11_dams_163 : decode cX11_dams 163 = .ok (.iload_n 2, 1) := zrD zrw_cX11_dams_155 (i := 8) (by decide +kernel) rfl
theorem dX11_dams_164 : decode cX11_dams 164 = .ok (.invokestatic 420, 3) := zrD zrw_cX11_dams_155 (i := 9) (by decide +kernel) rfl
theorem dX11_dams_167 : decode cX11_dams 167 = .ok (.ireturn, 1) := zrD zrw_cX11_dams_155 (i := 12) (by decide +kernel) rfl
def zrk_cX11_lossOf_0 : ByteArray := .mk #[42, 182, 1, 76, 42, 180, 0, 122, 3, 46, 61, 42, 4, 27, 120, 182, 1, 173, 28, 42, 180, 0, 122, 3, 46, 100, 172]
theorem zrw_cX11_lossOf_0 : zrW 0 cX11_lossOf zrk_cX11_lossOf_0 := by unfold zrW; decide +kernel
theorem dX11_lossOf_0 : decode cX11_lossOf 0 = .ok (.aload_n 0, 1) := zrD zrw_cX11_lossOf_0 (i := 0) (by decide +kernel) rfl
theorem dX11_lossOf_1 : decode cX11_lossOf 1 = .ok (.invokevirtual 332, 3) := zrD zrw_cX11_lossOf_0 (i := 1) (by decide +kernel) rfl
theorem dX11_lossOf_4 : decode cX11_lossOf 4 = .ok (.aload_n 0, 1) := zrD zrw_cX11_lossOf_0 (i := 4) (by decide +kernel) rfl
theorem dX11_lossOf_5 : decode cX11_lossOf 5 = .ok (.getfield 122, 3) := zrD zrw_cX11_lossOf_0 (i := 5) (by decide +kernel) rfl
theorem dX11_lossOf_8 : decode cX11_lossOf 8 = .ok (.iconst 0, 1) := zrD zrw_cX11_lossOf_0 (i := 8) (by decide +kernel) rfl
theorem dX11_lossOf_9 : decode cX11_lossOf 9 = .ok (.iaload, 1) := zrD zrw_cX11_lossOf_0 (i := 9) (by decide +kernel) rfl
theorem dX11_lossOf_10 : decode cX11_lossOf 10 = .ok (.istore_n 2, 1) := zrD zrw_cX11_lossOf_0 (i := 10) (by decide +kernel) rfl
theorem dX11_lossOf_11 : decode cX11_lossOf 11 = .ok (.aload_n 0, 1) := zrD zrw_cX11_lossOf_0 (i := 11) (by decide +kernel) rfl
theorem dX11_lossOf_12 : decode cX11_lossOf 12 = .ok (.iconst 1, 1) := zrD zrw_cX11_lossOf_0 (i := 12) (by decide +kernel) rfl
theorem dX11_lossOf_13 : decode cX11_lossOf 13 = .ok (.iload_n 1, 1) := zrD zrw_cX11_lossOf_0 (i := 13) (by decide +kernel) rfl
theorem dX11_lossOf_14 : decode cX11_lossOf 14 = .ok (.ishl, 1) := zrD zrw_cX11_lossOf_0 (i := 14) (by decide +kernel) rfl
theorem dX11_lossOf_15 : decode cX11_lossOf 15 = .ok (.invokevirtual 429, 3) := zrD zrw_cX11_lossOf_0 (i := 15) (by decide +kernel) rfl
theorem dX11_lossOf_18 : decode cX11_lossOf 18 = .ok (.iload_n 2, 1) := zrD zrw_cX11_lossOf_0 (i := 18) (by decide +kernel) rfl
theorem dX11_lossOf_19 : decode cX11_lossOf 19 = .ok (.aload_n 0, 1) := zrD zrw_cX11_lossOf_0 (i := 19) (by decide +kernel) rfl
theorem dX11_lossOf_20 : decode cX11_lossOf 20 = .ok (.getfield 122, 3) := zrD zrw_cX11_lossOf_0 (i := 20) (by decide +kernel) rfl
theorem dX11_lossOf_23 : decode cX11_lossOf 23 = .ok (.iconst 0, 1) := zrD zrw_cX11_lossOf_0 (i := 23) (by decide +kernel) rfl
theorem dX11_lossOf_24 : decode cX11_lossOf 24 = .ok (.iaload, 1) := zrD zrw_cX11_lossOf_0 (i := 24) (by decide +kernel) rfl
theorem dX11_lossOf_25 : decode cX11_lossOf 25 = .ok (.isub, 1) := zrD zrw_cX11_lossOf_0 (i := 25) (by decide +kernel) rfl
theorem dX11_lossOf_26 : decode cX11_lossOf 26 = .ok (.ireturn, 1) := zrD zrw_cX11_lossOf_0 (i := 26) (by decide +kernel) rfl
def zrk_cX11_loss_0 : ByteArray := .mk #[42, 27, 182, 1, 83, 153, 0, 11, 42, 27, 182, 1, 176, 167, 0, 4, 2, 172]
theorem zrw_cX11_loss_0 : zrW 0 cX11_loss zrk_cX11_loss_0 := by unfold zrW; decide +kernel
theorem dX11_loss_0 : decode cX11_loss 0 = .ok (.aload_n 0, 1) := zrD zrw_cX11_loss_0 (i := 0) (by decide +kernel) rfl
theorem dX11_loss_1 : decode cX11_loss 1 = .ok (.iload_n 1, 1) := zrD zrw_cX11_loss_0 (i := 1) (by decide +kernel) rfl
theorem dX11_loss_2 : decode cX11_loss 2 = .ok (.invokevirtual 339, 3) := zrD zrw_cX11_loss_0 (i := 2) (by decide +kernel) rfl
theorem dX11_loss_5 : decode cX11_loss 5 = .ok (.ifCond .eq 11, 3) := zrD zrw_cX11_loss_0 (i := 5) (by decide +kernel) rfl
theorem dX11_loss_8 : decode cX11_loss 8 = .ok (.aload_n 0, 1) := zrD zrw_cX11_loss_0 (i := 8) (by decide +kernel) rfl
theorem dX11_loss_9 : decode cX11_loss 9 = .ok (.iload_n 1, 1) := zrD zrw_cX11_loss_0 (i := 9) (by decide +kernel) rfl
theorem dX11_loss_10 : decode cX11_loss 10 = .ok (.invokevirtual 432, 3) := zrD zrw_cX11_loss_0 (i := 10) (by decide +kernel) rfl
theorem dX11_loss_13 : decode cX11_loss 13 = .ok (.goto 4, 3) := zrD zrw_cX11_loss_0 (i := 13) (by decide +kernel) rfl
theorem dX11_loss_16 : decode cX11_loss 16 = .ok (.iconst (-1), 1) := zrD zrw_cX11_loss_0 (i := 16) (by decide +kernel) rfl
theorem dX11_loss_17 : decode cX11_loss 17 = .ok (.ireturn, 1) := zrD zrw_cX11_loss_0 (i := 17) (by decide +kernel) rfl
def zrk_cX11_part_0 : ByteArray := .mk #[42, 27, 182, 1, 83, 154, 0, 5, 2, 172, 42, 27, 182, 1, 176, 61, 42, 182, 1, 76, 42, 180, 0, 122, 3, 46, 154, 0, 7, 3]
theorem zrw_cX11_part_0 : zrW 0 cX11_part zrk_cX11_part_0 := by unfold zrW; decide +kernel
theorem dX11_part_0 : decode cX11_part 0 = .ok (.aload_n 0, 1) := zrD zrw_cX11_part_0 (i := 0) (by decide +kernel) rfl
theorem dX11_part_1 : decode cX11_part 1 = .ok (.iload_n 1, 1) := zrD zrw_cX11_part_0 (i := 1) (by decide +kernel) rfl
theorem dX11_part_2 : decode cX11_part 2 = .ok (.invokevirtual 339, 3) := zrD zrw_cX11_part_0 (i := 2) (by decide +kernel) rfl
theorem dX11_part_5 : decode cX11_part 5 = .ok (.ifCond .ne 5, 3) := zrD zrw_cX11_part_0 (i := 5) (by decide +kernel) rfl
theorem dX11_part_8 : decode cX11_part 8 = .ok (.iconst (-1), 1) := zrD zrw_cX11_part_0 (i := 8) (by decide +kernel) rfl
theorem dX11_part_9 : decode cX11_part 9 = .ok (.ireturn, 1) := zrD zrw_cX11_part_0 (i := 9) (by decide +kernel) rfl
theorem dX11_part_10 : decode cX11_part 10 = .ok (.aload_n 0, 1) := zrD zrw_cX11_part_0 (i := 10) (by decide +kernel) rfl
theorem dX11_part_11 : decode cX11_part 11 = .ok (.iload_n 1, 1) := zrD zrw_cX11_part_0 (i := 11) (by decide +kernel) rfl
theorem dX11_part_12 : decode cX11_part 12 = .ok (.invokevirtual 432, 3) := zrD zrw_cX11_part_0 (i := 12) (by decide +kernel) rfl
theorem dX11_part_15 : decode cX11_part 15 = .ok (.istore_n 2, 1) := zrD zrw_cX11_part_0 (i := 15) (by decide +kernel) rfl
theorem dX11_part_16 : decode cX11_part 16 = .ok (.aload_n 0, 1) := zrD zrw_cX11_part_0 (i := 16) (by decide +kernel) rfl
theorem dX11_part_17 : decode cX11_part 17 = .ok (.invokevirtual 332, 3) := zrD zrw_cX11_part_0 (i := 17) (by decide +kernel) rfl
theorem dX11_part_20 : decode cX11_part 20 = .ok (.aload_n 0, 1) := zrD zrw_cX11_part_0 (i := 20) (by decide +kernel) rfl
theorem dX11_part_21 : decode cX11_part 21 = .ok (.getfield 122, 3) := zrD zrw_cX11_part_0 (i := 21) (by decide +kernel) rfl
theorem dX11_part_24 : decode cX11_part 24 = .ok (.iconst 0, 1) := zrD zrw_cX11_part_0 (i := 24) (by decide +kernel) rfl
theorem dX11_part_25 : decode cX11_part 25 = .ok (.iaload, 1) := zrD zrw_cX11_part_0 (i := 25) (by decide +kernel) rfl
theorem dX11_part_26 : decode cX11_part 26 = .ok (.ifCond .ne 7, 3) := zrD zrw_cX11_part_0 (i := 26) (by decide +kernel) rfl
theorem dX11_part_29 : decode cX11_part 29 = .ok (.iconst 0, 1) := zrD zrw_cX11_part_0 (i := 29) (by decide +kernel) rfl
def zrk_cX11_part_30 : ByteArray := .mk #[167, 0, 15, 17, 3, 232, 28, 104, 42, 180, 0, 122, 3, 46, 108, 172]
theorem zrw_cX11_part_30 : zrW 30 cX11_part zrk_cX11_part_30 := by unfold zrW; decide +kernel
theorem dX11_part_30 : decode cX11_part 30 = .ok (.goto 15, 3) := zrD zrw_cX11_part_30 (i := 0) (by decide +kernel) rfl
theorem dX11_part_33 : decode cX11_part 33 = .ok (.sipush 1000, 3) := zrD zrw_cX11_part_30 (i := 3) (by decide +kernel) rfl
theorem dX11_part_36 : decode cX11_part 36 = .ok (.iload_n 2, 1) := zrD zrw_cX11_part_30 (i := 6) (by decide +kernel) rfl
theorem dX11_part_37 : decode cX11_part 37 = .ok (.imul, 1) := zrD zrw_cX11_part_30 (i := 7) (by decide +kernel) rfl
theorem dX11_part_38 : decode cX11_part 38 = .ok (.aload_n 0, 1) := zrD zrw_cX11_part_30 (i := 8) (by decide +kernel) rfl
theorem dX11_part_39 : decode cX11_part 39 = .ok (.getfield 122, 3) := zrD zrw_cX11_part_30 (i := 9) (by decide +kernel) rfl
theorem dX11_part_42 : decode cX11_part 42 = .ok (.iconst 0, 1) := zrD zrw_cX11_part_30 (i := 12) (by decide +kernel) rfl
theorem dX11_part_43 : decode cX11_part 43 = .ok (.iaload, 1) := zrD zrw_cX11_part_30 (i := 13) (by decide +kernel) rfl
theorem dX11_part_44 : decode cX11_part 44 = .ok (.idiv, 1) := zrD zrw_cX11_part_30 (i := 14) (by decide +kernel) rfl
theorem dX11_part_45 : decode cX11_part 45 = .ok (.ireturn, 1) := zrD zrw_cX11_part_30 (i := 15) (by decide +kernel) rfl
def zrk_cX11_main_0 : ByteArray := .mk #[27, 155, 0, 10, 42, 182, 1, 57, 154, 0, 5, 2, 172, 42, 182, 1, 76, 3, 61, 3, 62, 29, 27, 162, 0, 77, 2, 54, 4, 4, 54, 5]
theorem zrw_cX11_main_0 : zrW 0 cX11_main zrk_cX11_main_0 := by unfold zrW; decide +kernel
theorem dX11_main_0 : decode cX11_main 0 = .ok (.iload_n 1, 1) := zrD zrw_cX11_main_0 (i := 0) (by decide +kernel) rfl
theorem dX11_main_1 : decode cX11_main 1 = .ok (.ifCond .lt 10, 3) := zrD zrw_cX11_main_0 (i := 1) (by decide +kernel) rfl
theorem dX11_main_4 : decode cX11_main 4 = .ok (.aload_n 0, 1) := zrD zrw_cX11_main_0 (i := 4) (by decide +kernel) rfl
theorem dX11_main_5 : decode cX11_main 5 = .ok (.invokevirtual 313, 3) := zrD zrw_cX11_main_0 (i := 5) (by decide +kernel) rfl
theorem dX11_main_8 : decode cX11_main 8 = .ok (.ifCond .ne 5, 3) := zrD zrw_cX11_main_0 (i := 8) (by decide +kernel) rfl
theorem dX11_main_11 : decode cX11_main 11 = .ok (.iconst (-1), 1) := zrD zrw_cX11_main_0 (i := 11) (by decide +kernel) rfl
theorem dX11_main_12 : decode cX11_main 12 = .ok (.ireturn, 1) := zrD zrw_cX11_main_0 (i := 12) (by decide +kernel) rfl
theorem dX11_main_13 : decode cX11_main 13 = .ok (.aload_n 0, 1) := zrD zrw_cX11_main_0 (i := 13) (by decide +kernel) rfl
theorem dX11_main_14 : decode cX11_main 14 = .ok (.invokevirtual 332, 3) := zrD zrw_cX11_main_0 (i := 14) (by decide +kernel) rfl
theorem dX11_main_17 : decode cX11_main 17 = .ok (.iconst 0, 1) := zrD zrw_cX11_main_0 (i := 17) (by decide +kernel) rfl
theorem dX11_main_18 : decode cX11_main 18 = .ok (.istore_n 2, 1) := zrD zrw_cX11_main_0 (i := 18) (by decide +kernel) rfl
theorem dX11_main_19 : decode cX11_main 19 = .ok (.iconst 0, 1) := zrD zrw_cX11_main_0 (i := 19) (by decide +kernel) rfl
theorem dX11_main_20 : decode cX11_main 20 = .ok (.istore_n 3, 1) := zrD zrw_cX11_main_0 (i := 20) (by decide +kernel) rfl
theorem dX11_main_21 : decode cX11_main 21 = .ok (.iload_n 3, 1) := zrD zrw_cX11_main_0 (i := 21) (by decide +kernel) rfl
theorem dX11_main_22 : decode cX11_main 22 = .ok (.iload_n 1, 1) := zrD zrw_cX11_main_0 (i := 22) (by decide +kernel) rfl
theorem dX11_main_23 : decode cX11_main 23 = .ok (.if_icmp .ge 77, 3) := zrD zrw_cX11_main_0 (i := 23) (by decide +kernel) rfl
theorem dX11_main_26 : decode cX11_main 26 = .ok (.iconst (-1), 1) := zrD zrw_cX11_main_0 (i := 26) (by decide +kernel) rfl
theorem dX11_main_27 : decode cX11_main 27 = .ok (.istore 4, 2) := zrD zrw_cX11_main_0 (i := 27) (by decide +kernel) rfl
theorem dX11_main_29 : decode cX11_main 29 = .ok (.iconst 1, 1) := zrD zrw_cX11_main_0 (i := 29) (by decide +kernel) rfl
theorem dX11_main_30 : decode cX11_main 30 = .ok (.istore 5, 2) := zrD zrw_cX11_main_0 (i := 30) (by decide +kernel) rfl
def zrk_cX11_main_32 : ByteArray := .mk #[21, 5, 42, 182, 1, 57, 162, 0, 46, 42, 180, 0, 110, 21, 5, 46, 28, 160, 0, 29, 21, 4, 155, 0, 20, 42, 180, 0, 122, 21, 5, 46]
theorem zrw_cX11_main_32 : zrW 32 cX11_main zrk_cX11_main_32 := by unfold zrW; decide +kernel
theorem dX11_main_32 : decode cX11_main 32 = .ok (.iload 5, 2) := zrD zrw_cX11_main_32 (i := 0) (by decide +kernel) rfl
theorem dX11_main_34 : decode cX11_main 34 = .ok (.aload_n 0, 1) := zrD zrw_cX11_main_32 (i := 2) (by decide +kernel) rfl
theorem dX11_main_35 : decode cX11_main 35 = .ok (.invokevirtual 313, 3) := zrD zrw_cX11_main_32 (i := 3) (by decide +kernel) rfl
theorem dX11_main_38 : decode cX11_main 38 = .ok (.if_icmp .ge 46, 3) := zrD zrw_cX11_main_32 (i := 6) (by decide +kernel) rfl
theorem dX11_main_41 : decode cX11_main 41 = .ok (.aload_n 0, 1) := zrD zrw_cX11_main_32 (i := 9) (by decide +kernel) rfl
theorem dX11_main_42 : decode cX11_main 42 = .ok (.getfield 110, 3) := zrD zrw_cX11_main_32 (i := 10) (by decide +kernel) rfl
theorem dX11_main_45 : decode cX11_main 45 = .ok (.iload 5, 2) := zrD zrw_cX11_main_32 (i := 13) (by decide +kernel) rfl
theorem dX11_main_47 : decode cX11_main 47 = .ok (.iaload, 1) := zrD zrw_cX11_main_32 (i := 15) (by decide +kernel) rfl
theorem dX11_main_48 : decode cX11_main 48 = .ok (.iload_n 2, 1) := zrD zrw_cX11_main_32 (i := 16) (by decide +kernel) rfl
theorem dX11_main_49 : decode cX11_main 49 = .ok (.if_icmp .ne 29, 3) := zrD zrw_cX11_main_32 (i := 17) (by decide +kernel) rfl
theorem dX11_main_52 : decode cX11_main 52 = .ok (.iload 4, 2) := zrD zrw_cX11_main_32 (i := 20) (by decide +kernel) rfl
theorem dX11_main_54 : decode cX11_main 54 = .ok (.ifCond .lt 20, 3) := zrD zrw_cX11_main_32 (i := 22) (by decide +kernel) rfl
theorem dX11_main_57 : decode cX11_main 57 = .ok (.aload_n 0, 1) := zrD zrw_cX11_main_32 (i := 25) (by decide +kernel) rfl
theorem dX11_main_58 : decode cX11_main 58 = .ok (.getfield 122, 3) := zrD zrw_cX11_main_32 (i := 26) (by decide +kernel) rfl
theorem dX11_main_61 : decode cX11_main 61 = .ok (.iload 5, 2) := zrD zrw_cX11_main_32 (i := 29) (by decide +kernel) rfl
theorem dX11_main_63 : decode cX11_main 63 = .ok (.iaload, 1) := zrD zrw_cX11_main_32 (i := 31) (by decide +kernel) rfl
def zrk_cX11_main_64 : ByteArray := .mk #[42, 180, 0, 122, 21, 4, 46, 164, 0, 7, 21, 5, 54, 4, 132, 5, 1, 167, 255, 207, 21, 4, 156, 0, 5, 2, 172, 21, 4, 61]
theorem zrw_cX11_main_64 : zrW 64 cX11_main zrk_cX11_main_64 := by unfold zrW; decide +kernel
theorem dX11_main_64 : decode cX11_main 64 = .ok (.aload_n 0, 1) := zrD zrw_cX11_main_64 (i := 0) (by decide +kernel) rfl
theorem dX11_main_65 : decode cX11_main 65 = .ok (.getfield 122, 3) := zrD zrw_cX11_main_64 (i := 1) (by decide +kernel) rfl
theorem dX11_main_68 : decode cX11_main 68 = .ok (.iload 4, 2) := zrD zrw_cX11_main_64 (i := 4) (by decide +kernel) rfl
theorem dX11_main_70 : decode cX11_main 70 = .ok (.iaload, 1) := zrD zrw_cX11_main_64 (i := 6) (by decide +kernel) rfl
theorem dX11_main_71 : decode cX11_main 71 = .ok (.if_icmp .le 7, 3) := zrD zrw_cX11_main_64 (i := 7) (by decide +kernel) rfl
theorem dX11_main_74 : decode cX11_main 74 = .ok (.iload 5, 2) := zrD zrw_cX11_main_64 (i := 10) (by decide +kernel) rfl
theorem dX11_main_76 : decode cX11_main 76 = .ok (.istore 4, 2) := zrD zrw_cX11_main_64 (i := 12) (by decide +kernel) rfl
theorem dX11_main_78 : decode cX11_main 78 = .ok (.iinc 5 1, 3) := zrD zrw_cX11_main_64 (i := 14) (by decide +kernel) rfl
theorem dX11_main_81 : decode cX11_main 81 = .ok (.goto (-49), 3) := zrD zrw_cX11_main_64 (i := 17) (by decide +kernel) rfl
theorem dX11_main_84 : decode cX11_main 84 = .ok (.iload 4, 2) := zrD zrw_cX11_main_64 (i := 20) (by decide +kernel) rfl
theorem dX11_main_86 : decode cX11_main 86 = .ok (.ifCond .ge 5, 3) := zrD zrw_cX11_main_64 (i := 22) (by decide +kernel) rfl
theorem dX11_main_89 : decode cX11_main 89 = .ok (.iconst (-1), 1) := zrD zrw_cX11_main_64 (i := 25) (by decide +kernel) rfl
theorem dX11_main_90 : decode cX11_main 90 = .ok (.ireturn, 1) := zrD zrw_cX11_main_64 (i := 26) (by decide +kernel) rfl
theorem dX11_main_91 : decode cX11_main 91 = .ok (.iload 4, 2) := zrD zrw_cX11_main_64 (i := 27) (by decide +kernel) rfl
theorem dX11_main_93 : decode cX11_main 93 = .ok (.istore_n 2, 1) := zrD zrw_cX11_main_64 (i := 29) (by decide +kernel) rfl
def zrk_cX11_main_94 : ByteArray := .mk #[132, 3, 1, 167, 255, 180, 28, 172]
theorem zrw_cX11_main_94 : zrW 94 cX11_main zrk_cX11_main_94 := by unfold zrW; decide +kernel
theorem dX11_main_94 : decode cX11_main 94 = .ok (.iinc 3 1, 3) := zrD zrw_cX11_main_94 (i := 0) (by decide +kernel) rfl
theorem dX11_main_97 : decode cX11_main 97 = .ok (.goto (-76), 3) := zrD zrw_cX11_main_94 (i := 3) (by decide +kernel) rfl
theorem dX11_main_100 : decode cX11_main 100 = .ok (.iload_n 2, 1) := zrD zrw_cX11_main_94 (i := 6) (by decide +kernel) rfl
theorem dX11_main_101 : decode cX11_main 101 = .ok (.ireturn, 1) := zrD zrw_cX11_main_94 (i := 7) (by decide +kernel) rfl
def zrk_cX11_driest_0 : ByteArray := .mk #[27, 184, 1, 152, 153, 0, 19, 28, 3, 4, 184, 1, 60, 153, 0, 10, 42, 182, 1, 57, 154, 0, 5, 2, 172, 42, 182, 1, 155, 2, 62, 3]
theorem zrw_cX11_driest_0 : zrW 0 cX11_driest zrk_cX11_driest_0 := by unfold zrW; decide +kernel
theorem dX11_driest_0 : decode cX11_driest 0 = .ok (.iload_n 1, 1) := zrD zrw_cX11_driest_0 (i := 0) (by decide +kernel) rfl
theorem dX11_driest_1 : decode cX11_driest 1 = .ok (.invokestatic 408, 3) := zrD zrw_cX11_driest_0 (i := 1) (by decide +kernel) rfl
theorem dX11_driest_4 : decode cX11_driest 4 = .ok (.ifCond .eq 19, 3) := zrD zrw_cX11_driest_0 (i := 4) (by decide +kernel) rfl
theorem dX11_driest_7 : decode cX11_driest 7 = .ok (.iload_n 2, 1) := zrD zrw_cX11_driest_0 (i := 7) (by decide +kernel) rfl
theorem dX11_driest_8 : decode cX11_driest 8 = .ok (.iconst 0, 1) := zrD zrw_cX11_driest_0 (i := 8) (by decide +kernel) rfl
theorem dX11_driest_9 : decode cX11_driest 9 = .ok (.iconst 1, 1) := zrD zrw_cX11_driest_0 (i := 9) (by decide +kernel) rfl
theorem dX11_driest_10 : decode cX11_driest 10 = .ok (.invokestatic 316, 3) := zrD zrw_cX11_driest_0 (i := 10) (by decide +kernel) rfl
theorem dX11_driest_13 : decode cX11_driest 13 = .ok (.ifCond .eq 10, 3) := zrD zrw_cX11_driest_0 (i := 13) (by decide +kernel) rfl
theorem dX11_driest_16 : decode cX11_driest 16 = .ok (.aload_n 0, 1) := zrD zrw_cX11_driest_0 (i := 16) (by decide +kernel) rfl
theorem dX11_driest_17 : decode cX11_driest 17 = .ok (.invokevirtual 313, 3) := zrD zrw_cX11_driest_0 (i := 17) (by decide +kernel) rfl
theorem dX11_driest_20 : decode cX11_driest 20 = .ok (.ifCond .ne 5, 3) := zrD zrw_cX11_driest_0 (i := 20) (by decide +kernel) rfl
theorem dX11_driest_23 : decode cX11_driest 23 = .ok (.iconst (-1), 1) := zrD zrw_cX11_driest_0 (i := 23) (by decide +kernel) rfl
theorem dX11_driest_24 : decode cX11_driest 24 = .ok (.ireturn, 1) := zrD zrw_cX11_driest_0 (i := 24) (by decide +kernel) rfl
theorem dX11_driest_25 : decode cX11_driest 25 = .ok (.aload_n 0, 1) := zrD zrw_cX11_driest_0 (i := 25) (by decide +kernel) rfl
theorem dX11_driest_26 : decode cX11_driest 26 = .ok (.invokevirtual 411, 3) := zrD zrw_cX11_driest_0 (i := 26) (by decide +kernel) rfl
theorem dX11_driest_29 : decode cX11_driest 29 = .ok (.iconst (-1), 1) := zrD zrw_cX11_driest_0 (i := 29) (by decide +kernel) rfl
theorem dX11_driest_30 : decode cX11_driest 30 = .ok (.istore_n 3, 1) := zrD zrw_cX11_driest_0 (i := 30) (by decide +kernel) rfl
theorem dX11_driest_31 : decode cX11_driest 31 = .ok (.iconst 0, 1) := zrD zrw_cX11_driest_0 (i := 31) (by decide +kernel) rfl
def zrk_cX11_driest_32 : ByteArray := .mk #[54, 4, 3, 54, 5, 21, 5, 27, 162, 0, 39, 29, 155, 0, 14, 42, 180, 0, 122, 3, 46, 21, 4, 162, 0, 14, 21, 5, 62, 42]
theorem zrw_cX11_driest_32 : zrW 32 cX11_driest zrk_cX11_driest_32 := by unfold zrW; decide +kernel
theorem dX11_driest_32 : decode cX11_driest 32 = .ok (.istore 4, 2) := zrD zrw_cX11_driest_32 (i := 0) (by decide +kernel) rfl
theorem dX11_driest_34 : decode cX11_driest 34 = .ok (.iconst 0, 1) := zrD zrw_cX11_driest_32 (i := 2) (by decide +kernel) rfl
theorem dX11_driest_35 : decode cX11_driest 35 = .ok (.istore 5, 2) := zrD zrw_cX11_driest_32 (i := 3) (by decide +kernel) rfl
theorem dX11_driest_37 : decode cX11_driest 37 = .ok (.iload 5, 2) := zrD zrw_cX11_driest_32 (i := 5) (by decide +kernel) rfl
theorem dX11_driest_39 : decode cX11_driest 39 = .ok (.iload_n 1, 1) := zrD zrw_cX11_driest_32 (i := 7) (by decide +kernel) rfl
theorem dX11_driest_40 : decode cX11_driest 40 = .ok (.if_icmp .ge 39, 3) := zrD zrw_cX11_driest_32 (i := 8) (by decide +kernel) rfl
theorem dX11_driest_43 : decode cX11_driest 43 = .ok (.iload_n 3, 1) := zrD zrw_cX11_driest_32 (i := 11) (by decide +kernel) rfl
theorem dX11_driest_44 : decode cX11_driest 44 = .ok (.ifCond .lt 14, 3) := zrD zrw_cX11_driest_32 (i := 12) (by decide +kernel) rfl
theorem dX11_driest_47 : decode cX11_driest 47 = .ok (.aload_n 0, 1) := zrD zrw_cX11_driest_32 (i := 15) (by decide +kernel) rfl
theorem dX11_driest_48 : decode cX11_driest 48 = .ok (.getfield 122, 3) := zrD zrw_cX11_driest_32 (i := 16) (by decide +kernel) rfl
theorem dX11_driest_51 : decode cX11_driest 51 = .ok (.iconst 0, 1) := zrD zrw_cX11_driest_32 (i := 19) (by decide +kernel) rfl
theorem dX11_driest_52 : decode cX11_driest 52 = .ok (.iaload, 1) := zrD zrw_cX11_driest_32 (i := 20) (by decide +kernel) rfl
theorem dX11_driest_53 : decode cX11_driest 53 = .ok (.iload 4, 2) := zrD zrw_cX11_driest_32 (i := 21) (by decide +kernel) rfl
theorem dX11_driest_55 : decode cX11_driest 55 = .ok (.if_icmp .ge 14, 3) := zrD zrw_cX11_driest_32 (i := 23) (by decide +kernel) rfl
theorem dX11_driest_58 : decode cX11_driest 58 = .ok (.iload 5, 2) := zrD zrw_cX11_driest_32 (i := 26) (by decide +kernel) rfl
theorem dX11_driest_60 : decode cX11_driest 60 = .ok (.istore_n 3, 1) := zrD zrw_cX11_driest_32 (i := 28) (by decide +kernel) rfl
theorem dX11_driest_61 : decode cX11_driest 61 = .ok (.aload_n 0, 1) := zrD zrw_cX11_driest_32 (i := 29) (by decide +kernel) rfl
def zrk_cX11_driest_62 : ByteArray := .mk #[180, 0, 122, 3, 46, 54, 4, 42, 182, 1, 124, 132, 5, 1, 167, 255, 217, 28, 154, 0, 7, 29, 167, 0, 5, 21, 4, 172]
theorem zrw_cX11_driest_62 : zrW 62 cX11_driest zrk_cX11_driest_62 := by unfold zrW; decide +kernel
theorem dX11_driest_62 : decode cX11_driest 62 = .ok (.getfield 122, 3) := zrD zrw_cX11_driest_62 (i := 0) (by decide +kernel) rfl
theorem dX11_driest_65 : decode cX11_driest 65 = .ok (.iconst 0, 1) := zrD zrw_cX11_driest_62 (i := 3) (by decide +kernel) rfl
theorem dX11_driest_66 : decode cX11_driest 66 = .ok (.iaload, 1) := zrD zrw_cX11_driest_62 (i := 4) (by decide +kernel) rfl
theorem dX11_driest_67 : decode cX11_driest 67 = .ok (.istore 4, 2) := zrD zrw_cX11_driest_62 (i := 5) (by decide +kernel) rfl
theorem dX11_driest_69 : decode cX11_driest 69 = .ok (.aload_n 0, 1) := zrD zrw_cX11_driest_62 (i := 7) (by decide +kernel) rfl
theorem dX11_driest_70 : decode cX11_driest 70 = .ok (.invokevirtual 380, 3) := zrD zrw_cX11_driest_62 (i := 8) (by decide +kernel) rfl
theorem dX11_driest_73 : decode cX11_driest 73 = .ok (.iinc 5 1, 3) := zrD zrw_cX11_driest_62 (i := 11) (by decide +kernel) rfl
theorem dX11_driest_76 : decode cX11_driest 76 = .ok (.goto (-39), 3) := zrD zrw_cX11_driest_62 (i := 14) (by decide +kernel) rfl
theorem dX11_driest_79 : decode cX11_driest 79 = .ok (.iload_n 2, 1) := zrD zrw_cX11_driest_62 (i := 17) (by decide +kernel) rfl
theorem dX11_driest_80 : decode cX11_driest 80 = .ok (.ifCond .ne 7, 3) := zrD zrw_cX11_driest_62 (i := 18) (by decide +kernel) rfl
theorem dX11_driest_83 : decode cX11_driest 83 = .ok (.iload_n 3, 1) := zrD zrw_cX11_driest_62 (i := 21) (by decide +kernel) rfl
theorem dX11_driest_84 : decode cX11_driest 84 = .ok (.goto 5, 3) := zrD zrw_cX11_driest_62 (i := 22) (by decide +kernel) rfl
theorem dX11_driest_87 : decode cX11_driest 87 = .ok (.iload 4, 2) := zrD zrw_cX11_driest_62 (i := 25) (by decide +kernel) rfl
theorem dX11_driest_89 : decode cX11_driest 89 = .ok (.ireturn, 1) := zrD zrw_cX11_driest_62 (i := 27) (by decide +kernel) rfl
def zrk_cX11_winsTurned_0 : ByteArray := .mk #[42, 182, 1, 76, 29, 27, 159, 0, 19, 21, 4, 27, 159, 0, 13, 42, 29, 21, 4, 182, 1, 143, 154, 0, 5, 3, 172, 42, 180, 0, 110, 29]
theorem zrw_cX11_winsTurned_0 : zrW 0 cX11_winsTurned zrk_cX11_winsTurned_0 := by unfold zrW; decide +kernel
theorem dX11_winsTurned_0 : decode cX11_winsTurned 0 = .ok (.aload_n 0, 1) := zrD zrw_cX11_winsTurned_0 (i := 0) (by decide +kernel) rfl
theorem dX11_winsTurned_1 : decode cX11_winsTurned 1 = .ok (.invokevirtual 332, 3) := zrD zrw_cX11_winsTurned_0 (i := 1) (by decide +kernel) rfl
theorem dX11_winsTurned_4 : decode cX11_winsTurned 4 = .ok (.iload_n 3, 1) := zrD zrw_cX11_winsTurned_0 (i := 4) (by decide +kernel) rfl
theorem dX11_winsTurned_5 : decode cX11_winsTurned 5 = .ok (.iload_n 1, 1) := zrD zrw_cX11_winsTurned_0 (i := 5) (by decide +kernel) rfl
theorem dX11_winsTurned_6 : decode cX11_winsTurned 6 = .ok (.if_icmp .eq 19, 3) := zrD zrw_cX11_winsTurned_0 (i := 6) (by decide +kernel) rfl
theorem dX11_winsTurned_9 : decode cX11_winsTurned 9 = .ok (.iload 4, 2) := zrD zrw_cX11_winsTurned_0 (i := 9) (by decide +kernel) rfl
theorem dX11_winsTurned_11 : decode cX11_winsTurned 11 = .ok (.iload_n 1, 1) := zrD zrw_cX11_winsTurned_0 (i := 11) (by decide +kernel) rfl
theorem dX11_winsTurned_12 : decode cX11_winsTurned 12 = .ok (.if_icmp .eq 13, 3) := zrD zrw_cX11_winsTurned_0 (i := 12) (by decide +kernel) rfl
theorem dX11_winsTurned_15 : decode cX11_winsTurned 15 = .ok (.aload_n 0, 1) := zrD zrw_cX11_winsTurned_0 (i := 15) (by decide +kernel) rfl
theorem dX11_winsTurned_16 : decode cX11_winsTurned 16 = .ok (.iload_n 3, 1) := zrD zrw_cX11_winsTurned_0 (i := 16) (by decide +kernel) rfl
theorem dX11_winsTurned_17 : decode cX11_winsTurned 17 = .ok (.iload 4, 2) := zrD zrw_cX11_winsTurned_0 (i := 17) (by decide +kernel) rfl
theorem dX11_winsTurned_19 : decode cX11_winsTurned 19 = .ok (.invokevirtual 399, 3) := zrD zrw_cX11_winsTurned_0 (i := 19) (by decide +kernel) rfl
theorem dX11_winsTurned_22 : decode cX11_winsTurned 22 = .ok (.ifCond .ne 5, 3) := zrD zrw_cX11_winsTurned_0 (i := 22) (by decide +kernel) rfl
theorem dX11_winsTurned_25 : decode cX11_winsTurned 25 = .ok (.iconst 0, 1) := zrD zrw_cX11_winsTurned_0 (i := 25) (by decide +kernel) rfl
theorem dX11_winsTurned_26 : decode cX11_winsTurned 26 = .ok (.ireturn, 1) := zrD zrw_cX11_winsTurned_0 (i := 26) (by decide +kernel) rfl
theorem dX11_winsTurned_27 : decode cX11_winsTurned 27 = .ok (.aload_n 0, 1) := zrD zrw_cX11_winsTurned_0 (i := 27) (by decide +kernel) rfl
theorem dX11_winsTurned_28 : decode cX11_winsTurned 28 = .ok (.getfield 110, 3) := zrD zrw_cX11_winsTurned_0 (i := 28) (by decide +kernel) rfl
theorem dX11_winsTurned_31 : decode cX11_winsTurned 31 = .ok (.iload_n 3, 1) := zrD zrw_cX11_winsTurned_0 (i := 31) (by decide +kernel) rfl
def zrk_cX11_winsTurned_32 : ByteArray := .mk #[21, 4, 79, 42, 182, 1, 70, 42, 3, 182, 1, 73, 42, 28, 182, 1, 118, 27, 160, 0, 7, 4, 167, 0, 4, 3, 172]
theorem zrw_cX11_winsTurned_32 : zrW 32 cX11_winsTurned zrk_cX11_winsTurned_32 := by unfold zrW; decide +kernel
theorem dX11_winsTurned_32 : decode cX11_winsTurned 32 = .ok (.iload 4, 2) := zrD zrw_cX11_winsTurned_32 (i := 0) (by decide +kernel) rfl
theorem dX11_winsTurned_34 : decode cX11_winsTurned 34 = .ok (.iastore, 1) := zrD zrw_cX11_winsTurned_32 (i := 2) (by decide +kernel) rfl
theorem dX11_winsTurned_35 : decode cX11_winsTurned 35 = .ok (.aload_n 0, 1) := zrD zrw_cX11_winsTurned_32 (i := 3) (by decide +kernel) rfl
theorem dX11_winsTurned_36 : decode cX11_winsTurned 36 = .ok (.invokevirtual 326, 3) := zrD zrw_cX11_winsTurned_32 (i := 4) (by decide +kernel) rfl
theorem dX11_winsTurned_39 : decode cX11_winsTurned 39 = .ok (.aload_n 0, 1) := zrD zrw_cX11_winsTurned_32 (i := 7) (by decide +kernel) rfl
theorem dX11_winsTurned_40 : decode cX11_winsTurned 40 = .ok (.iconst 0, 1) := zrD zrw_cX11_winsTurned_32 (i := 8) (by decide +kernel) rfl
theorem dX11_winsTurned_41 : decode cX11_winsTurned 41 = .ok (.invokevirtual 329, 3) := zrD zrw_cX11_winsTurned_32 (i := 9) (by decide +kernel) rfl
theorem dX11_winsTurned_44 : decode cX11_winsTurned 44 = .ok (.aload_n 0, 1) := zrD zrw_cX11_winsTurned_32 (i := 12) (by decide +kernel) rfl
theorem dX11_winsTurned_45 : decode cX11_winsTurned 45 = .ok (.iload_n 2, 1) := zrD zrw_cX11_winsTurned_32 (i := 13) (by decide +kernel) rfl
theorem dX11_winsTurned_46 : decode cX11_winsTurned 46 = .ok (.invokevirtual 374, 3) := zrD zrw_cX11_winsTurned_32 (i := 14) (by decide +kernel) rfl
theorem dX11_winsTurned_49 : decode cX11_winsTurned 49 = .ok (.iload_n 1, 1) := zrD zrw_cX11_winsTurned_32 (i := 17) (by decide +kernel) rfl
theorem dX11_winsTurned_50 : decode cX11_winsTurned 50 = .ok (.if_icmp .ne 7, 3) := zrD zrw_cX11_winsTurned_32 (i := 18) (by decide +kernel) rfl
theorem dX11_winsTurned_53 : decode cX11_winsTurned 53 = .ok (.iconst 1, 1) := zrD zrw_cX11_winsTurned_32 (i := 21) (by decide +kernel) rfl
theorem dX11_winsTurned_54 : decode cX11_winsTurned 54 = .ok (.goto 4, 3) := zrD zrw_cX11_winsTurned_32 (i := 22) (by decide +kernel) rfl
theorem dX11_winsTurned_57 : decode cX11_winsTurned 57 = .ok (.iconst 0, 1) := zrD zrw_cX11_winsTurned_32 (i := 25) (by decide +kernel) rfl
theorem dX11_winsTurned_58 : decode cX11_winsTurned 58 = .ok (.ireturn, 1) := zrD zrw_cX11_winsTurned_32 (i := 26) (by decide +kernel) rfl
def zrk_cX11_turnFor_0 : ByteArray := .mk #[42, 27, 28, 182, 1, 133, 154, 0, 5, 2, 172, 4, 62, 29, 42, 182, 1, 57, 162, 0, 47, 3, 54, 4, 21, 4, 42, 182, 1, 57]
theorem zrw_cX11_turnFor_0 : zrW 0 cX11_turnFor zrk_cX11_turnFor_0 := by unfold zrW; decide +kernel
theorem dX11_turnFor_0 : decode cX11_turnFor 0 = .ok (.aload_n 0, 1) := zrD zrw_cX11_turnFor_0 (i := 0) (by decide +kernel) rfl
theorem dX11_turnFor_1 : decode cX11_turnFor 1 = .ok (.iload_n 1, 1) := zrD zrw_cX11_turnFor_0 (i := 1) (by decide +kernel) rfl
theorem dX11_turnFor_2 : decode cX11_turnFor 2 = .ok (.iload_n 2, 1) := zrD zrw_cX11_turnFor_0 (i := 2) (by decide +kernel) rfl
theorem dX11_turnFor_3 : decode cX11_turnFor 3 = .ok (.invokevirtual 389, 3) := zrD zrw_cX11_turnFor_0 (i := 3) (by decide +kernel) rfl
theorem dX11_turnFor_6 : decode cX11_turnFor 6 = .ok (.ifCond .ne 5, 3) := zrD zrw_cX11_turnFor_0 (i := 6) (by decide +kernel) rfl
theorem dX11_turnFor_9 : decode cX11_turnFor 9 = .ok (.iconst (-1), 1) := zrD zrw_cX11_turnFor_0 (i := 9) (by decide +kernel) rfl
theorem dX11_turnFor_10 : decode cX11_turnFor 10 = .ok (.ireturn, 1) := zrD zrw_cX11_turnFor_0 (i := 10) (by decide +kernel) rfl
theorem dX11_turnFor_11 : decode cX11_turnFor 11 = .ok (.iconst 1, 1) := zrD zrw_cX11_turnFor_0 (i := 11) (by decide +kernel) rfl
theorem dX11_turnFor_12 : decode cX11_turnFor 12 = .ok (.istore_n 3, 1) := zrD zrw_cX11_turnFor_0 (i := 12) (by decide +kernel) rfl
theorem dX11_turnFor_13 : decode cX11_turnFor 13 = .ok (.iload_n 3, 1) := zrD zrw_cX11_turnFor_0 (i := 13) (by decide +kernel) rfl
theorem dX11_turnFor_14 : decode cX11_turnFor 14 = .ok (.aload_n 0, 1) := zrD zrw_cX11_turnFor_0 (i := 14) (by decide +kernel) rfl
theorem dX11_turnFor_15 : decode cX11_turnFor 15 = .ok (.invokevirtual 313, 3) := zrD zrw_cX11_turnFor_0 (i := 15) (by decide +kernel) rfl
theorem dX11_turnFor_18 : decode cX11_turnFor 18 = .ok (.if_icmp .ge 47, 3) := zrD zrw_cX11_turnFor_0 (i := 18) (by decide +kernel) rfl
theorem dX11_turnFor_21 : decode cX11_turnFor 21 = .ok (.iconst 0, 1) := zrD zrw_cX11_turnFor_0 (i := 21) (by decide +kernel) rfl
theorem dX11_turnFor_22 : decode cX11_turnFor 22 = .ok (.istore 4, 2) := zrD zrw_cX11_turnFor_0 (i := 22) (by decide +kernel) rfl
theorem dX11_turnFor_24 : decode cX11_turnFor 24 = .ok (.iload 4, 2) := zrD zrw_cX11_turnFor_0 (i := 24) (by decide +kernel) rfl
theorem dX11_turnFor_26 : decode cX11_turnFor 26 = .ok (.aload_n 0, 1) := zrD zrw_cX11_turnFor_0 (i := 26) (by decide +kernel) rfl
theorem dX11_turnFor_27 : decode cX11_turnFor 27 = .ok (.invokevirtual 313, 3) := zrD zrw_cX11_turnFor_0 (i := 27) (by decide +kernel) rfl
def zrk_cX11_turnFor_30 : ByteArray := .mk #[162, 0, 29, 42, 27, 28, 29, 21, 4, 182, 1, 179, 153, 0, 11, 16, 100, 29, 104, 21, 4, 96, 172, 132, 4, 1, 167, 255, 224, 132, 3, 1]
theorem zrw_cX11_turnFor_30 : zrW 30 cX11_turnFor zrk_cX11_turnFor_30 := by unfold zrW; decide +kernel
theorem dX11_turnFor_30 : decode cX11_turnFor 30 = .ok (.if_icmp .ge 29, 3) := zrD zrw_cX11_turnFor_30 (i := 0) (by decide +kernel) rfl
theorem dX11_turnFor_33 : decode cX11_turnFor 33 = .ok (.aload_n 0, 1) := zrD zrw_cX11_turnFor_30 (i := 3) (by decide +kernel) rfl
theorem dX11_turnFor_34 : decode cX11_turnFor 34 = .ok (.iload_n 1, 1) := zrD zrw_cX11_turnFor_30 (i := 4) (by decide +kernel) rfl
theorem dX11_turnFor_35 : decode cX11_turnFor 35 = .ok (.iload_n 2, 1) := zrD zrw_cX11_turnFor_30 (i := 5) (by decide +kernel) rfl
theorem dX11_turnFor_36 : decode cX11_turnFor 36 = .ok (.iload_n 3, 1) := zrD zrw_cX11_turnFor_30 (i := 6) (by decide +kernel) rfl
theorem dX11_turnFor_37 : decode cX11_turnFor 37 = .ok (.iload 4, 2) := zrD zrw_cX11_turnFor_30 (i := 7) (by decide +kernel) rfl
theorem dX11_turnFor_39 : decode cX11_turnFor 39 = .ok (.invokevirtual 435, 3) := zrD zrw_cX11_turnFor_30 (i := 9) (by decide +kernel) rfl
theorem dX11_turnFor_42 : decode cX11_turnFor 42 = .ok (.ifCond .eq 11, 3) := zrD zrw_cX11_turnFor_30 (i := 12) (by decide +kernel) rfl
theorem dX11_turnFor_45 : decode cX11_turnFor 45 = .ok (.bipush 100, 2) := zrD zrw_cX11_turnFor_30 (i := 15) (by decide +kernel) rfl
theorem dX11_turnFor_47 : decode cX11_turnFor 47 = .ok (.iload_n 3, 1) := zrD zrw_cX11_turnFor_30 (i := 17) (by decide +kernel) rfl
theorem dX11_turnFor_48 : decode cX11_turnFor 48 = .ok (.imul, 1) := zrD zrw_cX11_turnFor_30 (i := 18) (by decide +kernel) rfl
theorem dX11_turnFor_49 : decode cX11_turnFor 49 = .ok (.iload 4, 2) := zrD zrw_cX11_turnFor_30 (i := 19) (by decide +kernel) rfl
theorem dX11_turnFor_51 : decode cX11_turnFor 51 = .ok (.iadd, 1) := zrD zrw_cX11_turnFor_30 (i := 21) (by decide +kernel) rfl
theorem dX11_turnFor_52 : decode cX11_turnFor 52 = .ok (.ireturn, 1) := zrD zrw_cX11_turnFor_30 (i := 22) (by decide +kernel) rfl
theorem dX11_turnFor_53 : decode cX11_turnFor 53 = .ok (.iinc 4 1, 3) := zrD zrw_cX11_turnFor_30 (i := 23) (by decide +kernel) rfl
theorem dX11_turnFor_56 : decode cX11_turnFor 56 = .ok (.goto (-32), 3) := zrD zrw_cX11_turnFor_30 (i := 26) (by decide +kernel) rfl
theorem dX11_turnFor_59 : decode cX11_turnFor 59 = .ok (.iinc 3 1, 3) := zrD zrw_cX11_turnFor_30 (i := 29) (by decide +kernel) rfl
def zrk_cX11_turnFor_62 : ByteArray := .mk #[167, 255, 207, 16, 254, 172]
theorem zrw_cX11_turnFor_62 : zrW 62 cX11_turnFor zrk_cX11_turnFor_62 := by unfold zrW; decide +kernel
theorem dX11_turnFor_62 : decode cX11_turnFor 62 = .ok (.goto (-49), 3) := zrD zrw_cX11_turnFor_62 (i := 0) (by decide +kernel) rfl
theorem dX11_turnFor_65 : decode cX11_turnFor 65 = .ok (.bipush (-2), 2) := zrD zrw_cX11_turnFor_62 (i := 3) (by decide +kernel) rfl
theorem dX11_turnFor_67 : decode cX11_turnFor 67 = .ok (.ireturn, 1) := zrD zrw_cX11_turnFor_62 (i := 5) (by decide +kernel) rfl
def zrk_cX11_damFor_0 : ByteArray := .mk #[42, 27, 28, 182, 1, 133, 154, 0, 5, 2, 172, 4, 62, 29, 42, 182, 1, 57, 162, 0, 43, 42, 180, 0, 107, 16, 12, 29, 96, 46, 4]
theorem zrw_cX11_damFor_0 : zrW 0 cX11_damFor zrk_cX11_damFor_0 := by unfold zrW; decide +kernel
theorem dX11_damFor_0 : decode cX11_damFor 0 = .ok (.aload_n 0, 1) := zrD zrw_cX11_damFor_0 (i := 0) (by decide +kernel) rfl
theorem dX11_damFor_1 : decode cX11_damFor 1 = .ok (.iload_n 1, 1) := zrD zrw_cX11_damFor_0 (i := 1) (by decide +kernel) rfl
theorem dX11_damFor_2 : decode cX11_damFor 2 = .ok (.iload_n 2, 1) := zrD zrw_cX11_damFor_0 (i := 2) (by decide +kernel) rfl
theorem dX11_damFor_3 : decode cX11_damFor 3 = .ok (.invokevirtual 389, 3) := zrD zrw_cX11_damFor_0 (i := 3) (by decide +kernel) rfl
theorem dX11_damFor_6 : decode cX11_damFor 6 = .ok (.ifCond .ne 5, 3) := zrD zrw_cX11_damFor_0 (i := 6) (by decide +kernel) rfl
theorem dX11_damFor_9 : decode cX11_damFor 9 = .ok (.iconst (-1), 1) := zrD zrw_cX11_damFor_0 (i := 9) (by decide +kernel) rfl
theorem dX11_damFor_10 : decode cX11_damFor 10 = .ok (.ireturn, 1) := zrD zrw_cX11_damFor_0 (i := 10) (by decide +kernel) rfl
theorem dX11_damFor_11 : decode cX11_damFor 11 = .ok (.iconst 1, 1) := zrD zrw_cX11_damFor_0 (i := 11) (by decide +kernel) rfl
theorem dX11_damFor_12 : decode cX11_damFor 12 = .ok (.istore_n 3, 1) := zrD zrw_cX11_damFor_0 (i := 12) (by decide +kernel) rfl
theorem dX11_damFor_13 : decode cX11_damFor 13 = .ok (.iload_n 3, 1) := zrD zrw_cX11_damFor_0 (i := 13) (by decide +kernel) rfl
theorem dX11_damFor_14 : decode cX11_damFor 14 = .ok (.aload_n 0, 1) := zrD zrw_cX11_damFor_0 (i := 14) (by decide +kernel) rfl
theorem dX11_damFor_15 : decode cX11_damFor 15 = .ok (.invokevirtual 313, 3) := zrD zrw_cX11_damFor_0 (i := 15) (by decide +kernel) rfl
theorem dX11_damFor_18 : decode cX11_damFor 18 = .ok (.if_icmp .ge 43, 3) := zrD zrw_cX11_damFor_0 (i := 18) (by decide +kernel) rfl
theorem dX11_damFor_21 : decode cX11_damFor 21 = .ok (.aload_n 0, 1) := zrD zrw_cX11_damFor_0 (i := 21) (by decide +kernel) rfl
theorem dX11_damFor_22 : decode cX11_damFor 22 = .ok (.getfield 107, 3) := zrD zrw_cX11_damFor_0 (i := 22) (by decide +kernel) rfl
theorem dX11_damFor_25 : decode cX11_damFor 25 = .ok (.bipush 12, 2) := zrD zrw_cX11_damFor_0 (i := 25) (by decide +kernel) rfl
theorem dX11_damFor_27 : decode cX11_damFor 27 = .ok (.iload_n 3, 1) := zrD zrw_cX11_damFor_0 (i := 27) (by decide +kernel) rfl
theorem dX11_damFor_28 : decode cX11_damFor 28 = .ok (.iadd, 1) := zrD zrw_cX11_damFor_0 (i := 28) (by decide +kernel) rfl
theorem dX11_damFor_29 : decode cX11_damFor 29 = .ok (.iaload, 1) := zrD zrw_cX11_damFor_0 (i := 29) (by decide +kernel) rfl
theorem dX11_damFor_30 : decode cX11_damFor 30 = .ok (.iconst 1, 1) := zrD zrw_cX11_damFor_0 (i := 30) (by decide +kernel) rfl
def zrk_cX11_damFor_31 : ByteArray := .mk #[160, 0, 6, 167, 0, 21, 42, 4, 29, 120, 182, 1, 173, 42, 28, 182, 1, 118, 27, 160, 0, 5, 29, 172, 132, 3, 1, 167, 255, 211, 16, 254]
theorem zrw_cX11_damFor_31 : zrW 31 cX11_damFor zrk_cX11_damFor_31 := by unfold zrW; decide +kernel
theorem dX11_damFor_31 : decode cX11_damFor 31 = .ok (.if_icmp .ne 6, 3) := zrD zrw_cX11_damFor_31 (i := 0) (by decide +kernel) rfl
theorem dX11_damFor_34 : decode cX11_damFor 34 = .ok (.goto 21, 3) := zrD zrw_cX11_damFor_31 (i := 3) (by decide +kernel) rfl
theorem dX11_damFor_37 : decode cX11_damFor 37 = .ok (.aload_n 0, 1) := zrD zrw_cX11_damFor_31 (i := 6) (by decide +kernel) rfl
theorem dX11_damFor_38 : decode cX11_damFor 38 = .ok (.iconst 1, 1) := zrD zrw_cX11_damFor_31 (i := 7) (by decide +kernel) rfl
theorem dX11_damFor_39 : decode cX11_damFor 39 = .ok (.iload_n 3, 1) := zrD zrw_cX11_damFor_31 (i := 8) (by decide +kernel) rfl
theorem dX11_damFor_40 : decode cX11_damFor 40 = .ok (.ishl, 1) := zrD zrw_cX11_damFor_31 (i := 9) (by decide +kernel) rfl
theorem dX11_damFor_41 : decode cX11_damFor 41 = .ok (.invokevirtual 429, 3) := zrD zrw_cX11_damFor_31 (i := 10) (by decide +kernel) rfl
theorem dX11_damFor_44 : decode cX11_damFor 44 = .ok (.aload_n 0, 1) := zrD zrw_cX11_damFor_31 (i := 13) (by decide +kernel) rfl
theorem dX11_damFor_45 : decode cX11_damFor 45 = .ok (.iload_n 2, 1) := zrD zrw_cX11_damFor_31 (i := 14) (by decide +kernel) rfl
theorem dX11_damFor_46 : decode cX11_damFor 46 = .ok (.invokevirtual 374, 3) := zrD zrw_cX11_damFor_31 (i := 15) (by decide +kernel) rfl
theorem dX11_damFor_49 : decode cX11_damFor 49 = .ok (.iload_n 1, 1) := zrD zrw_cX11_damFor_31 (i := 18) (by decide +kernel) rfl
theorem dX11_damFor_50 : decode cX11_damFor 50 = .ok (.if_icmp .ne 5, 3) := zrD zrw_cX11_damFor_31 (i := 19) (by decide +kernel) rfl
theorem dX11_damFor_53 : decode cX11_damFor 53 = .ok (.iload_n 3, 1) := zrD zrw_cX11_damFor_31 (i := 22) (by decide +kernel) rfl
theorem dX11_damFor_54 : decode cX11_damFor 54 = .ok (.ireturn, 1) := zrD zrw_cX11_damFor_31 (i := 23) (by decide +kernel) rfl
theorem dX11_damFor_55 : decode cX11_damFor 55 = .ok (.iinc 3 1, 3) := zrD zrw_cX11_damFor_31 (i := 24) (by decide +kernel) rfl
theorem dX11_damFor_58 : decode cX11_damFor 58 = .ok (.goto (-45), 3) := zrD zrw_cX11_damFor_31 (i := 27) (by decide +kernel) rfl
theorem dX11_damFor_61 : decode cX11_damFor 61 = .ok (.bipush (-2), 2) := zrD zrw_cX11_damFor_31 (i := 30) (by decide +kernel) rfl
def zrk_cX11_damFor_63 : ByteArray := .mk #[172]
theorem zrw_cX11_damFor_63 : zrW 63 cX11_damFor zrk_cX11_damFor_63 := by unfold zrW; decide +kernel
theorem dX11_damFor_63 : decode cX11_damFor 63 = .ok (.ireturn, 1) := zrD zrw_cX11_damFor_63 (i := 0) (by decide +kernel) rfl
def zrk_cX11_depth_0 : ByteArray := .mk #[42, 182, 1, 76, 3, 60, 4, 61, 28, 42, 182, 1, 57, 162, 0, 38, 42, 28, 182, 1, 86, 153, 0, 24, 42, 180, 0, 116, 28, 46, 4, 96]
theorem zrw_cX11_depth_0 : zrW 0 cX11_depth zrk_cX11_depth_0 := by unfold zrW; decide +kernel
theorem dX11_depth_0 : decode cX11_depth 0 = .ok (.aload_n 0, 1) := zrD zrw_cX11_depth_0 (i := 0) (by decide +kernel) rfl
theorem dX11_depth_1 : decode cX11_depth 1 = .ok (.invokevirtual 332, 3) := zrD zrw_cX11_depth_0 (i := 1) (by decide +kernel) rfl
theorem dX11_depth_4 : decode cX11_depth 4 = .ok (.iconst 0, 1) := zrD zrw_cX11_depth_0 (i := 4) (by decide +kernel) rfl
theorem dX11_depth_5 : decode cX11_depth 5 = .ok (.istore_n 1, 1) := zrD zrw_cX11_depth_0 (i := 5) (by decide +kernel) rfl
theorem dX11_depth_6 : decode cX11_depth 6 = .ok (.iconst 1, 1) := zrD zrw_cX11_depth_0 (i := 6) (by decide +kernel) rfl
theorem dX11_depth_7 : decode cX11_depth 7 = .ok (.istore_n 2, 1) := zrD zrw_cX11_depth_0 (i := 7) (by decide +kernel) rfl
theorem dX11_depth_8 : decode cX11_depth 8 = .ok (.iload_n 2, 1) := zrD zrw_cX11_depth_0 (i := 8) (by decide +kernel) rfl
theorem dX11_depth_9 : decode cX11_depth 9 = .ok (.aload_n 0, 1) := zrD zrw_cX11_depth_0 (i := 9) (by decide +kernel) rfl
theorem dX11_depth_10 : decode cX11_depth 10 = .ok (.invokevirtual 313, 3) := zrD zrw_cX11_depth_0 (i := 10) (by decide +kernel) rfl
theorem dX11_depth_13 : decode cX11_depth 13 = .ok (.if_icmp .ge 38, 3) := zrD zrw_cX11_depth_0 (i := 13) (by decide +kernel) rfl
theorem dX11_depth_16 : decode cX11_depth 16 = .ok (.aload_n 0, 1) := zrD zrw_cX11_depth_0 (i := 16) (by decide +kernel) rfl
theorem dX11_depth_17 : decode cX11_depth 17 = .ok (.iload_n 2, 1) := zrD zrw_cX11_depth_0 (i := 17) (by decide +kernel) rfl
theorem dX11_depth_18 : decode cX11_depth 18 = .ok (.invokevirtual 342, 3) := zrD zrw_cX11_depth_0 (i := 18) (by decide +kernel) rfl
theorem dX11_depth_21 : decode cX11_depth 21 = .ok (.ifCond .eq 24, 3) := zrD zrw_cX11_depth_0 (i := 21) (by decide +kernel) rfl
theorem dX11_depth_24 : decode cX11_depth 24 = .ok (.aload_n 0, 1) := zrD zrw_cX11_depth_0 (i := 24) (by decide +kernel) rfl
theorem dX11_depth_25 : decode cX11_depth 25 = .ok (.getfield 116, 3) := zrD zrw_cX11_depth_0 (i := 25) (by decide +kernel) rfl
theorem dX11_depth_28 : decode cX11_depth 28 = .ok (.iload_n 2, 1) := zrD zrw_cX11_depth_0 (i := 28) (by decide +kernel) rfl
theorem dX11_depth_29 : decode cX11_depth 29 = .ok (.iaload, 1) := zrD zrw_cX11_depth_0 (i := 29) (by decide +kernel) rfl
theorem dX11_depth_30 : decode cX11_depth 30 = .ok (.iconst 1, 1) := zrD zrw_cX11_depth_0 (i := 30) (by decide +kernel) rfl
theorem dX11_depth_31 : decode cX11_depth 31 = .ok (.iadd, 1) := zrD zrw_cX11_depth_0 (i := 31) (by decide +kernel) rfl
def zrk_cX11_depth_32 : ByteArray := .mk #[27, 164, 0, 12, 42, 180, 0, 116, 28, 46, 4, 96, 60, 132, 2, 1, 167, 255, 216, 27, 172]
theorem zrw_cX11_depth_32 : zrW 32 cX11_depth zrk_cX11_depth_32 := by unfold zrW; decide +kernel
theorem dX11_depth_32 : decode cX11_depth 32 = .ok (.iload_n 1, 1) := zrD zrw_cX11_depth_32 (i := 0) (by decide +kernel) rfl
theorem dX11_depth_33 : decode cX11_depth 33 = .ok (.if_icmp .le 12, 3) := zrD zrw_cX11_depth_32 (i := 1) (by decide +kernel) rfl
theorem dX11_depth_36 : decode cX11_depth 36 = .ok (.aload_n 0, 1) := zrD zrw_cX11_depth_32 (i := 4) (by decide +kernel) rfl
theorem dX11_depth_37 : decode cX11_depth 37 = .ok (.getfield 116, 3) := zrD zrw_cX11_depth_32 (i := 5) (by decide +kernel) rfl
theorem dX11_depth_40 : decode cX11_depth 40 = .ok (.iload_n 2, 1) := zrD zrw_cX11_depth_32 (i := 8) (by decide +kernel) rfl
theorem dX11_depth_41 : decode cX11_depth 41 = .ok (.iaload, 1) := zrD zrw_cX11_depth_32 (i := 9) (by decide +kernel) rfl
theorem dX11_depth_42 : decode cX11_depth 42 = .ok (.iconst 1, 1) := zrD zrw_cX11_depth_32 (i := 10) (by decide +kernel) rfl
theorem dX11_depth_43 : decode cX11_depth 43 = .ok (.iadd, 1) := zrD zrw_cX11_depth_32 (i := 11) (by decide +kernel) rfl
theorem dX11_depth_44 : decode cX11_depth 44 = .ok (.istore_n 1, 1) := zrD zrw_cX11_depth_32 (i := 12) (by decide +kernel) rfl
theorem dX11_depth_45 : decode cX11_depth 45 = .ok (.iinc 2 1, 3) := zrD zrw_cX11_depth_32 (i := 13) (by decide +kernel) rfl
theorem dX11_depth_48 : decode cX11_depth 48 = .ok (.goto (-40), 3) := zrD zrw_cX11_depth_32 (i := 16) (by decide +kernel) rfl
theorem dX11_depth_51 : decode cX11_depth 51 = .ok (.iload_n 1, 1) := zrD zrw_cX11_depth_32 (i := 19) (by decide +kernel) rfl
theorem dX11_depth_52 : decode cX11_depth 52 = .ok (.ireturn, 1) := zrD zrw_cX11_depth_32 (i := 20) (by decide +kernel) rfl
def zrk_cX11_order_0 : ByteArray := .mk #[42, 27, 182, 1, 127, 154, 0, 5, 2, 172, 42, 182, 1, 76, 16, 11, 61, 28, 155, 0, 46, 3, 62, 29, 42, 182, 1, 57, 162, 0, 30, 42]
theorem zrw_cX11_order_0 : zrW 0 cX11_order zrk_cX11_order_0 := by unfold zrW; decide +kernel
theorem dX11_order_0 : decode cX11_order 0 = .ok (.aload_n 0, 1) := zrD zrw_cX11_order_0 (i := 0) (by decide +kernel) rfl
theorem dX11_order_1 : decode cX11_order 1 = .ok (.iload_n 1, 1) := zrD zrw_cX11_order_0 (i := 1) (by decide +kernel) rfl
theorem dX11_order_2 : decode cX11_order 2 = .ok (.invokevirtual 383, 3) := zrD zrw_cX11_order_0 (i := 2) (by decide +kernel) rfl
theorem dX11_order_5 : decode cX11_order 5 = .ok (.ifCond .ne 5, 3) := zrD zrw_cX11_order_0 (i := 5) (by decide +kernel) rfl
theorem dX11_order_8 : decode cX11_order 8 = .ok (.iconst (-1), 1) := zrD zrw_cX11_order_0 (i := 8) (by decide +kernel) rfl
theorem dX11_order_9 : decode cX11_order 9 = .ok (.ireturn, 1) := zrD zrw_cX11_order_0 (i := 9) (by decide +kernel) rfl
theorem dX11_order_10 : decode cX11_order 10 = .ok (.aload_n 0, 1) := zrD zrw_cX11_order_0 (i := 10) (by decide +kernel) rfl
theorem dX11_order_11 : decode cX11_order 11 = .ok (.invokevirtual 332, 3) := zrD zrw_cX11_order_0 (i := 11) (by decide +kernel) rfl
theorem dX11_order_14 : decode cX11_order 14 = .ok (.bipush 11, 2) := zrD zrw_cX11_order_0 (i := 14) (by decide +kernel) rfl
theorem dX11_order_16 : decode cX11_order 16 = .ok (.istore_n 2, 1) := zrD zrw_cX11_order_0 (i := 16) (by decide +kernel) rfl
theorem dX11_order_17 : decode cX11_order 17 = .ok (.iload_n 2, 1) := zrD zrw_cX11_order_0 (i := 17) (by decide +kernel) rfl
theorem dX11_order_18 : decode cX11_order 18 = .ok (.ifCond .lt 46, 3) := zrD zrw_cX11_order_0 (i := 18) (by decide +kernel) rfl
theorem dX11_order_21 : decode cX11_order 21 = .ok (.iconst 0, 1) := zrD zrw_cX11_order_0 (i := 21) (by decide +kernel) rfl
theorem dX11_order_22 : decode cX11_order 22 = .ok (.istore_n 3, 1) := zrD zrw_cX11_order_0 (i := 22) (by decide +kernel) rfl
theorem dX11_order_23 : decode cX11_order 23 = .ok (.iload_n 3, 1) := zrD zrw_cX11_order_0 (i := 23) (by decide +kernel) rfl
theorem dX11_order_24 : decode cX11_order 24 = .ok (.aload_n 0, 1) := zrD zrw_cX11_order_0 (i := 24) (by decide +kernel) rfl
theorem dX11_order_25 : decode cX11_order 25 = .ok (.invokevirtual 313, 3) := zrD zrw_cX11_order_0 (i := 25) (by decide +kernel) rfl
theorem dX11_order_28 : decode cX11_order 28 = .ok (.if_icmp .ge 30, 3) := zrD zrw_cX11_order_0 (i := 28) (by decide +kernel) rfl
theorem dX11_order_31 : decode cX11_order 31 = .ok (.aload_n 0, 1) := zrD zrw_cX11_order_0 (i := 31) (by decide +kernel) rfl
def zrk_cX11_order_32 : ByteArray := .mk #[180, 0, 116, 29, 46, 28, 160, 0, 14, 42, 180, 0, 131, 29, 42, 29, 182, 1, 183, 79, 132, 3, 1, 167, 255, 224, 132, 2, 255, 167, 255, 212]
theorem zrw_cX11_order_32 : zrW 32 cX11_order zrk_cX11_order_32 := by unfold zrW; decide +kernel
theorem dX11_order_32 : decode cX11_order 32 = .ok (.getfield 116, 3) := zrD zrw_cX11_order_32 (i := 0) (by decide +kernel) rfl
theorem dX11_order_35 : decode cX11_order 35 = .ok (.iload_n 3, 1) := zrD zrw_cX11_order_32 (i := 3) (by decide +kernel) rfl
theorem dX11_order_36 : decode cX11_order 36 = .ok (.iaload, 1) := zrD zrw_cX11_order_32 (i := 4) (by decide +kernel) rfl
theorem dX11_order_37 : decode cX11_order 37 = .ok (.iload_n 2, 1) := zrD zrw_cX11_order_32 (i := 5) (by decide +kernel) rfl
theorem dX11_order_38 : decode cX11_order 38 = .ok (.if_icmp .ne 14, 3) := zrD zrw_cX11_order_32 (i := 6) (by decide +kernel) rfl
theorem dX11_order_41 : decode cX11_order 41 = .ok (.aload_n 0, 1) := zrD zrw_cX11_order_32 (i := 9) (by decide +kernel) rfl
theorem dX11_order_42 : decode cX11_order 42 = .ok (.getfield 131, 3) := zrD zrw_cX11_order_32 (i := 10) (by decide +kernel) rfl
theorem dX11_order_45 : decode cX11_order 45 = .ok (.iload_n 3, 1) := zrD zrw_cX11_order_32 (i := 13) (by decide +kernel) rfl
theorem dX11_order_46 : decode cX11_order 46 = .ok (.aload_n 0, 1) := zrD zrw_cX11_order_32 (i := 14) (by decide +kernel) rfl
theorem dX11_order_47 : decode cX11_order 47 = .ok (.iload_n 3, 1) := zrD zrw_cX11_order_32 (i := 15) (by decide +kernel) rfl
theorem dX11_order_48 : decode cX11_order 48 = .ok (.invokevirtual 439, 3) := zrD zrw_cX11_order_32 (i := 16) (by decide +kernel) rfl
theorem dX11_order_51 : decode cX11_order 51 = .ok (.iastore, 1) := zrD zrw_cX11_order_32 (i := 19) (by decide +kernel) rfl
theorem dX11_order_52 : decode cX11_order 52 = .ok (.iinc 3 1, 3) := zrD zrw_cX11_order_32 (i := 20) (by decide +kernel) rfl
theorem dX11_order_55 : decode cX11_order 55 = .ok (.goto (-32), 3) := zrD zrw_cX11_order_32 (i := 23) (by decide +kernel) rfl
theorem dX11_order_58 : decode cX11_order 58 = .ok (.iinc 2 (-1), 3) := zrD zrw_cX11_order_32 (i := 26) (by decide +kernel) rfl
theorem dX11_order_61 : decode cX11_order 61 = .ok (.goto (-44), 3) := zrD zrw_cX11_order_32 (i := 29) (by decide +kernel) rfl
def zrk_cX11_order_64 : ByteArray := .mk #[42, 180, 0, 131, 27, 46, 172]
theorem zrw_cX11_order_64 : zrW 64 cX11_order zrk_cX11_order_64 := by unfold zrW; decide +kernel
theorem dX11_order_64 : decode cX11_order 64 = .ok (.aload_n 0, 1) := zrD zrw_cX11_order_64 (i := 0) (by decide +kernel) rfl
theorem dX11_order_65 : decode cX11_order 65 = .ok (.getfield 131, 3) := zrD zrw_cX11_order_64 (i := 1) (by decide +kernel) rfl
theorem dX11_order_68 : decode cX11_order 68 = .ok (.iload_n 1, 1) := zrD zrw_cX11_order_64 (i := 4) (by decide +kernel) rfl
theorem dX11_order_69 : decode cX11_order 69 = .ok (.iaload, 1) := zrD zrw_cX11_order_64 (i := 5) (by decide +kernel) rfl
theorem dX11_order_70 : decode cX11_order 70 = .ok (.ireturn, 1) := zrD zrw_cX11_order_64 (i := 6) (by decide +kernel) rfl
def zrk_cX11_orderAt_0 : ByteArray := .mk #[3, 61, 3, 62, 4, 54, 4, 21, 4, 42, 182, 1, 57, 162, 0, 61, 42, 180, 0, 110, 21, 4, 46, 27, 160, 0, 44, 42, 180, 0, 131]
theorem zrw_cX11_orderAt_0 : zrW 0 cX11_orderAt zrk_cX11_orderAt_0 := by unfold zrW; decide +kernel
theorem dX11_orderAt_0 : decode cX11_orderAt 0 = .ok (.iconst 0, 1) := zrD zrw_cX11_orderAt_0 (i := 0) (by decide +kernel) rfl
theorem dX11_orderAt_1 : decode cX11_orderAt 1 = .ok (.istore_n 2, 1) := zrD zrw_cX11_orderAt_0 (i := 1) (by decide +kernel) rfl
theorem dX11_orderAt_2 : decode cX11_orderAt 2 = .ok (.iconst 0, 1) := zrD zrw_cX11_orderAt_0 (i := 2) (by decide +kernel) rfl
theorem dX11_orderAt_3 : decode cX11_orderAt 3 = .ok (.istore_n 3, 1) := zrD zrw_cX11_orderAt_0 (i := 3) (by decide +kernel) rfl
theorem dX11_orderAt_4 : decode cX11_orderAt 4 = .ok (.iconst 1, 1) := zrD zrw_cX11_orderAt_0 (i := 4) (by decide +kernel) rfl
theorem dX11_orderAt_5 : decode cX11_orderAt 5 = .ok (.istore 4, 2) := zrD zrw_cX11_orderAt_0 (i := 5) (by decide +kernel) rfl
theorem dX11_orderAt_7 : decode cX11_orderAt 7 = .ok (.iload 4, 2) := zrD zrw_cX11_orderAt_0 (i := 7) (by decide +kernel) rfl
theorem dX11_orderAt_9 : decode cX11_orderAt 9 = .ok (.aload_n 0, 1) := zrD zrw_cX11_orderAt_0 (i := 9) (by decide +kernel) rfl
theorem dX11_orderAt_10 : decode cX11_orderAt 10 = .ok (.invokevirtual 313, 3) := zrD zrw_cX11_orderAt_0 (i := 10) (by decide +kernel) rfl
theorem dX11_orderAt_13 : decode cX11_orderAt 13 = .ok (.if_icmp .ge 61, 3) := zrD zrw_cX11_orderAt_0 (i := 13) (by decide +kernel) rfl
theorem dX11_orderAt_16 : decode cX11_orderAt 16 = .ok (.aload_n 0, 1) := zrD zrw_cX11_orderAt_0 (i := 16) (by decide +kernel) rfl
theorem dX11_orderAt_17 : decode cX11_orderAt 17 = .ok (.getfield 110, 3) := zrD zrw_cX11_orderAt_0 (i := 17) (by decide +kernel) rfl
theorem dX11_orderAt_20 : decode cX11_orderAt 20 = .ok (.iload 4, 2) := zrD zrw_cX11_orderAt_0 (i := 20) (by decide +kernel) rfl
theorem dX11_orderAt_22 : decode cX11_orderAt 22 = .ok (.iaload, 1) := zrD zrw_cX11_orderAt_0 (i := 22) (by decide +kernel) rfl
theorem dX11_orderAt_23 : decode cX11_orderAt 23 = .ok (.iload_n 1, 1) := zrD zrw_cX11_orderAt_0 (i := 23) (by decide +kernel) rfl
theorem dX11_orderAt_24 : decode cX11_orderAt 24 = .ok (.if_icmp .ne 44, 3) := zrD zrw_cX11_orderAt_0 (i := 24) (by decide +kernel) rfl
theorem dX11_orderAt_27 : decode cX11_orderAt 27 = .ok (.aload_n 0, 1) := zrD zrw_cX11_orderAt_0 (i := 27) (by decide +kernel) rfl
theorem dX11_orderAt_28 : decode cX11_orderAt 28 = .ok (.getfield 131, 3) := zrD zrw_cX11_orderAt_0 (i := 28) (by decide +kernel) rfl
def zrk_cX11_orderAt_31 : ByteArray := .mk #[21, 4, 46, 28, 162, 0, 6, 167, 0, 30, 42, 180, 0, 131, 21, 4, 46, 28, 164, 0, 7, 4, 167, 0, 6, 29, 4, 96, 62, 42]
theorem zrw_cX11_orderAt_31 : zrW 31 cX11_orderAt zrk_cX11_orderAt_31 := by unfold zrW; decide +kernel
theorem dX11_orderAt_31 : decode cX11_orderAt 31 = .ok (.iload 4, 2) := zrD zrw_cX11_orderAt_31 (i := 0) (by decide +kernel) rfl
theorem dX11_orderAt_33 : decode cX11_orderAt 33 = .ok (.iaload, 1) := zrD zrw_cX11_orderAt_31 (i := 2) (by decide +kernel) rfl
theorem dX11_orderAt_34 : decode cX11_orderAt 34 = .ok (.iload_n 2, 1) := zrD zrw_cX11_orderAt_31 (i := 3) (by decide +kernel) rfl
theorem dX11_orderAt_35 : decode cX11_orderAt 35 = .ok (.if_icmp .ge 6, 3) := zrD zrw_cX11_orderAt_31 (i := 4) (by decide +kernel) rfl
theorem dX11_orderAt_38 : decode cX11_orderAt 38 = .ok (.goto 30, 3) := zrD zrw_cX11_orderAt_31 (i := 7) (by decide +kernel) rfl
theorem dX11_orderAt_41 : decode cX11_orderAt 41 = .ok (.aload_n 0, 1) := zrD zrw_cX11_orderAt_31 (i := 10) (by decide +kernel) rfl
theorem dX11_orderAt_42 : decode cX11_orderAt 42 = .ok (.getfield 131, 3) := zrD zrw_cX11_orderAt_31 (i := 11) (by decide +kernel) rfl
theorem dX11_orderAt_45 : decode cX11_orderAt 45 = .ok (.iload 4, 2) := zrD zrw_cX11_orderAt_31 (i := 14) (by decide +kernel) rfl
theorem dX11_orderAt_47 : decode cX11_orderAt 47 = .ok (.iaload, 1) := zrD zrw_cX11_orderAt_31 (i := 16) (by decide +kernel) rfl
theorem dX11_orderAt_48 : decode cX11_orderAt 48 = .ok (.iload_n 2, 1) := zrD zrw_cX11_orderAt_31 (i := 17) (by decide +kernel) rfl
theorem dX11_orderAt_49 : decode cX11_orderAt 49 = .ok (.if_icmp .le 7, 3) := zrD zrw_cX11_orderAt_31 (i := 18) (by decide +kernel) rfl
theorem dX11_orderAt_52 : decode cX11_orderAt 52 = .ok (.iconst 1, 1) := zrD zrw_cX11_orderAt_31 (i := 21) (by decide +kernel) rfl
theorem dX11_orderAt_53 : decode cX11_orderAt 53 = .ok (.goto 6, 3) := zrD zrw_cX11_orderAt_31 (i := 22) (by decide +kernel) rfl
theorem dX11_orderAt_56 : decode cX11_orderAt 56 = .ok (.iload_n 3, 1) := zrD zrw_cX11_orderAt_31 (i := 25) (by decide +kernel) rfl
theorem dX11_orderAt_57 : decode cX11_orderAt 57 = .ok (.iconst 1, 1) := zrD zrw_cX11_orderAt_31 (i := 26) (by decide +kernel) rfl
theorem dX11_orderAt_58 : decode cX11_orderAt 58 = .ok (.iadd, 1) := zrD zrw_cX11_orderAt_31 (i := 27) (by decide +kernel) rfl
theorem dX11_orderAt_59 : decode cX11_orderAt 59 = .ok (.istore_n 3, 1) := zrD zrw_cX11_orderAt_31 (i := 28) (by decide +kernel) rfl
theorem dX11_orderAt_60 : decode cX11_orderAt 60 = .ok (.aload_n 0, 1) := zrD zrw_cX11_orderAt_31 (i := 29) (by decide +kernel) rfl
def zrk_cX11_orderAt_61 : ByteArray := .mk #[180, 0, 131, 21, 4, 46, 61, 132, 4, 1, 167, 255, 192, 28, 154, 0, 7, 4, 167, 0, 15, 29, 4, 164, 0, 9, 28, 4, 96, 167, 0, 4]
theorem zrw_cX11_orderAt_61 : zrW 61 cX11_orderAt zrk_cX11_orderAt_61 := by unfold zrW; decide +kernel
theorem dX11_orderAt_61 : decode cX11_orderAt 61 = .ok (.getfield 131, 3) := zrD zrw_cX11_orderAt_61 (i := 0) (by decide +kernel) rfl
theorem dX11_orderAt_64 : decode cX11_orderAt 64 = .ok (.iload 4, 2) := zrD zrw_cX11_orderAt_61 (i := 3) (by decide +kernel) rfl
theorem dX11_orderAt_66 : decode cX11_orderAt 66 = .ok (.iaload, 1) := zrD zrw_cX11_orderAt_61 (i := 5) (by decide +kernel) rfl
theorem dX11_orderAt_67 : decode cX11_orderAt 67 = .ok (.istore_n 2, 1) := zrD zrw_cX11_orderAt_61 (i := 6) (by decide +kernel) rfl
theorem dX11_orderAt_68 : decode cX11_orderAt 68 = .ok (.iinc 4 1, 3) := zrD zrw_cX11_orderAt_61 (i := 7) (by decide +kernel) rfl
theorem dX11_orderAt_71 : decode cX11_orderAt 71 = .ok (.goto (-64), 3) := zrD zrw_cX11_orderAt_61 (i := 10) (by decide +kernel) rfl
theorem dX11_orderAt_74 : decode cX11_orderAt 74 = .ok (.iload_n 2, 1) := zrD zrw_cX11_orderAt_61 (i := 13) (by decide +kernel) rfl
theorem dX11_orderAt_75 : decode cX11_orderAt 75 = .ok (.ifCond .ne 7, 3) := zrD zrw_cX11_orderAt_61 (i := 14) (by decide +kernel) rfl
theorem dX11_orderAt_78 : decode cX11_orderAt 78 = .ok (.iconst 1, 1) := zrD zrw_cX11_orderAt_61 (i := 17) (by decide +kernel) rfl
theorem dX11_orderAt_79 : decode cX11_orderAt 79 = .ok (.goto 15, 3) := zrD zrw_cX11_orderAt_61 (i := 18) (by decide +kernel) rfl
theorem dX11_orderAt_82 : decode cX11_orderAt 82 = .ok (.iload_n 3, 1) := zrD zrw_cX11_orderAt_61 (i := 21) (by decide +kernel) rfl
theorem dX11_orderAt_83 : decode cX11_orderAt 83 = .ok (.iconst 1, 1) := zrD zrw_cX11_orderAt_61 (i := 22) (by decide +kernel) rfl
theorem dX11_orderAt_84 : decode cX11_orderAt 84 = .ok (.if_icmp .le 9, 3) := zrD zrw_cX11_orderAt_61 (i := 23) (by decide +kernel) rfl
theorem dX11_orderAt_87 : decode cX11_orderAt 87 = .ok (.iload_n 2, 1) := zrD zrw_cX11_orderAt_61 (i := 26) (by decide +kernel) rfl
theorem dX11_orderAt_88 : decode cX11_orderAt 88 = .ok (.iconst 1, 1) := zrD zrw_cX11_orderAt_61 (i := 27) (by decide +kernel) rfl
theorem dX11_orderAt_89 : decode cX11_orderAt 89 = .ok (.iadd, 1) := zrD zrw_cX11_orderAt_61 (i := 28) (by decide +kernel) rfl
theorem dX11_orderAt_90 : decode cX11_orderAt 90 = .ok (.goto 4, 3) := zrD zrw_cX11_orderAt_61 (i := 29) (by decide +kernel) rfl
def zrk_cX11_orderAt_93 : ByteArray := .mk #[28, 172]
theorem zrw_cX11_orderAt_93 : zrW 93 cX11_orderAt zrk_cX11_orderAt_93 := by unfold zrW; decide +kernel
theorem dX11_orderAt_93 : decode cX11_orderAt 93 = .ok (.iload_n 2, 1) := zrD zrw_cX11_orderAt_93 (i := 0) (by decide +kernel) rfl
theorem dX11_orderAt_94 : decode cX11_orderAt 94 = .ok (.ireturn, 1) := zrD zrw_cX11_orderAt_93 (i := 1) (by decide +kernel) rfl
def zrk_cX11_basin_0 : ByteArray := .mk #[42, 27, 182, 1, 127, 153, 0, 12, 28, 3, 4, 184, 1, 60, 154, 0, 5, 2, 172, 42, 182, 1, 76, 28, 154, 0, 10, 42, 180, 0, 119, 27]
theorem zrw_cX11_basin_0 : zrW 0 cX11_basin zrk_cX11_basin_0 := by unfold zrW; decide +kernel
theorem dX11_basin_0 : decode cX11_basin 0 = .ok (.aload_n 0, 1) := zrD zrw_cX11_basin_0 (i := 0) (by decide +kernel) rfl
theorem dX11_basin_1 : decode cX11_basin 1 = .ok (.iload_n 1, 1) := zrD zrw_cX11_basin_0 (i := 1) (by decide +kernel) rfl
theorem dX11_basin_2 : decode cX11_basin 2 = .ok (.invokevirtual 383, 3) := zrD zrw_cX11_basin_0 (i := 2) (by decide +kernel) rfl
theorem dX11_basin_5 : decode cX11_basin 5 = .ok (.ifCond .eq 12, 3) := zrD zrw_cX11_basin_0 (i := 5) (by decide +kernel) rfl
theorem dX11_basin_8 : decode cX11_basin 8 = .ok (.iload_n 2, 1) := zrD zrw_cX11_basin_0 (i := 8) (by decide +kernel) rfl
theorem dX11_basin_9 : decode cX11_basin 9 = .ok (.iconst 0, 1) := zrD zrw_cX11_basin_0 (i := 9) (by decide +kernel) rfl
theorem dX11_basin_10 : decode cX11_basin 10 = .ok (.iconst 1, 1) := zrD zrw_cX11_basin_0 (i := 10) (by decide +kernel) rfl
theorem dX11_basin_11 : decode cX11_basin 11 = .ok (.invokestatic 316, 3) := zrD zrw_cX11_basin_0 (i := 11) (by decide +kernel) rfl
theorem dX11_basin_14 : decode cX11_basin 14 = .ok (.ifCond .ne 5, 3) := zrD zrw_cX11_basin_0 (i := 14) (by decide +kernel) rfl
theorem dX11_basin_17 : decode cX11_basin 17 = .ok (.iconst (-1), 1) := zrD zrw_cX11_basin_0 (i := 17) (by decide +kernel) rfl
theorem dX11_basin_18 : decode cX11_basin 18 = .ok (.ireturn, 1) := zrD zrw_cX11_basin_0 (i := 18) (by decide +kernel) rfl
theorem dX11_basin_19 : decode cX11_basin 19 = .ok (.aload_n 0, 1) := zrD zrw_cX11_basin_0 (i := 19) (by decide +kernel) rfl
theorem dX11_basin_20 : decode cX11_basin 20 = .ok (.invokevirtual 332, 3) := zrD zrw_cX11_basin_0 (i := 20) (by decide +kernel) rfl
theorem dX11_basin_23 : decode cX11_basin 23 = .ok (.iload_n 2, 1) := zrD zrw_cX11_basin_0 (i := 23) (by decide +kernel) rfl
theorem dX11_basin_24 : decode cX11_basin 24 = .ok (.ifCond .ne 10, 3) := zrD zrw_cX11_basin_0 (i := 24) (by decide +kernel) rfl
theorem dX11_basin_27 : decode cX11_basin 27 = .ok (.aload_n 0, 1) := zrD zrw_cX11_basin_0 (i := 27) (by decide +kernel) rfl
theorem dX11_basin_28 : decode cX11_basin 28 = .ok (.getfield 119, 3) := zrD zrw_cX11_basin_0 (i := 28) (by decide +kernel) rfl
theorem dX11_basin_31 : decode cX11_basin 31 = .ok (.iload_n 1, 1) := zrD zrw_cX11_basin_0 (i := 31) (by decide +kernel) rfl
def zrk_cX11_basin_32 : ByteArray := .mk #[46, 172, 3, 62, 3, 54, 4, 21, 4, 42, 182, 1, 57, 162, 0, 33, 42, 180, 0, 119, 27, 46, 21, 4, 122, 4, 126, 4, 160, 0, 12, 29]
theorem zrw_cX11_basin_32 : zrW 32 cX11_basin zrk_cX11_basin_32 := by unfold zrW; decide +kernel
theorem dX11_basin_32 : decode cX11_basin 32 = .ok (.iaload, 1) := zrD zrw_cX11_basin_32 (i := 0) (by decide +kernel) rfl
theorem dX11_basin_33 : decode cX11_basin 33 = .ok (.ireturn, 1) := zrD zrw_cX11_basin_32 (i := 1) (by decide +kernel) rfl
theorem dX11_basin_34 : decode cX11_basin 34 = .ok (.iconst 0, 1) := zrD zrw_cX11_basin_32 (i := 2) (by decide +kernel) rfl
theorem dX11_basin_35 : decode cX11_basin 35 = .ok (.istore_n 3, 1) := zrD zrw_cX11_basin_32 (i := 3) (by decide +kernel) rfl
theorem dX11_basin_36 : decode cX11_basin 36 = .ok (.iconst 0, 1) := zrD zrw_cX11_basin_32 (i := 4) (by decide +kernel) rfl
theorem dX11_basin_37 : decode cX11_basin 37 = .ok (.istore 4, 2) := zrD zrw_cX11_basin_32 (i := 5) (by decide +kernel) rfl
theorem dX11_basin_39 : decode cX11_basin 39 = .ok (.iload 4, 2) := zrD zrw_cX11_basin_32 (i := 7) (by decide +kernel) rfl
theorem dX11_basin_41 : decode cX11_basin 41 = .ok (.aload_n 0, 1) := zrD zrw_cX11_basin_32 (i := 9) (by decide +kernel) rfl
theorem dX11_basin_42 : decode cX11_basin 42 = .ok (.invokevirtual 313, 3) := zrD zrw_cX11_basin_32 (i := 10) (by decide +kernel) rfl
theorem dX11_basin_45 : decode cX11_basin 45 = .ok (.if_icmp .ge 33, 3) := zrD zrw_cX11_basin_32 (i := 13) (by decide +kernel) rfl
theorem dX11_basin_48 : decode cX11_basin 48 = .ok (.aload_n 0, 1) := zrD zrw_cX11_basin_32 (i := 16) (by decide +kernel) rfl
theorem dX11_basin_49 : decode cX11_basin 49 = .ok (.getfield 119, 3) := zrD zrw_cX11_basin_32 (i := 17) (by decide +kernel) rfl
theorem dX11_basin_52 : decode cX11_basin 52 = .ok (.iload_n 1, 1) := zrD zrw_cX11_basin_32 (i := 20) (by decide +kernel) rfl
theorem dX11_basin_53 : decode cX11_basin 53 = .ok (.iaload, 1) := zrD zrw_cX11_basin_32 (i := 21) (by decide +kernel) rfl
theorem dX11_basin_54 : decode cX11_basin 54 = .ok (.iload 4, 2) := zrD zrw_cX11_basin_32 (i := 22) (by decide +kernel) rfl
theorem dX11_basin_56 : decode cX11_basin 56 = .ok (.ishr, 1) := zrD zrw_cX11_basin_32 (i := 24) (by decide +kernel) rfl
theorem dX11_basin_57 : decode cX11_basin 57 = .ok (.iconst 1, 1) := zrD zrw_cX11_basin_32 (i := 25) (by decide +kernel) rfl
theorem dX11_basin_58 : decode cX11_basin 58 = .ok (.iand, 1) := zrD zrw_cX11_basin_32 (i := 26) (by decide +kernel) rfl
theorem dX11_basin_59 : decode cX11_basin 59 = .ok (.iconst 1, 1) := zrD zrw_cX11_basin_32 (i := 27) (by decide +kernel) rfl
theorem dX11_basin_60 : decode cX11_basin 60 = .ok (.if_icmp .ne 12, 3) := zrD zrw_cX11_basin_32 (i := 28) (by decide +kernel) rfl
theorem dX11_basin_63 : decode cX11_basin 63 = .ok (.iload_n 3, 1) := zrD zrw_cX11_basin_32 (i := 31) (by decide +kernel) rfl
def zrk_cX11_basin_64 : ByteArray := .mk #[42, 21, 4, 182, 1, 104, 96, 62, 132, 4, 1, 167, 255, 220, 29, 172]
theorem zrw_cX11_basin_64 : zrW 64 cX11_basin zrk_cX11_basin_64 := by unfold zrW; decide +kernel
theorem dX11_basin_64 : decode cX11_basin 64 = .ok (.aload_n 0, 1) := zrD zrw_cX11_basin_64 (i := 0) (by decide +kernel) rfl
theorem dX11_basin_65 : decode cX11_basin 65 = .ok (.iload 4, 2) := zrD zrw_cX11_basin_64 (i := 1) (by decide +kernel) rfl
theorem dX11_basin_67 : decode cX11_basin 67 = .ok (.invokevirtual 360, 3) := zrD zrw_cX11_basin_64 (i := 3) (by decide +kernel) rfl
theorem dX11_basin_70 : decode cX11_basin 70 = .ok (.iadd, 1) := zrD zrw_cX11_basin_64 (i := 6) (by decide +kernel) rfl
theorem dX11_basin_71 : decode cX11_basin 71 = .ok (.istore_n 3, 1) := zrD zrw_cX11_basin_64 (i := 7) (by decide +kernel) rfl
theorem dX11_basin_72 : decode cX11_basin 72 = .ok (.iinc 4 1, 3) := zrD zrw_cX11_basin_64 (i := 8) (by decide +kernel) rfl
theorem dX11_basin_75 : decode cX11_basin 75 = .ok (.goto (-36), 3) := zrD zrw_cX11_basin_64 (i := 11) (by decide +kernel) rfl
theorem dX11_basin_78 : decode cX11_basin 78 = .ok (.iload_n 3, 1) := zrD zrw_cX11_basin_64 (i := 14) (by decide +kernel) rfl
theorem dX11_basin_79 : decode cX11_basin 79 = .ok (.ireturn, 1) := zrD zrw_cX11_basin_64 (i := 15) (by decide +kernel) rfl
def zrk_cX11_reign_0 : ByteArray := .mk #[27, 184, 1, 130, 153, 0, 19, 28, 184, 1, 152, 153, 0, 12, 29, 3, 4, 184, 1, 60, 154, 0, 5, 2, 172, 42, 182, 1, 155, 3, 54, 4]
theorem zrw_cX11_reign_0 : zrW 0 cX11_reign zrk_cX11_reign_0 := by unfold zrW; decide +kernel
theorem dX11_reign_0 : decode cX11_reign 0 = .ok (.iload_n 1, 1) := zrD zrw_cX11_reign_0 (i := 0) (by decide +kernel) rfl
theorem dX11_reign_1 : decode cX11_reign 1 = .ok (.invokestatic 386, 3) := zrD zrw_cX11_reign_0 (i := 1) (by decide +kernel) rfl
theorem dX11_reign_4 : decode cX11_reign 4 = .ok (.ifCond .eq 19, 3) := zrD zrw_cX11_reign_0 (i := 4) (by decide +kernel) rfl
theorem dX11_reign_7 : decode cX11_reign 7 = .ok (.iload_n 2, 1) := zrD zrw_cX11_reign_0 (i := 7) (by decide +kernel) rfl
theorem dX11_reign_8 : decode cX11_reign 8 = .ok (.invokestatic 408, 3) := zrD zrw_cX11_reign_0 (i := 8) (by decide +kernel) rfl
theorem dX11_reign_11 : decode cX11_reign 11 = .ok (.ifCond .eq 12, 3) := zrD zrw_cX11_reign_0 (i := 11) (by decide +kernel) rfl
theorem dX11_reign_14 : decode cX11_reign 14 = .ok (.iload_n 3, 1) := zrD zrw_cX11_reign_0 (i := 14) (by decide +kernel) rfl
theorem dX11_reign_15 : decode cX11_reign 15 = .ok (.iconst 0, 1) := zrD zrw_cX11_reign_0 (i := 15) (by decide +kernel) rfl
theorem dX11_reign_16 : decode cX11_reign 16 = .ok (.iconst 1, 1) := zrD zrw_cX11_reign_0 (i := 16) (by decide +kernel) rfl
theorem dX11_reign_17 : decode cX11_reign 17 = .ok (.invokestatic 316, 3) := zrD zrw_cX11_reign_0 (i := 17) (by decide +kernel) rfl
theorem dX11_reign_20 : decode cX11_reign 20 = .ok (.ifCond .ne 5, 3) := zrD zrw_cX11_reign_0 (i := 20) (by decide +kernel) rfl
theorem dX11_reign_23 : decode cX11_reign 23 = .ok (.iconst (-1), 1) := zrD zrw_cX11_reign_0 (i := 23) (by decide +kernel) rfl
theorem dX11_reign_24 : decode cX11_reign 24 = .ok (.ireturn, 1) := zrD zrw_cX11_reign_0 (i := 24) (by decide +kernel) rfl
theorem dX11_reign_25 : decode cX11_reign 25 = .ok (.aload_n 0, 1) := zrD zrw_cX11_reign_0 (i := 25) (by decide +kernel) rfl
theorem dX11_reign_26 : decode cX11_reign 26 = .ok (.invokevirtual 411, 3) := zrD zrw_cX11_reign_0 (i := 26) (by decide +kernel) rfl
theorem dX11_reign_29 : decode cX11_reign 29 = .ok (.iconst 0, 1) := zrD zrw_cX11_reign_0 (i := 29) (by decide +kernel) rfl
theorem dX11_reign_30 : decode cX11_reign 30 = .ok (.istore 4, 2) := zrD zrw_cX11_reign_0 (i := 30) (by decide +kernel) rfl
def zrk_cX11_reign_32 : ByteArray := .mk #[21, 4, 16, 12, 162, 0, 17, 42, 180, 0, 134, 21, 4, 3, 79, 132, 4, 1, 167, 255, 238, 3, 54, 4, 21, 4, 28, 162, 0, 36, 42, 27]
theorem zrw_cX11_reign_32 : zrW 32 cX11_reign zrk_cX11_reign_32 := by unfold zrW; decide +kernel
theorem dX11_reign_32 : decode cX11_reign 32 = .ok (.iload 4, 2) := zrD zrw_cX11_reign_32 (i := 0) (by decide +kernel) rfl
theorem dX11_reign_34 : decode cX11_reign 34 = .ok (.bipush 12, 2) := zrD zrw_cX11_reign_32 (i := 2) (by decide +kernel) rfl
theorem dX11_reign_36 : decode cX11_reign 36 = .ok (.if_icmp .ge 17, 3) := zrD zrw_cX11_reign_32 (i := 4) (by decide +kernel) rfl
theorem dX11_reign_39 : decode cX11_reign 39 = .ok (.aload_n 0, 1) := zrD zrw_cX11_reign_32 (i := 7) (by decide +kernel) rfl
theorem dX11_reign_40 : decode cX11_reign 40 = .ok (.getfield 134, 3) := zrD zrw_cX11_reign_32 (i := 8) (by decide +kernel) rfl
theorem dX11_reign_43 : decode cX11_reign 43 = .ok (.iload 4, 2) := zrD zrw_cX11_reign_32 (i := 11) (by decide +kernel) rfl
theorem dX11_reign_45 : decode cX11_reign 45 = .ok (.iconst 0, 1) := zrD zrw_cX11_reign_32 (i := 13) (by decide +kernel) rfl
theorem dX11_reign_46 : decode cX11_reign 46 = .ok (.iastore, 1) := zrD zrw_cX11_reign_32 (i := 14) (by decide +kernel) rfl
theorem dX11_reign_47 : decode cX11_reign 47 = .ok (.iinc 4 1, 3) := zrD zrw_cX11_reign_32 (i := 15) (by decide +kernel) rfl
theorem dX11_reign_50 : decode cX11_reign 50 = .ok (.goto (-18), 3) := zrD zrw_cX11_reign_32 (i := 18) (by decide +kernel) rfl
theorem dX11_reign_53 : decode cX11_reign 53 = .ok (.iconst 0, 1) := zrD zrw_cX11_reign_32 (i := 21) (by decide +kernel) rfl
theorem dX11_reign_54 : decode cX11_reign 54 = .ok (.istore 4, 2) := zrD zrw_cX11_reign_32 (i := 22) (by decide +kernel) rfl
theorem dX11_reign_56 : decode cX11_reign 56 = .ok (.iload 4, 2) := zrD zrw_cX11_reign_32 (i := 24) (by decide +kernel) rfl
theorem dX11_reign_58 : decode cX11_reign 58 = .ok (.iload_n 2, 1) := zrD zrw_cX11_reign_32 (i := 26) (by decide +kernel) rfl
theorem dX11_reign_59 : decode cX11_reign 59 = .ok (.if_icmp .ge 36, 3) := zrD zrw_cX11_reign_32 (i := 27) (by decide +kernel) rfl
theorem dX11_reign_62 : decode cX11_reign 62 = .ok (.aload_n 0, 1) := zrD zrw_cX11_reign_32 (i := 30) (by decide +kernel) rfl
theorem dX11_reign_63 : decode cX11_reign 63 = .ok (.iload_n 1, 1) := zrD zrw_cX11_reign_32 (i := 31) (by decide +kernel) rfl
def zrk_cX11_reign_64 : ByteArray := .mk #[182, 1, 118, 54, 5, 21, 5, 155, 0, 14, 42, 180, 0, 134, 21, 5, 92, 46, 4, 96, 79, 42, 182, 1, 124, 132, 4, 1, 167, 255, 220, 3]
theorem zrw_cX11_reign_64 : zrW 64 cX11_reign zrk_cX11_reign_64 := by unfold zrW; decide +kernel
theorem dX11_reign_64 : decode cX11_reign 64 = .ok (.invokevirtual 374, 3) := zrD zrw_cX11_reign_64 (i := 0) (by decide +kernel) rfl
theorem dX11_reign_67 : decode cX11_reign 67 = .ok (.istore 5, 2) := zrD zrw_cX11_reign_64 (i := 3) (by decide +kernel) rfl
theorem dX11_reign_69 : decode cX11_reign 69 = .ok (.iload 5, 2) := zrD zrw_cX11_reign_64 (i := 5) (by decide +kernel) rfl
theorem dX11_reign_71 : decode cX11_reign 71 = .ok (.ifCond .lt 14, 3) := zrD zrw_cX11_reign_64 (i := 7) (by decide +kernel) rfl
theorem dX11_reign_74 : decode cX11_reign 74 = .ok (.aload_n 0, 1) := zrD zrw_cX11_reign_64 (i := 10) (by decide +kernel) rfl
theorem dX11_reign_75 : decode cX11_reign 75 = .ok (.getfield 134, 3) := zrD zrw_cX11_reign_64 (i := 11) (by decide +kernel) rfl
theorem dX11_reign_78 : decode cX11_reign 78 = .ok (.iload 5, 2) := zrD zrw_cX11_reign_64 (i := 14) (by decide +kernel) rfl
theorem dX11_reign_80 : decode cX11_reign 80 = .ok (.dup2, 1) := zrD zrw_cX11_reign_64 (i := 16) (by decide +kernel) rfl
theorem dX11_reign_81 : decode cX11_reign 81 = .ok (.iaload, 1) := zrD zrw_cX11_reign_64 (i := 17) (by decide +kernel) rfl
theorem dX11_reign_82 : decode cX11_reign 82 = .ok (.iconst 1, 1) := zrD zrw_cX11_reign_64 (i := 18) (by decide +kernel) rfl
theorem dX11_reign_83 : decode cX11_reign 83 = .ok (.iadd, 1) := zrD zrw_cX11_reign_64 (i := 19) (by decide +kernel) rfl
theorem dX11_reign_84 : decode cX11_reign 84 = .ok (.iastore, 1) := zrD zrw_cX11_reign_64 (i := 20) (by decide +kernel) rfl
theorem dX11_reign_85 : decode cX11_reign 85 = .ok (.aload_n 0, 1) := zrD zrw_cX11_reign_64 (i := 21) (by decide +kernel) rfl
theorem dX11_reign_86 : decode cX11_reign 86 = .ok (.invokevirtual 380, 3) := zrD zrw_cX11_reign_64 (i := 22) (by decide +kernel) rfl
theorem dX11_reign_89 : decode cX11_reign 89 = .ok (.iinc 4 1, 3) := zrD zrw_cX11_reign_64 (i := 25) (by decide +kernel) rfl
theorem dX11_reign_92 : decode cX11_reign 92 = .ok (.goto (-36), 3) := zrD zrw_cX11_reign_64 (i := 28) (by decide +kernel) rfl
theorem dX11_reign_95 : decode cX11_reign 95 = .ok (.iconst 0, 1) := zrD zrw_cX11_reign_64 (i := 31) (by decide +kernel) rfl
def zrk_cX11_reign_96 : ByteArray := .mk #[54, 4, 16, 254, 54, 5, 4, 54, 6, 21, 6, 42, 182, 1, 57, 162, 0, 51, 42, 180, 0, 134, 21, 6, 46, 154, 0, 6, 167, 0, 32]
theorem zrw_cX11_reign_96 : zrW 96 cX11_reign zrk_cX11_reign_96 := by unfold zrW; decide +kernel
theorem dX11_reign_96 : decode cX11_reign 96 = .ok (.istore 4, 2) := zrD zrw_cX11_reign_96 (i := 0) (by decide +kernel) rfl
theorem dX11_reign_98 : decode cX11_reign 98 = .ok (.bipush (-2), 2) := zrD zrw_cX11_reign_96 (i := 2) (by decide +kernel) rfl
theorem dX11_reign_100 : decode cX11_reign 100 = .ok (.istore 5, 2) := zrD zrw_cX11_reign_96 (i := 4) (by decide +kernel) rfl
theorem dX11_reign_102 : decode cX11_reign 102 = .ok (.iconst 1, 1) := zrD zrw_cX11_reign_96 (i := 6) (by decide +kernel) rfl
theorem dX11_reign_103 : decode cX11_reign 103 = .ok (.istore 6, 2) := zrD zrw_cX11_reign_96 (i := 7) (by decide +kernel) rfl
theorem dX11_reign_105 : decode cX11_reign 105 = .ok (.iload 6, 2) := zrD zrw_cX11_reign_96 (i := 9) (by decide +kernel) rfl
theorem dX11_reign_107 : decode cX11_reign 107 = .ok (.aload_n 0, 1) := zrD zrw_cX11_reign_96 (i := 11) (by decide +kernel) rfl
theorem dX11_reign_108 : decode cX11_reign 108 = .ok (.invokevirtual 313, 3) := zrD zrw_cX11_reign_96 (i := 12) (by decide +kernel) rfl
theorem dX11_reign_111 : decode cX11_reign 111 = .ok (.if_icmp .ge 51, 3) := zrD zrw_cX11_reign_96 (i := 15) (by decide +kernel) rfl
theorem dX11_reign_114 : decode cX11_reign 114 = .ok (.aload_n 0, 1) := zrD zrw_cX11_reign_96 (i := 18) (by decide +kernel) rfl
theorem dX11_reign_115 : decode cX11_reign 115 = .ok (.getfield 134, 3) := zrD zrw_cX11_reign_96 (i := 19) (by decide +kernel) rfl
theorem dX11_reign_118 : decode cX11_reign 118 = .ok (.iload 6, 2) := zrD zrw_cX11_reign_96 (i := 22) (by decide +kernel) rfl
theorem dX11_reign_120 : decode cX11_reign 120 = .ok (.iaload, 1) := zrD zrw_cX11_reign_96 (i := 24) (by decide +kernel) rfl
theorem dX11_reign_121 : decode cX11_reign 121 = .ok (.ifCond .ne 6, 3) := zrD zrw_cX11_reign_96 (i := 25) (by decide +kernel) rfl
theorem dX11_reign_124 : decode cX11_reign 124 = .ok (.goto 32, 3) := zrD zrw_cX11_reign_96 (i := 28) (by decide +kernel) rfl
def zrk_cX11_reign_127 : ByteArray := .mk #[132, 4, 1, 21, 5, 155, 0, 20, 42, 180, 0, 134, 21, 6, 46, 42, 180, 0, 134, 21, 5, 46, 164, 0, 7, 21, 6, 54, 5, 132, 6, 1]
theorem zrw_cX11_reign_127 : zrW 127 cX11_reign zrk_cX11_reign_127 := by unfold zrW; decide +kernel
theorem dX11_reign_127 : decode cX11_reign 127 = .ok (.iinc 4 1, 3) := zrD zrw_cX11_reign_127 (i := 0) (by decide +kernel) rfl
theorem dX11_reign_130 : decode cX11_reign 130 = .ok (.iload 5, 2) := zrD zrw_cX11_reign_127 (i := 3) (by decide +kernel) rfl
theorem dX11_reign_132 : decode cX11_reign 132 = .ok (.ifCond .lt 20, 3) := zrD zrw_cX11_reign_127 (i := 5) (by decide +kernel) rfl
theorem dX11_reign_135 : decode cX11_reign 135 = .ok (.aload_n 0, 1) := zrD zrw_cX11_reign_127 (i := 8) (by decide +kernel) rfl
theorem dX11_reign_136 : decode cX11_reign 136 = .ok (.getfield 134, 3) := zrD zrw_cX11_reign_127 (i := 9) (by decide +kernel) rfl
theorem dX11_reign_139 : decode cX11_reign 139 = .ok (.iload 6, 2) := zrD zrw_cX11_reign_127 (i := 12) (by decide +kernel) rfl
theorem dX11_reign_141 : decode cX11_reign 141 = .ok (.iaload, 1) := zrD zrw_cX11_reign_127 (i := 14) (by decide +kernel) rfl
theorem dX11_reign_142 : decode cX11_reign 142 = .ok (.aload_n 0, 1) := zrD zrw_cX11_reign_127 (i := 15) (by decide +kernel) rfl
theorem dX11_reign_143 : decode cX11_reign 143 = .ok (.getfield 134, 3) := zrD zrw_cX11_reign_127 (i := 16) (by decide +kernel) rfl
theorem dX11_reign_146 : decode cX11_reign 146 = .ok (.iload 5, 2) := zrD zrw_cX11_reign_127 (i := 19) (by decide +kernel) rfl
theorem dX11_reign_148 : decode cX11_reign 148 = .ok (.iaload, 1) := zrD zrw_cX11_reign_127 (i := 21) (by decide +kernel) rfl
theorem dX11_reign_149 : decode cX11_reign 149 = .ok (.if_icmp .le 7, 3) := zrD zrw_cX11_reign_127 (i := 22) (by decide +kernel) rfl
theorem dX11_reign_152 : decode cX11_reign 152 = .ok (.iload 6, 2) := zrD zrw_cX11_reign_127 (i := 25) (by decide +kernel) rfl
theorem dX11_reign_154 : decode cX11_reign 154 = .ok (.istore 5, 2) := zrD zrw_cX11_reign_127 (i := 27) (by decide +kernel) rfl
theorem dX11_reign_156 : decode cX11_reign 156 = .ok (.iinc 6 1, 3) := zrD zrw_cX11_reign_127 (i := 29) (by decide +kernel) rfl
def zrk_cX11_reign_159 : ByteArray := .mk #[167, 255, 202, 29, 154, 0, 8, 21, 4, 167, 0, 5, 21, 5, 172]
theorem zrw_cX11_reign_159 : zrW 159 cX11_reign zrk_cX11_reign_159 := by unfold zrW; decide +kernel
theorem dX11_reign_159 : decode cX11_reign 159 = .ok (.goto (-54), 3) := zrD zrw_cX11_reign_159 (i := 0) (by decide +kernel) rfl
theorem dX11_reign_162 : decode cX11_reign 162 = .ok (.iload_n 3, 1) := zrD zrw_cX11_reign_159 (i := 3) (by decide +kernel) rfl
theorem dX11_reign_163 : decode cX11_reign 163 = .ok (.ifCond .ne 8, 3) := zrD zrw_cX11_reign_159 (i := 4) (by decide +kernel) rfl
theorem dX11_reign_166 : decode cX11_reign 166 = .ok (.iload 4, 2) := zrD zrw_cX11_reign_159 (i := 7) (by decide +kernel) rfl
theorem dX11_reign_168 : decode cX11_reign 168 = .ok (.goto 5, 3) := zrD zrw_cX11_reign_159 (i := 9) (by decide +kernel) rfl
theorem dX11_reign_171 : decode cX11_reign 171 = .ok (.iload 5, 2) := zrD zrw_cX11_reign_159 (i := 12) (by decide +kernel) rfl
theorem dX11_reign_173 : decode cX11_reign 173 = .ok (.ireturn, 1) := zrD zrw_cX11_reign_159 (i := 14) (by decide +kernel) rfl
def zrk_cX11_tourOf_0 : ByteArray := .mk #[3, 61, 3, 62, 4, 54, 4, 21, 4, 42, 182, 1, 57, 162, 0, 68, 42, 180, 0, 119, 21, 4, 46, 27, 126, 153, 0, 21, 28, 42]
theorem zrw_cX11_tourOf_0 : zrW 0 cX11_tourOf zrk_cX11_tourOf_0 := by unfold zrW; decide +kernel
theorem dX11_tourOf_0 : decode cX11_tourOf 0 = .ok (.iconst 0, 1) := zrD zrw_cX11_tourOf_0 (i := 0) (by decide +kernel) rfl
theorem dX11_tourOf_1 : decode cX11_tourOf 1 = .ok (.istore_n 2, 1) := zrD zrw_cX11_tourOf_0 (i := 1) (by decide +kernel) rfl
theorem dX11_tourOf_2 : decode cX11_tourOf 2 = .ok (.iconst 0, 1) := zrD zrw_cX11_tourOf_0 (i := 2) (by decide +kernel) rfl
theorem dX11_tourOf_3 : decode cX11_tourOf 3 = .ok (.istore_n 3, 1) := zrD zrw_cX11_tourOf_0 (i := 3) (by decide +kernel) rfl
theorem dX11_tourOf_4 : decode cX11_tourOf 4 = .ok (.iconst 1, 1) := zrD zrw_cX11_tourOf_0 (i := 4) (by decide +kernel) rfl
theorem dX11_tourOf_5 : decode cX11_tourOf 5 = .ok (.istore 4, 2) := zrD zrw_cX11_tourOf_0 (i := 5) (by decide +kernel) rfl
theorem dX11_tourOf_7 : decode cX11_tourOf 7 = .ok (.iload 4, 2) := zrD zrw_cX11_tourOf_0 (i := 7) (by decide +kernel) rfl
theorem dX11_tourOf_9 : decode cX11_tourOf 9 = .ok (.aload_n 0, 1) := zrD zrw_cX11_tourOf_0 (i := 9) (by decide +kernel) rfl
theorem dX11_tourOf_10 : decode cX11_tourOf 10 = .ok (.invokevirtual 313, 3) := zrD zrw_cX11_tourOf_0 (i := 10) (by decide +kernel) rfl
theorem dX11_tourOf_13 : decode cX11_tourOf 13 = .ok (.if_icmp .ge 68, 3) := zrD zrw_cX11_tourOf_0 (i := 13) (by decide +kernel) rfl
theorem dX11_tourOf_16 : decode cX11_tourOf 16 = .ok (.aload_n 0, 1) := zrD zrw_cX11_tourOf_0 (i := 16) (by decide +kernel) rfl
theorem dX11_tourOf_17 : decode cX11_tourOf 17 = .ok (.getfield 119, 3) := zrD zrw_cX11_tourOf_0 (i := 17) (by decide +kernel) rfl
theorem dX11_tourOf_20 : decode cX11_tourOf 20 = .ok (.iload 4, 2) := zrD zrw_cX11_tourOf_0 (i := 20) (by decide +kernel) rfl
theorem dX11_tourOf_22 : decode cX11_tourOf 22 = .ok (.iaload, 1) := zrD zrw_cX11_tourOf_0 (i := 22) (by decide +kernel) rfl
theorem dX11_tourOf_23 : decode cX11_tourOf 23 = .ok (.iload_n 1, 1) := zrD zrw_cX11_tourOf_0 (i := 23) (by decide +kernel) rfl
theorem dX11_tourOf_24 : decode cX11_tourOf 24 = .ok (.iand, 1) := zrD zrw_cX11_tourOf_0 (i := 24) (by decide +kernel) rfl
theorem dX11_tourOf_25 : decode cX11_tourOf 25 = .ok (.ifCond .eq 21, 3) := zrD zrw_cX11_tourOf_0 (i := 25) (by decide +kernel) rfl
theorem dX11_tourOf_28 : decode cX11_tourOf 28 = .ok (.iload_n 2, 1) := zrD zrw_cX11_tourOf_0 (i := 28) (by decide +kernel) rfl
theorem dX11_tourOf_29 : decode cX11_tourOf 29 = .ok (.aload_n 0, 1) := zrD zrw_cX11_tourOf_0 (i := 29) (by decide +kernel) rfl
def zrk_cX11_tourOf_30 : ByteArray := .mk #[180, 0, 49, 16, 12, 42, 180, 0, 236, 104, 21, 4, 96, 46, 96, 61, 27, 21, 4, 122, 4, 126, 4, 160, 0, 22, 42, 180, 0, 113, 21, 4]
theorem zrw_cX11_tourOf_30 : zrW 30 cX11_tourOf zrk_cX11_tourOf_30 := by unfold zrW; decide +kernel
theorem dX11_tourOf_30 : decode cX11_tourOf 30 = .ok (.getfield 49, 3) := zrD zrw_cX11_tourOf_30 (i := 0) (by decide +kernel) rfl
theorem dX11_tourOf_33 : decode cX11_tourOf 33 = .ok (.bipush 12, 2) := zrD zrw_cX11_tourOf_30 (i := 3) (by decide +kernel) rfl
theorem dX11_tourOf_35 : decode cX11_tourOf 35 = .ok (.aload_n 0, 1) := zrD zrw_cX11_tourOf_30 (i := 5) (by decide +kernel) rfl
theorem dX11_tourOf_36 : decode cX11_tourOf 36 = .ok (.getfield 236, 3) := zrD zrw_cX11_tourOf_30 (i := 6) (by decide +kernel) rfl
theorem dX11_tourOf_39 : decode cX11_tourOf 39 = .ok (.imul, 1) := zrD zrw_cX11_tourOf_30 (i := 9) (by decide +kernel) rfl
theorem dX11_tourOf_40 : decode cX11_tourOf 40 = .ok (.iload 4, 2) := zrD zrw_cX11_tourOf_30 (i := 10) (by decide +kernel) rfl
theorem dX11_tourOf_42 : decode cX11_tourOf 42 = .ok (.iadd, 1) := zrD zrw_cX11_tourOf_30 (i := 12) (by decide +kernel) rfl
theorem dX11_tourOf_43 : decode cX11_tourOf 43 = .ok (.iaload, 1) := zrD zrw_cX11_tourOf_30 (i := 13) (by decide +kernel) rfl
theorem dX11_tourOf_44 : decode cX11_tourOf 44 = .ok (.iadd, 1) := zrD zrw_cX11_tourOf_30 (i := 14) (by decide +kernel) rfl
theorem dX11_tourOf_45 : decode cX11_tourOf 45 = .ok (.istore_n 2, 1) := zrD zrw_cX11_tourOf_30 (i := 15) (by decide +kernel) rfl
theorem dX11_tourOf_46 : decode cX11_tourOf 46 = .ok (.iload_n 1, 1) := zrD zrw_cX11_tourOf_30 (i := 16) (by decide +kernel) rfl
theorem dX11_tourOf_47 : decode cX11_tourOf 47 = .ok (.iload 4, 2) := zrD zrw_cX11_tourOf_30 (i := 17) (by decide +kernel) rfl
theorem dX11_tourOf_49 : decode cX11_tourOf 49 = .ok (.ishr, 1) := zrD zrw_cX11_tourOf_30 (i := 19) (by decide +kernel) rfl
theorem dX11_tourOf_50 : decode cX11_tourOf 50 = .ok (.iconst 1, 1) := zrD zrw_cX11_tourOf_30 (i := 20) (by decide +kernel) rfl
theorem dX11_tourOf_51 : decode cX11_tourOf 51 = .ok (.iand, 1) := zrD zrw_cX11_tourOf_30 (i := 21) (by decide +kernel) rfl
theorem dX11_tourOf_52 : decode cX11_tourOf 52 = .ok (.iconst 1, 1) := zrD zrw_cX11_tourOf_30 (i := 22) (by decide +kernel) rfl
theorem dX11_tourOf_53 : decode cX11_tourOf 53 = .ok (.if_icmp .ne 22, 3) := zrD zrw_cX11_tourOf_30 (i := 23) (by decide +kernel) rfl
theorem dX11_tourOf_56 : decode cX11_tourOf 56 = .ok (.aload_n 0, 1) := zrD zrw_cX11_tourOf_30 (i := 26) (by decide +kernel) rfl
theorem dX11_tourOf_57 : decode cX11_tourOf 57 = .ok (.getfield 113, 3) := zrD zrw_cX11_tourOf_30 (i := 27) (by decide +kernel) rfl
theorem dX11_tourOf_60 : decode cX11_tourOf 60 = .ok (.iload 4, 2) := zrD zrw_cX11_tourOf_30 (i := 30) (by decide +kernel) rfl
def zrk_cX11_tourOf_62 : ByteArray := .mk #[46, 29, 164, 0, 11, 42, 180, 0, 113, 21, 4, 46, 62, 132, 4, 1, 167, 255, 185, 5, 28, 104, 29, 100, 172]
theorem zrw_cX11_tourOf_62 : zrW 62 cX11_tourOf zrk_cX11_tourOf_62 := by unfold zrW; decide +kernel
theorem dX11_tourOf_62 : decode cX11_tourOf 62 = .ok (.iaload, 1) := zrD zrw_cX11_tourOf_62 (i := 0) (by decide +kernel) rfl
theorem dX11_tourOf_63 : decode cX11_tourOf 63 = .ok (.iload_n 3, 1) := zrD zrw_cX11_tourOf_62 (i := 1) (by decide +kernel) rfl
theorem dX11_tourOf_64 : decode cX11_tourOf 64 = .ok (.if_icmp .le 11, 3) := zrD zrw_cX11_tourOf_62 (i := 2) (by decide +kernel) rfl
theorem dX11_tourOf_67 : decode cX11_tourOf 67 = .ok (.aload_n 0, 1) := zrD zrw_cX11_tourOf_62 (i := 5) (by decide +kernel) rfl
theorem dX11_tourOf_68 : decode cX11_tourOf 68 = .ok (.getfield 113, 3) := zrD zrw_cX11_tourOf_62 (i := 6) (by decide +kernel) rfl
theorem dX11_tourOf_71 : decode cX11_tourOf 71 = .ok (.iload 4, 2) := zrD zrw_cX11_tourOf_62 (i := 9) (by decide +kernel) rfl
theorem dX11_tourOf_73 : decode cX11_tourOf 73 = .ok (.iaload, 1) := zrD zrw_cX11_tourOf_62 (i := 11) (by decide +kernel) rfl
theorem dX11_tourOf_74 : decode cX11_tourOf 74 = .ok (.istore_n 3, 1) := zrD zrw_cX11_tourOf_62 (i := 12) (by decide +kernel) rfl
theorem dX11_tourOf_75 : decode cX11_tourOf 75 = .ok (.iinc 4 1, 3) := zrD zrw_cX11_tourOf_62 (i := 13) (by decide +kernel) rfl
theorem dX11_tourOf_78 : decode cX11_tourOf 78 = .ok (.goto (-71), 3) := zrD zrw_cX11_tourOf_62 (i := 16) (by decide +kernel) rfl
theorem dX11_tourOf_81 : decode cX11_tourOf 81 = .ok (.iconst 2, 1) := zrD zrw_cX11_tourOf_62 (i := 19) (by decide +kernel) rfl
theorem dX11_tourOf_82 : decode cX11_tourOf 82 = .ok (.iload_n 2, 1) := zrD zrw_cX11_tourOf_62 (i := 20) (by decide +kernel) rfl
theorem dX11_tourOf_83 : decode cX11_tourOf 83 = .ok (.imul, 1) := zrD zrw_cX11_tourOf_62 (i := 21) (by decide +kernel) rfl
theorem dX11_tourOf_84 : decode cX11_tourOf 84 = .ok (.iload_n 3, 1) := zrD zrw_cX11_tourOf_62 (i := 22) (by decide +kernel) rfl
theorem dX11_tourOf_85 : decode cX11_tourOf 85 = .ok (.isub, 1) := zrD zrw_cX11_tourOf_62 (i := 23) (by decide +kernel) rfl
theorem dX11_tourOf_86 : decode cX11_tourOf 86 = .ok (.ireturn, 1) := zrD zrw_cX11_tourOf_62 (i := 24) (by decide +kernel) rfl
def zrk_cX11_tour_0 : ByteArray := .mk #[42, 182, 1, 76, 42, 42, 182, 1, 161, 182, 1, 186, 172]
theorem zrw_cX11_tour_0 : zrW 0 cX11_tour zrk_cX11_tour_0 := by unfold zrW; decide +kernel
theorem dX11_tour_0 : decode cX11_tour 0 = .ok (.aload_n 0, 1) := zrD zrw_cX11_tour_0 (i := 0) (by decide +kernel) rfl
theorem dX11_tour_1 : decode cX11_tour 1 = .ok (.invokevirtual 332, 3) := zrD zrw_cX11_tour_0 (i := 1) (by decide +kernel) rfl
theorem dX11_tour_4 : decode cX11_tour 4 = .ok (.aload_n 0, 1) := zrD zrw_cX11_tour_0 (i := 4) (by decide +kernel) rfl
theorem dX11_tour_5 : decode cX11_tour 5 = .ok (.aload_n 0, 1) := zrD zrw_cX11_tour_0 (i := 5) (by decide +kernel) rfl
theorem dX11_tour_6 : decode cX11_tour 6 = .ok (.invokevirtual 417, 3) := zrD zrw_cX11_tour_0 (i := 6) (by decide +kernel) rfl
theorem dX11_tour_9 : decode cX11_tour 9 = .ok (.invokevirtual 442, 3) := zrD zrw_cX11_tour_0 (i := 9) (by decide +kernel) rfl
theorem dX11_tour_12 : decode cX11_tour 12 = .ok (.ireturn, 1) := zrD zrw_cX11_tour_0 (i := 12) (by decide +kernel) rfl
def zrk_cX11_parted_0 : ByteArray := .mk #[42, 182, 1, 76, 42, 182, 1, 161, 60, 42, 27, 182, 1, 186, 61, 3, 62, 29, 27, 163, 0, 58, 29, 27, 2, 130, 126, 153, 0, 6]
theorem zrw_cX11_parted_0 : zrW 0 cX11_parted zrk_cX11_parted_0 := by unfold zrW; decide +kernel
theorem dX11_parted_0 : decode cX11_parted 0 = .ok (.aload_n 0, 1) := zrD zrw_cX11_parted_0 (i := 0) (by decide +kernel) rfl
theorem dX11_parted_1 : decode cX11_parted 1 = .ok (.invokevirtual 332, 3) := zrD zrw_cX11_parted_0 (i := 1) (by decide +kernel) rfl
theorem dX11_parted_4 : decode cX11_parted 4 = .ok (.aload_n 0, 1) := zrD zrw_cX11_parted_0 (i := 4) (by decide +kernel) rfl
theorem dX11_parted_5 : decode cX11_parted 5 = .ok (.invokevirtual 417, 3) := zrD zrw_cX11_parted_0 (i := 5) (by decide +kernel) rfl
theorem dX11_parted_8 : decode cX11_parted 8 = .ok (.istore_n 1, 1) := zrD zrw_cX11_parted_0 (i := 8) (by decide +kernel) rfl
theorem dX11_parted_9 : decode cX11_parted 9 = .ok (.aload_n 0, 1) := zrD zrw_cX11_parted_0 (i := 9) (by decide +kernel) rfl
theorem dX11_parted_10 : decode cX11_parted 10 = .ok (.iload_n 1, 1) := zrD zrw_cX11_parted_0 (i := 10) (by decide +kernel) rfl
theorem dX11_parted_11 : decode cX11_parted 11 = .ok (.invokevirtual 442, 3) := zrD zrw_cX11_parted_0 (i := 11) (by decide +kernel) rfl
theorem dX11_parted_14 : decode cX11_parted 14 = .ok (.istore_n 2, 1) := zrD zrw_cX11_parted_0 (i := 14) (by decide +kernel) rfl
theorem dX11_parted_15 : decode cX11_parted 15 = .ok (.iconst 0, 1) := zrD zrw_cX11_parted_0 (i := 15) (by decide +kernel) rfl
theorem dX11_parted_16 : decode cX11_parted 16 = .ok (.istore_n 3, 1) := zrD zrw_cX11_parted_0 (i := 16) (by decide +kernel) rfl
theorem dX11_parted_17 : decode cX11_parted 17 = .ok (.iload_n 3, 1) := zrD zrw_cX11_parted_0 (i := 17) (by decide +kernel) rfl
theorem dX11_parted_18 : decode cX11_parted 18 = .ok (.iload_n 1, 1) := zrD zrw_cX11_parted_0 (i := 18) (by decide +kernel) rfl
theorem dX11_parted_19 : decode cX11_parted 19 = .ok (.if_icmp .gt 58, 3) := zrD zrw_cX11_parted_0 (i := 19) (by decide +kernel) rfl
theorem dX11_parted_22 : decode cX11_parted 22 = .ok (.iload_n 3, 1) := zrD zrw_cX11_parted_0 (i := 22) (by decide +kernel) rfl
theorem dX11_parted_23 : decode cX11_parted 23 = .ok (.iload_n 1, 1) := zrD zrw_cX11_parted_0 (i := 23) (by decide +kernel) rfl
theorem dX11_parted_24 : decode cX11_parted 24 = .ok (.iconst (-1), 1) := zrD zrw_cX11_parted_0 (i := 24) (by decide +kernel) rfl
theorem dX11_parted_25 : decode cX11_parted 25 = .ok (.ixor, 1) := zrD zrw_cX11_parted_0 (i := 25) (by decide +kernel) rfl
theorem dX11_parted_26 : decode cX11_parted 26 = .ok (.iand, 1) := zrD zrw_cX11_parted_0 (i := 26) (by decide +kernel) rfl
theorem dX11_parted_27 : decode cX11_parted 27 = .ok (.ifCond .eq 6, 3) := zrD zrw_cX11_parted_0 (i := 27) (by decide +kernel) rfl
def zrk_cX11_parted_30 : ByteArray := .mk #[167, 0, 41, 42, 29, 182, 1, 186, 54, 4, 42, 27, 29, 2, 130, 126, 182, 1, 186, 54, 5, 21, 5, 21, 4, 164, 0, 7, 21, 5, 54, 4]
theorem zrw_cX11_parted_30 : zrW 30 cX11_parted zrk_cX11_parted_30 := by unfold zrW; decide +kernel
theorem dX11_parted_30 : decode cX11_parted 30 = .ok (.goto 41, 3) := zrD zrw_cX11_parted_30 (i := 0) (by decide +kernel) rfl
theorem dX11_parted_33 : decode cX11_parted 33 = .ok (.aload_n 0, 1) := zrD zrw_cX11_parted_30 (i := 3) (by decide +kernel) rfl
theorem dX11_parted_34 : decode cX11_parted 34 = .ok (.iload_n 3, 1) := zrD zrw_cX11_parted_30 (i := 4) (by decide +kernel) rfl
theorem dX11_parted_35 : decode cX11_parted 35 = .ok (.invokevirtual 442, 3) := zrD zrw_cX11_parted_30 (i := 5) (by decide +kernel) rfl
theorem dX11_parted_38 : decode cX11_parted 38 = .ok (.istore 4, 2) := zrD zrw_cX11_parted_30 (i := 8) (by decide +kernel) rfl
theorem dX11_parted_40 : decode cX11_parted 40 = .ok (.aload_n 0, 1) := zrD zrw_cX11_parted_30 (i := 10) (by decide +kernel) rfl
theorem dX11_parted_41 : decode cX11_parted 41 = .ok (.iload_n 1, 1) := zrD zrw_cX11_parted_30 (i := 11) (by decide +kernel) rfl
theorem dX11_parted_42 : decode cX11_parted 42 = .ok (.iload_n 3, 1) := zrD zrw_cX11_parted_30 (i := 12) (by decide +kernel) rfl
theorem dX11_parted_43 : decode cX11_parted 43 = .ok (.iconst (-1), 1) := zrD zrw_cX11_parted_30 (i := 13) (by decide +kernel) rfl
theorem dX11_parted_44 : decode cX11_parted 44 = .ok (.ixor, 1) := zrD zrw_cX11_parted_30 (i := 14) (by decide +kernel) rfl
theorem dX11_parted_45 : decode cX11_parted 45 = .ok (.iand, 1) := zrD zrw_cX11_parted_30 (i := 15) (by decide +kernel) rfl
theorem dX11_parted_46 : decode cX11_parted 46 = .ok (.invokevirtual 442, 3) := zrD zrw_cX11_parted_30 (i := 16) (by decide +kernel) rfl
theorem dX11_parted_49 : decode cX11_parted 49 = .ok (.istore 5, 2) := zrD zrw_cX11_parted_30 (i := 19) (by decide +kernel) rfl
theorem dX11_parted_51 : decode cX11_parted 51 = .ok (.iload 5, 2) := zrD zrw_cX11_parted_30 (i := 21) (by decide +kernel) rfl
theorem dX11_parted_53 : decode cX11_parted 53 = .ok (.iload 4, 2) := zrD zrw_cX11_parted_30 (i := 23) (by decide +kernel) rfl
theorem dX11_parted_55 : decode cX11_parted 55 = .ok (.if_icmp .le 7, 3) := zrD zrw_cX11_parted_30 (i := 25) (by decide +kernel) rfl
theorem dX11_parted_58 : decode cX11_parted 58 = .ok (.iload 5, 2) := zrD zrw_cX11_parted_30 (i := 28) (by decide +kernel) rfl
theorem dX11_parted_60 : decode cX11_parted 60 = .ok (.istore 4, 2) := zrD zrw_cX11_parted_30 (i := 30) (by decide +kernel) rfl
def zrk_cX11_parted_62 : ByteArray := .mk #[21, 4, 28, 162, 0, 6, 21, 4, 61, 132, 3, 2, 167, 255, 199, 28, 172]
theorem zrw_cX11_parted_62 : zrW 62 cX11_parted zrk_cX11_parted_62 := by unfold zrW; decide +kernel
theorem dX11_parted_62 : decode cX11_parted 62 = .ok (.iload 4, 2) := zrD zrw_cX11_parted_62 (i := 0) (by decide +kernel) rfl
theorem dX11_parted_64 : decode cX11_parted 64 = .ok (.iload_n 2, 1) := zrD zrw_cX11_parted_62 (i := 2) (by decide +kernel) rfl
theorem dX11_parted_65 : decode cX11_parted 65 = .ok (.if_icmp .ge 6, 3) := zrD zrw_cX11_parted_62 (i := 3) (by decide +kernel) rfl
theorem dX11_parted_68 : decode cX11_parted 68 = .ok (.iload 4, 2) := zrD zrw_cX11_parted_62 (i := 6) (by decide +kernel) rfl
theorem dX11_parted_70 : decode cX11_parted 70 = .ok (.istore_n 2, 1) := zrD zrw_cX11_parted_62 (i := 8) (by decide +kernel) rfl
theorem dX11_parted_71 : decode cX11_parted 71 = .ok (.iinc 3 2, 3) := zrD zrw_cX11_parted_62 (i := 9) (by decide +kernel) rfl
theorem dX11_parted_74 : decode cX11_parted 74 = .ok (.goto (-57), 3) := zrD zrw_cX11_parted_62 (i := 12) (by decide +kernel) rfl
theorem dX11_parted_77 : decode cX11_parted 77 = .ok (.iload_n 2, 1) := zrD zrw_cX11_parted_62 (i := 15) (by decide +kernel) rfl
theorem dX11_parted_78 : decode cX11_parted 78 = .ok (.ireturn, 1) := zrD zrw_cX11_parted_62 (i := 16) (by decide +kernel) rfl
def zrk_cX11_meet_0 : ByteArray := .mk #[42, 27, 182, 1, 127, 153, 0, 20, 42, 28, 182, 1, 127, 153, 0, 12, 29, 3, 4, 184, 1, 60, 154, 0, 5, 2, 172, 42, 182, 1, 76, 27]
theorem zrw_cX11_meet_0 : zrW 0 cX11_meet zrk_cX11_meet_0 := by unfold zrW; decide +kernel
theorem dX11_meet_0 : decode cX11_meet 0 = .ok (.aload_n 0, 1) := zrD zrw_cX11_meet_0 (i := 0) (by decide +kernel) rfl
theorem dX11_meet_1 : decode cX11_meet 1 = .ok (.iload_n 1, 1) := zrD zrw_cX11_meet_0 (i := 1) (by decide +kernel) rfl
theorem dX11_meet_2 : decode cX11_meet 2 = .ok (.invokevirtual 383, 3) := zrD zrw_cX11_meet_0 (i := 2) (by decide +kernel) rfl
theorem dX11_meet_5 : decode cX11_meet 5 = .ok (.ifCond .eq 20, 3) := zrD zrw_cX11_meet_0 (i := 5) (by decide +kernel) rfl
theorem dX11_meet_8 : decode cX11_meet 8 = .ok (.aload_n 0, 1) := zrD zrw_cX11_meet_0 (i := 8) (by decide +kernel) rfl
theorem dX11_meet_9 : decode cX11_meet 9 = .ok (.iload_n 2, 1) := zrD zrw_cX11_meet_0 (i := 9) (by decide +kernel) rfl
theorem dX11_meet_10 : decode cX11_meet 10 = .ok (.invokevirtual 383, 3) := zrD zrw_cX11_meet_0 (i := 10) (by decide +kernel) rfl
theorem dX11_meet_13 : decode cX11_meet 13 = .ok (.ifCond .eq 12, 3) := zrD zrw_cX11_meet_0 (i := 13) (by decide +kernel) rfl
theorem dX11_meet_16 : decode cX11_meet 16 = .ok (.iload_n 3, 1) := zrD zrw_cX11_meet_0 (i := 16) (by decide +kernel) rfl
theorem dX11_meet_17 : decode cX11_meet 17 = .ok (.iconst 0, 1) := zrD zrw_cX11_meet_0 (i := 17) (by decide +kernel) rfl
theorem dX11_meet_18 : decode cX11_meet 18 = .ok (.iconst 1, 1) := zrD zrw_cX11_meet_0 (i := 18) (by decide +kernel) rfl
theorem dX11_meet_19 : decode cX11_meet 19 = .ok (.invokestatic 316, 3) := zrD zrw_cX11_meet_0 (i := 19) (by decide +kernel) rfl
theorem dX11_meet_22 : decode cX11_meet 22 = .ok (.ifCond .ne 5, 3) := zrD zrw_cX11_meet_0 (i := 22) (by decide +kernel) rfl
theorem dX11_meet_25 : decode cX11_meet 25 = .ok (.iconst (-1), 1) := zrD zrw_cX11_meet_0 (i := 25) (by decide +kernel) rfl
theorem dX11_meet_26 : decode cX11_meet 26 = .ok (.ireturn, 1) := zrD zrw_cX11_meet_0 (i := 26) (by decide +kernel) rfl
theorem dX11_meet_27 : decode cX11_meet 27 = .ok (.aload_n 0, 1) := zrD zrw_cX11_meet_0 (i := 27) (by decide +kernel) rfl
theorem dX11_meet_28 : decode cX11_meet 28 = .ok (.invokevirtual 332, 3) := zrD zrw_cX11_meet_0 (i := 28) (by decide +kernel) rfl
theorem dX11_meet_31 : decode cX11_meet 31 = .ok (.iload_n 1, 1) := zrD zrw_cX11_meet_0 (i := 31) (by decide +kernel) rfl
def zrk_cX11_meet_32 : ByteArray := .mk #[54, 4, 42, 180, 0, 119, 21, 4, 46, 28, 122, 4, 126, 154, 0, 15, 42, 180, 0, 110, 21, 4, 46, 54, 4, 167, 255, 233, 29, 154, 0, 8]
theorem zrw_cX11_meet_32 : zrW 32 cX11_meet zrk_cX11_meet_32 := by unfold zrW; decide +kernel
theorem dX11_meet_32 : decode cX11_meet 32 = .ok (.istore 4, 2) := zrD zrw_cX11_meet_32 (i := 0) (by decide +kernel) rfl
theorem dX11_meet_34 : decode cX11_meet 34 = .ok (.aload_n 0, 1) := zrD zrw_cX11_meet_32 (i := 2) (by decide +kernel) rfl
theorem dX11_meet_35 : decode cX11_meet 35 = .ok (.getfield 119, 3) := zrD zrw_cX11_meet_32 (i := 3) (by decide +kernel) rfl
theorem dX11_meet_38 : decode cX11_meet 38 = .ok (.iload 4, 2) := zrD zrw_cX11_meet_32 (i := 6) (by decide +kernel) rfl
theorem dX11_meet_40 : decode cX11_meet 40 = .ok (.iaload, 1) := zrD zrw_cX11_meet_32 (i := 8) (by decide +kernel) rfl
theorem dX11_meet_41 : decode cX11_meet 41 = .ok (.iload_n 2, 1) := zrD zrw_cX11_meet_32 (i := 9) (by decide +kernel) rfl
theorem dX11_meet_42 : decode cX11_meet 42 = .ok (.ishr, 1) := zrD zrw_cX11_meet_32 (i := 10) (by decide +kernel) rfl
theorem dX11_meet_43 : decode cX11_meet 43 = .ok (.iconst 1, 1) := zrD zrw_cX11_meet_32 (i := 11) (by decide +kernel) rfl
theorem dX11_meet_44 : decode cX11_meet 44 = .ok (.iand, 1) := zrD zrw_cX11_meet_32 (i := 12) (by decide +kernel) rfl
theorem dX11_meet_45 : decode cX11_meet 45 = .ok (.ifCond .ne 15, 3) := zrD zrw_cX11_meet_32 (i := 13) (by decide +kernel) rfl
theorem dX11_meet_48 : decode cX11_meet 48 = .ok (.aload_n 0, 1) := zrD zrw_cX11_meet_32 (i := 16) (by decide +kernel) rfl
theorem dX11_meet_49 : decode cX11_meet 49 = .ok (.getfield 110, 3) := zrD zrw_cX11_meet_32 (i := 17) (by decide +kernel) rfl
theorem dX11_meet_52 : decode cX11_meet 52 = .ok (.iload 4, 2) := zrD zrw_cX11_meet_32 (i := 20) (by decide +kernel) rfl
theorem dX11_meet_54 : decode cX11_meet 54 = .ok (.iaload, 1) := zrD zrw_cX11_meet_32 (i := 22) (by decide +kernel) rfl
theorem dX11_meet_55 : decode cX11_meet 55 = .ok (.istore 4, 2) := zrD zrw_cX11_meet_32 (i := 23) (by decide +kernel) rfl
theorem dX11_meet_57 : decode cX11_meet 57 = .ok (.goto (-23), 3) := zrD zrw_cX11_meet_32 (i := 25) (by decide +kernel) rfl
theorem dX11_meet_60 : decode cX11_meet 60 = .ok (.iload_n 3, 1) := zrD zrw_cX11_meet_32 (i := 28) (by decide +kernel) rfl
theorem dX11_meet_61 : decode cX11_meet 61 = .ok (.ifCond .ne 8, 3) := zrD zrw_cX11_meet_32 (i := 29) (by decide +kernel) rfl
def zrk_cX11_meet_64 : ByteArray := .mk #[21, 4, 167, 0, 26, 42, 180, 0, 113, 27, 46, 42, 180, 0, 113, 28, 46, 96, 5, 42, 180, 0, 113, 21, 4, 46, 104, 100, 172]
theorem zrw_cX11_meet_64 : zrW 64 cX11_meet zrk_cX11_meet_64 := by unfold zrW; decide +kernel
theorem dX11_meet_64 : decode cX11_meet 64 = .ok (.iload 4, 2) := zrD zrw_cX11_meet_64 (i := 0) (by decide +kernel) rfl
theorem dX11_meet_66 : decode cX11_meet 66 = .ok (.goto 26, 3) := zrD zrw_cX11_meet_64 (i := 2) (by decide +kernel) rfl
theorem dX11_meet_69 : decode cX11_meet 69 = .ok (.aload_n 0, 1) := zrD zrw_cX11_meet_64 (i := 5) (by decide +kernel) rfl
theorem dX11_meet_70 : decode cX11_meet 70 = .ok (.getfield 113, 3) := zrD zrw_cX11_meet_64 (i := 6) (by decide +kernel) rfl
theorem dX11_meet_73 : decode cX11_meet 73 = .ok (.iload_n 1, 1) := zrD zrw_cX11_meet_64 (i := 9) (by decide +kernel) rfl
theorem dX11_meet_74 : decode cX11_meet 74 = .ok (.iaload, 1) := zrD zrw_cX11_meet_64 (i := 10) (by decide +kernel) rfl
theorem dX11_meet_75 : decode cX11_meet 75 = .ok (.aload_n 0, 1) := zrD zrw_cX11_meet_64 (i := 11) (by decide +kernel) rfl
theorem dX11_meet_76 : decode cX11_meet 76 = .ok (.getfield 113, 3) := zrD zrw_cX11_meet_64 (i := 12) (by decide +kernel) rfl
theorem dX11_meet_79 : decode cX11_meet 79 = .ok (.iload_n 2, 1) := zrD zrw_cX11_meet_64 (i := 15) (by decide +kernel) rfl
theorem dX11_meet_80 : decode cX11_meet 80 = .ok (.iaload, 1) := zrD zrw_cX11_meet_64 (i := 16) (by decide +kernel) rfl
theorem dX11_meet_81 : decode cX11_meet 81 = .ok (.iadd, 1) := zrD zrw_cX11_meet_64 (i := 17) (by decide +kernel) rfl
theorem dX11_meet_82 : decode cX11_meet 82 = .ok (.iconst 2, 1) := zrD zrw_cX11_meet_64 (i := 18) (by decide +kernel) rfl
theorem dX11_meet_83 : decode cX11_meet 83 = .ok (.aload_n 0, 1) := zrD zrw_cX11_meet_64 (i := 19) (by decide +kernel) rfl
theorem dX11_meet_84 : decode cX11_meet 84 = .ok (.getfield 113, 3) := zrD zrw_cX11_meet_64 (i := 20) (by decide +kernel) rfl
theorem dX11_meet_87 : decode cX11_meet 87 = .ok (.iload 4, 2) := zrD zrw_cX11_meet_64 (i := 23) (by decide +kernel) rfl
theorem dX11_meet_89 : decode cX11_meet 89 = .ok (.iaload, 1) := zrD zrw_cX11_meet_64 (i := 25) (by decide +kernel) rfl
theorem dX11_meet_90 : decode cX11_meet 90 = .ok (.imul, 1) := zrD zrw_cX11_meet_64 (i := 26) (by decide +kernel) rfl
theorem dX11_meet_91 : decode cX11_meet 91 = .ok (.isub, 1) := zrD zrw_cX11_meet_64 (i := 27) (by decide +kernel) rfl
theorem dX11_meet_92 : decode cX11_meet 92 = .ok (.ireturn, 1) := zrD zrw_cX11_meet_64 (i := 28) (by decide +kernel) rfl
def zrk_cX11_when_0 : ByteArray := .mk #[42, 27, 3, 182, 1, 133, 154, 0, 5, 2, 172, 42, 4, 181, 1, 67, 4, 61, 28, 16, 60, 163, 0, 23, 42, 182, 1, 124, 42, 180, 1, 121]
theorem zrw_cX11_when_0 : zrW 0 cX11_when zrk_cX11_when_0 := by unfold zrW; decide +kernel
theorem dX11_when_0 : decode cX11_when 0 = .ok (.aload_n 0, 1) := zrD zrw_cX11_when_0 (i := 0) (by decide +kernel) rfl
theorem dX11_when_1 : decode cX11_when 1 = .ok (.iload_n 1, 1) := zrD zrw_cX11_when_0 (i := 1) (by decide +kernel) rfl
theorem dX11_when_2 : decode cX11_when 2 = .ok (.iconst 0, 1) := zrD zrw_cX11_when_0 (i := 2) (by decide +kernel) rfl
theorem dX11_when_3 : decode cX11_when 3 = .ok (.invokevirtual 389, 3) := zrD zrw_cX11_when_0 (i := 3) (by decide +kernel) rfl
theorem dX11_when_6 : decode cX11_when 6 = .ok (.ifCond .ne 5, 3) := zrD zrw_cX11_when_0 (i := 6) (by decide +kernel) rfl
theorem dX11_when_9 : decode cX11_when 9 = .ok (.iconst (-1), 1) := zrD zrw_cX11_when_0 (i := 9) (by decide +kernel) rfl
theorem dX11_when_10 : decode cX11_when 10 = .ok (.ireturn, 1) := zrD zrw_cX11_when_0 (i := 10) (by decide +kernel) rfl
theorem dX11_when_11 : decode cX11_when 11 = .ok (.aload_n 0, 1) := zrD zrw_cX11_when_0 (i := 11) (by decide +kernel) rfl
theorem dX11_when_12 : decode cX11_when 12 = .ok (.iconst 1, 1) := zrD zrw_cX11_when_0 (i := 12) (by decide +kernel) rfl
theorem dX11_when_13 : decode cX11_when 13 = .ok (.putfield 323, 3) := zrD zrw_cX11_when_0 (i := 13) (by decide +kernel) rfl
theorem dX11_when_16 : decode cX11_when 16 = .ok (.iconst 1, 1) := zrD zrw_cX11_when_0 (i := 16) (by decide +kernel) rfl
theorem dX11_when_17 : decode cX11_when 17 = .ok (.istore_n 2, 1) := zrD zrw_cX11_when_0 (i := 17) (by decide +kernel) rfl
theorem dX11_when_18 : decode cX11_when 18 = .ok (.iload_n 2, 1) := zrD zrw_cX11_when_0 (i := 18) (by decide +kernel) rfl
theorem dX11_when_19 : decode cX11_when 19 = .ok (.bipush 60, 2) := zrD zrw_cX11_when_0 (i := 19) (by decide +kernel) rfl
theorem dX11_when_21 : decode cX11_when 21 = .ok (.if_icmp .gt 23, 3) := zrD zrw_cX11_when_0 (i := 21) (by decide +kernel) rfl
theorem dX11_when_24 : decode cX11_when 24 = .ok (.aload_n 0, 1) := zrD zrw_cX11_when_0 (i := 24) (by decide +kernel) rfl
theorem dX11_when_25 : decode cX11_when 25 = .ok (.invokevirtual 380, 3) := zrD zrw_cX11_when_0 (i := 25) (by decide +kernel) rfl
theorem dX11_when_28 : decode cX11_when 28 = .ok (.aload_n 0, 1) := zrD zrw_cX11_when_0 (i := 28) (by decide +kernel) rfl
theorem dX11_when_29 : decode cX11_when 29 = .ok (.getfield 377, 3) := zrD zrw_cX11_when_0 (i := 29) (by decide +kernel) rfl
def zrk_cX11_when_32 : ByteArray := .mk #[27, 160, 0, 5, 28, 172, 132, 2, 1, 167, 255, 233, 16, 254, 172]
theorem zrw_cX11_when_32 : zrW 32 cX11_when zrk_cX11_when_32 := by unfold zrW; decide +kernel
theorem dX11_when_32 : decode cX11_when 32 = .ok (.iload_n 1, 1) := zrD zrw_cX11_when_32 (i := 0) (by decide +kernel) rfl
theorem dX11_when_33 : decode cX11_when 33 = .ok (.if_icmp .ne 5, 3) := zrD zrw_cX11_when_32 (i := 1) (by decide +kernel) rfl
theorem dX11_when_36 : decode cX11_when 36 = .ok (.iload_n 2, 1) := zrD zrw_cX11_when_32 (i := 4) (by decide +kernel) rfl
theorem dX11_when_37 : decode cX11_when 37 = .ok (.ireturn, 1) := zrD zrw_cX11_when_32 (i := 5) (by decide +kernel) rfl
theorem dX11_when_38 : decode cX11_when 38 = .ok (.iinc 2 1, 3) := zrD zrw_cX11_when_32 (i := 6) (by decide +kernel) rfl
theorem dX11_when_41 : decode cX11_when 41 = .ok (.goto (-23), 3) := zrD zrw_cX11_when_32 (i := 9) (by decide +kernel) rfl
theorem dX11_when_44 : decode cX11_when 44 = .ok (.bipush (-2), 2) := zrD zrw_cX11_when_32 (i := 12) (by decide +kernel) rfl
theorem dX11_when_46 : decode cX11_when 46 = .ok (.ireturn, 1) := zrD zrw_cX11_when_32 (i := 14) (by decide +kernel) rfl
def zrk_cX11_then_0 : ByteArray := .mk #[28, 184, 1, 146, 153, 0, 21, 29, 3, 4, 184, 1, 60, 153, 0, 12, 42, 27, 3, 182, 1, 133, 154, 0, 5, 2, 172, 42, 28, 182, 1, 149]
theorem zrw_cX11_then_0 : zrW 0 cX11_then zrk_cX11_then_0 := by unfold zrW; decide +kernel
theorem dX11_then_0 : decode cX11_then 0 = .ok (.iload_n 2, 1) := zrD zrw_cX11_then_0 (i := 0) (by decide +kernel) rfl
theorem dX11_then_1 : decode cX11_then 1 = .ok (.invokestatic 402, 3) := zrD zrw_cX11_then_0 (i := 1) (by decide +kernel) rfl
theorem dX11_then_4 : decode cX11_then 4 = .ok (.ifCond .eq 21, 3) := zrD zrw_cX11_then_0 (i := 4) (by decide +kernel) rfl
theorem dX11_then_7 : decode cX11_then 7 = .ok (.iload_n 3, 1) := zrD zrw_cX11_then_0 (i := 7) (by decide +kernel) rfl
theorem dX11_then_8 : decode cX11_then 8 = .ok (.iconst 0, 1) := zrD zrw_cX11_then_0 (i := 8) (by decide +kernel) rfl
theorem dX11_then_9 : decode cX11_then 9 = .ok (.iconst 1, 1) := zrD zrw_cX11_then_0 (i := 9) (by decide +kernel) rfl
theorem dX11_then_10 : decode cX11_then 10 = .ok (.invokestatic 316, 3) := zrD zrw_cX11_then_0 (i := 10) (by decide +kernel) rfl
theorem dX11_then_13 : decode cX11_then 13 = .ok (.ifCond .eq 12, 3) := zrD zrw_cX11_then_0 (i := 13) (by decide +kernel) rfl
theorem dX11_then_16 : decode cX11_then 16 = .ok (.aload_n 0, 1) := zrD zrw_cX11_then_0 (i := 16) (by decide +kernel) rfl
theorem dX11_then_17 : decode cX11_then 17 = .ok (.iload_n 1, 1) := zrD zrw_cX11_then_0 (i := 17) (by decide +kernel) rfl
theorem dX11_then_18 : decode cX11_then 18 = .ok (.iconst 0, 1) := zrD zrw_cX11_then_0 (i := 18) (by decide +kernel) rfl
theorem dX11_then_19 : decode cX11_then 19 = .ok (.invokevirtual 389, 3) := zrD zrw_cX11_then_0 (i := 19) (by decide +kernel) rfl
theorem dX11_then_22 : decode cX11_then 22 = .ok (.ifCond .ne 5, 3) := zrD zrw_cX11_then_0 (i := 22) (by decide +kernel) rfl
theorem dX11_then_25 : decode cX11_then 25 = .ok (.iconst (-1), 1) := zrD zrw_cX11_then_0 (i := 25) (by decide +kernel) rfl
theorem dX11_then_26 : decode cX11_then 26 = .ok (.ireturn, 1) := zrD zrw_cX11_then_0 (i := 26) (by decide +kernel) rfl
theorem dX11_then_27 : decode cX11_then 27 = .ok (.aload_n 0, 1) := zrD zrw_cX11_then_0 (i := 27) (by decide +kernel) rfl
theorem dX11_then_28 : decode cX11_then 28 = .ok (.iload_n 2, 1) := zrD zrw_cX11_then_0 (i := 28) (by decide +kernel) rfl
theorem dX11_then_29 : decode cX11_then 29 = .ok (.invokevirtual 405, 3) := zrD zrw_cX11_then_0 (i := 29) (by decide +kernel) rfl
def zrk_cX11_then_32 : ByteArray := .mk #[42, 180, 0, 110, 16, 24, 16, 12, 29, 104, 96, 27, 96, 46, 172]
theorem zrw_cX11_then_32 : zrW 32 cX11_then zrk_cX11_then_32 := by unfold zrW; decide +kernel
theorem dX11_then_32 : decode cX11_then 32 = .ok (.aload_n 0, 1) := zrD zrw_cX11_then_32 (i := 0) (by decide +kernel) rfl
theorem dX11_then_33 : decode cX11_then 33 = .ok (.getfield 110, 3) := zrD zrw_cX11_then_32 (i := 1) (by decide +kernel) rfl
theorem dX11_then_36 : decode cX11_then 36 = .ok (.bipush 24, 2) := zrD zrw_cX11_then_32 (i := 4) (by decide +kernel) rfl
theorem dX11_then_38 : decode cX11_then 38 = .ok (.bipush 12, 2) := zrD zrw_cX11_then_32 (i := 6) (by decide +kernel) rfl
theorem dX11_then_40 : decode cX11_then 40 = .ok (.iload_n 3, 1) := zrD zrw_cX11_then_32 (i := 8) (by decide +kernel) rfl
theorem dX11_then_41 : decode cX11_then 41 = .ok (.imul, 1) := zrD zrw_cX11_then_32 (i := 9) (by decide +kernel) rfl
theorem dX11_then_42 : decode cX11_then 42 = .ok (.iadd, 1) := zrD zrw_cX11_then_32 (i := 10) (by decide +kernel) rfl
theorem dX11_then_43 : decode cX11_then 43 = .ok (.iload_n 1, 1) := zrD zrw_cX11_then_32 (i := 11) (by decide +kernel) rfl
theorem dX11_then_44 : decode cX11_then 44 = .ok (.iadd, 1) := zrD zrw_cX11_then_32 (i := 12) (by decide +kernel) rfl
theorem dX11_then_45 : decode cX11_then 45 = .ok (.iaload, 1) := zrD zrw_cX11_then_32 (i := 13) (by decide +kernel) rfl
theorem dX11_then_46 : decode cX11_then 46 = .ok (.ireturn, 1) := zrD zrw_cX11_then_32 (i := 14) (by decide +kernel) rfl
def zrk_cX11_flowIn_0 : ByteArray := .mk #[27, 184, 1, 146, 153, 0, 10, 42, 182, 1, 57, 154, 0, 5, 2, 172, 42, 182, 1, 76, 42, 27, 182, 1, 149, 42, 180, 0, 122, 3, 46, 172]
theorem zrw_cX11_flowIn_0 : zrW 0 cX11_flowIn zrk_cX11_flowIn_0 := by unfold zrW; decide +kernel
theorem dX11_flowIn_0 : decode cX11_flowIn 0 = .ok (.iload_n 1, 1) := zrD zrw_cX11_flowIn_0 (i := 0) (by decide +kernel) rfl
theorem dX11_flowIn_1 : decode cX11_flowIn 1 = .ok (.invokestatic 402, 3) := zrD zrw_cX11_flowIn_0 (i := 1) (by decide +kernel) rfl
theorem dX11_flowIn_4 : decode cX11_flowIn 4 = .ok (.ifCond .eq 10, 3) := zrD zrw_cX11_flowIn_0 (i := 4) (by decide +kernel) rfl
theorem dX11_flowIn_7 : decode cX11_flowIn 7 = .ok (.aload_n 0, 1) := zrD zrw_cX11_flowIn_0 (i := 7) (by decide +kernel) rfl
theorem dX11_flowIn_8 : decode cX11_flowIn 8 = .ok (.invokevirtual 313, 3) := zrD zrw_cX11_flowIn_0 (i := 8) (by decide +kernel) rfl
theorem dX11_flowIn_11 : decode cX11_flowIn 11 = .ok (.ifCond .ne 5, 3) := zrD zrw_cX11_flowIn_0 (i := 11) (by decide +kernel) rfl
theorem dX11_flowIn_14 : decode cX11_flowIn 14 = .ok (.iconst (-1), 1) := zrD zrw_cX11_flowIn_0 (i := 14) (by decide +kernel) rfl
theorem dX11_flowIn_15 : decode cX11_flowIn 15 = .ok (.ireturn, 1) := zrD zrw_cX11_flowIn_0 (i := 15) (by decide +kernel) rfl
theorem dX11_flowIn_16 : decode cX11_flowIn 16 = .ok (.aload_n 0, 1) := zrD zrw_cX11_flowIn_0 (i := 16) (by decide +kernel) rfl
theorem dX11_flowIn_17 : decode cX11_flowIn 17 = .ok (.invokevirtual 332, 3) := zrD zrw_cX11_flowIn_0 (i := 17) (by decide +kernel) rfl
theorem dX11_flowIn_20 : decode cX11_flowIn 20 = .ok (.aload_n 0, 1) := zrD zrw_cX11_flowIn_0 (i := 20) (by decide +kernel) rfl
theorem dX11_flowIn_21 : decode cX11_flowIn 21 = .ok (.iload_n 1, 1) := zrD zrw_cX11_flowIn_0 (i := 21) (by decide +kernel) rfl
theorem dX11_flowIn_22 : decode cX11_flowIn 22 = .ok (.invokevirtual 405, 3) := zrD zrw_cX11_flowIn_0 (i := 22) (by decide +kernel) rfl
theorem dX11_flowIn_25 : decode cX11_flowIn 25 = .ok (.aload_n 0, 1) := zrD zrw_cX11_flowIn_0 (i := 25) (by decide +kernel) rfl
theorem dX11_flowIn_26 : decode cX11_flowIn 26 = .ok (.getfield 122, 3) := zrD zrw_cX11_flowIn_0 (i := 26) (by decide +kernel) rfl
theorem dX11_flowIn_29 : decode cX11_flowIn 29 = .ok (.iconst 0, 1) := zrD zrw_cX11_flowIn_0 (i := 29) (by decide +kernel) rfl
theorem dX11_flowIn_30 : decode cX11_flowIn 30 = .ok (.iaload, 1) := zrD zrw_cX11_flowIn_0 (i := 30) (by decide +kernel) rfl
theorem dX11_flowIn_31 : decode cX11_flowIn 31 = .ok (.ireturn, 1) := zrD zrw_cX11_flowIn_0 (i := 31) (by decide +kernel) rfl
def zrk_cX11_hasWonMost_0 : ByteArray := .mk #[4, 61, 28, 42, 182, 1, 57, 162, 0, 37, 28, 27, 159, 0, 26, 42, 180, 0, 110, 16, 24, 28, 96, 46, 42, 180, 0, 110, 16, 24, 27, 96]
theorem zrw_cX11_hasWonMost_0 : zrW 0 cX11_hasWonMost zrk_cX11_hasWonMost_0 := by unfold zrW; decide +kernel
theorem dX11_hasWonMost_0 : decode cX11_hasWonMost 0 = .ok (.iconst 1, 1) := zrD zrw_cX11_hasWonMost_0 (i := 0) (by decide +kernel) rfl
theorem dX11_hasWonMost_1 : decode cX11_hasWonMost 1 = .ok (.istore_n 2, 1) := zrD zrw_cX11_hasWonMost_0 (i := 1) (by decide +kernel) rfl
theorem dX11_hasWonMost_2 : decode cX11_hasWonMost 2 = .ok (.iload_n 2, 1) := zrD zrw_cX11_hasWonMost_0 (i := 2) (by decide +kernel) rfl
theorem dX11_hasWonMost_3 : decode cX11_hasWonMost 3 = .ok (.aload_n 0, 1) := zrD zrw_cX11_hasWonMost_0 (i := 3) (by decide +kernel) rfl
theorem dX11_hasWonMost_4 : decode cX11_hasWonMost 4 = .ok (.invokevirtual 313, 3) := zrD zrw_cX11_hasWonMost_0 (i := 4) (by decide +kernel) rfl
theorem dX11_hasWonMost_7 : decode cX11_hasWonMost 7 = .ok (.if_icmp .ge 37, 3) := zrD zrw_cX11_hasWonMost_0 (i := 7) (by decide +kernel) rfl
theorem dX11_hasWonMost_10 : decode cX11_hasWonMost 10 = .ok (.iload_n 2, 1) := zrD zrw_cX11_hasWonMost_0 (i := 10) (by decide +kernel) rfl
theorem dX11_hasWonMost_11 : decode cX11_hasWonMost 11 = .ok (.iload_n 1, 1) := zrD zrw_cX11_hasWonMost_0 (i := 11) (by decide +kernel) rfl
theorem dX11_hasWonMost_12 : decode cX11_hasWonMost 12 = .ok (.if_icmp .eq 26, 3) := zrD zrw_cX11_hasWonMost_0 (i := 12) (by decide +kernel) rfl
theorem dX11_hasWonMost_15 : decode cX11_hasWonMost 15 = .ok (.aload_n 0, 1) := zrD zrw_cX11_hasWonMost_0 (i := 15) (by decide +kernel) rfl
theorem dX11_hasWonMost_16 : decode cX11_hasWonMost 16 = .ok (.getfield 110, 3) := zrD zrw_cX11_hasWonMost_0 (i := 16) (by decide +kernel) rfl
theorem dX11_hasWonMost_19 : decode cX11_hasWonMost 19 = .ok (.bipush 24, 2) := zrD zrw_cX11_hasWonMost_0 (i := 19) (by decide +kernel) rfl
theorem dX11_hasWonMost_21 : decode cX11_hasWonMost 21 = .ok (.iload_n 2, 1) := zrD zrw_cX11_hasWonMost_0 (i := 21) (by decide +kernel) rfl
theorem dX11_hasWonMost_22 : decode cX11_hasWonMost 22 = .ok (.iadd, 1) := zrD zrw_cX11_hasWonMost_0 (i := 22) (by decide +kernel) rfl
theorem dX11_hasWonMost_23 : decode cX11_hasWonMost 23 = .ok (.iaload, 1) := zrD zrw_cX11_hasWonMost_0 (i := 23) (by decide +kernel) rfl
theorem dX11_hasWonMost_24 : decode cX11_hasWonMost 24 = .ok (.aload_n 0, 1) := zrD zrw_cX11_hasWonMost_0 (i := 24) (by decide +kernel) rfl
theorem dX11_hasWonMost_25 : decode cX11_hasWonMost 25 = .ok (.getfield 110, 3) := zrD zrw_cX11_hasWonMost_0 (i := 25) (by decide +kernel) rfl
theorem dX11_hasWonMost_28 : decode cX11_hasWonMost 28 = .ok (.bipush 24, 2) := zrD zrw_cX11_hasWonMost_0 (i := 28) (by decide +kernel) rfl
theorem dX11_hasWonMost_30 : decode cX11_hasWonMost 30 = .ok (.iload_n 1, 1) := zrD zrw_cX11_hasWonMost_0 (i := 30) (by decide +kernel) rfl
theorem dX11_hasWonMost_31 : decode cX11_hasWonMost 31 = .ok (.iadd, 1) := zrD zrw_cX11_hasWonMost_0 (i := 31) (by decide +kernel) rfl
def zrk_cX11_hasWonMost_32 : ByteArray := .mk #[46, 161, 0, 5, 3, 172, 132, 2, 1, 167, 255, 217, 4, 172]
theorem zrw_cX11_hasWonMost_32 : zrW 32 cX11_hasWonMost zrk_cX11_hasWonMost_32 := by unfold zrW; decide +kernel
theorem dX11_hasWonMost_32 : decode cX11_hasWonMost 32 = .ok (.iaload, 1) := zrD zrw_cX11_hasWonMost_32 (i := 0) (by decide +kernel) rfl
theorem dX11_hasWonMost_33 : decode cX11_hasWonMost 33 = .ok (.if_icmp .lt 5, 3) := zrD zrw_cX11_hasWonMost_32 (i := 1) (by decide +kernel) rfl
theorem dX11_hasWonMost_36 : decode cX11_hasWonMost 36 = .ok (.iconst 0, 1) := zrD zrw_cX11_hasWonMost_32 (i := 4) (by decide +kernel) rfl
theorem dX11_hasWonMost_37 : decode cX11_hasWonMost 37 = .ok (.ireturn, 1) := zrD zrw_cX11_hasWonMost_32 (i := 5) (by decide +kernel) rfl
theorem dX11_hasWonMost_38 : decode cX11_hasWonMost 38 = .ok (.iinc 2 1, 3) := zrD zrw_cX11_hasWonMost_32 (i := 6) (by decide +kernel) rfl
theorem dX11_hasWonMost_41 : decode cX11_hasWonMost 41 = .ok (.goto (-39), 3) := zrD zrw_cX11_hasWonMost_32 (i := 9) (by decide +kernel) rfl
theorem dX11_hasWonMost_44 : decode cX11_hasWonMost 44 = .ok (.iconst 1, 1) := zrD zrw_cX11_hasWonMost_32 (i := 12) (by decide +kernel) rfl
theorem dX11_hasWonMost_45 : decode cX11_hasWonMost 45 = .ok (.ireturn, 1) := zrD zrw_cX11_hasWonMost_32 (i := 13) (by decide +kernel) rfl
def zrk_cX11_year_0 : ByteArray := .mk #[28, 184, 1, 146, 153, 0, 22, 29, 4, 16, 20, 184, 1, 60, 153, 0, 12, 42, 27, 3, 182, 1, 133, 154, 0, 5, 2, 172, 3, 54, 4, 3]
theorem zrw_cX11_year_0 : zrW 0 cX11_year zrk_cX11_year_0 := by unfold zrW; decide +kernel
theorem dX11_year_0 : decode cX11_year 0 = .ok (.iload_n 2, 1) := zrD zrw_cX11_year_0 (i := 0) (by decide +kernel) rfl
theorem dX11_year_1 : decode cX11_year 1 = .ok (.invokestatic 402, 3) := zrD zrw_cX11_year_0 (i := 1) (by decide +kernel) rfl
theorem dX11_year_4 : decode cX11_year 4 = .ok (.ifCond .eq 22, 3) := zrD zrw_cX11_year_0 (i := 4) (by decide +kernel) rfl
theorem dX11_year_7 : decode cX11_year 7 = .ok (.iload_n 3, 1) := zrD zrw_cX11_year_0 (i := 7) (by decide +kernel) rfl
theorem dX11_year_8 : decode cX11_year 8 = .ok (.iconst 1, 1) := zrD zrw_cX11_year_0 (i := 8) (by decide +kernel) rfl
theorem dX11_year_9 : decode cX11_year 9 = .ok (.bipush 20, 2) := zrD zrw_cX11_year_0 (i := 9) (by decide +kernel) rfl
theorem dX11_year_11 : decode cX11_year 11 = .ok (.invokestatic 316, 3) := zrD zrw_cX11_year_0 (i := 11) (by decide +kernel) rfl
theorem dX11_year_14 : decode cX11_year 14 = .ok (.ifCond .eq 12, 3) := zrD zrw_cX11_year_0 (i := 14) (by decide +kernel) rfl
theorem dX11_year_17 : decode cX11_year 17 = .ok (.aload_n 0, 1) := zrD zrw_cX11_year_0 (i := 17) (by decide +kernel) rfl
theorem dX11_year_18 : decode cX11_year 18 = .ok (.iload_n 1, 1) := zrD zrw_cX11_year_0 (i := 18) (by decide +kernel) rfl
theorem dX11_year_19 : decode cX11_year 19 = .ok (.iconst 0, 1) := zrD zrw_cX11_year_0 (i := 19) (by decide +kernel) rfl
theorem dX11_year_20 : decode cX11_year 20 = .ok (.invokevirtual 389, 3) := zrD zrw_cX11_year_0 (i := 20) (by decide +kernel) rfl
theorem dX11_year_23 : decode cX11_year 23 = .ok (.ifCond .ne 5, 3) := zrD zrw_cX11_year_0 (i := 23) (by decide +kernel) rfl
theorem dX11_year_26 : decode cX11_year 26 = .ok (.iconst (-1), 1) := zrD zrw_cX11_year_0 (i := 26) (by decide +kernel) rfl
theorem dX11_year_27 : decode cX11_year 27 = .ok (.ireturn, 1) := zrD zrw_cX11_year_0 (i := 27) (by decide +kernel) rfl
theorem dX11_year_28 : decode cX11_year 28 = .ok (.iconst 0, 1) := zrD zrw_cX11_year_0 (i := 28) (by decide +kernel) rfl
theorem dX11_year_29 : decode cX11_year 29 = .ok (.istore 4, 2) := zrD zrw_cX11_year_0 (i := 29) (by decide +kernel) rfl
theorem dX11_year_31 : decode cX11_year 31 = .ok (.iconst 0, 1) := zrD zrw_cX11_year_0 (i := 31) (by decide +kernel) rfl
def zrk_cX11_year_32 : ByteArray := .mk #[54, 5, 21, 5, 29, 162, 0, 40, 42, 182, 1, 76, 42, 89, 180, 1, 64, 21, 5, 96, 181, 1, 64, 42, 28, 182, 1, 149, 42, 27]
theorem zrw_cX11_year_32 : zrW 32 cX11_year zrk_cX11_year_32 := by unfold zrW; decide +kernel
theorem dX11_year_32 : decode cX11_year 32 = .ok (.istore 5, 2) := zrD zrw_cX11_year_32 (i := 0) (by decide +kernel) rfl
theorem dX11_year_34 : decode cX11_year 34 = .ok (.iload 5, 2) := zrD zrw_cX11_year_32 (i := 2) (by decide +kernel) rfl
theorem dX11_year_36 : decode cX11_year 36 = .ok (.iload_n 3, 1) := zrD zrw_cX11_year_32 (i := 4) (by decide +kernel) rfl
theorem dX11_year_37 : decode cX11_year 37 = .ok (.if_icmp .ge 40, 3) := zrD zrw_cX11_year_32 (i := 5) (by decide +kernel) rfl
theorem dX11_year_40 : decode cX11_year 40 = .ok (.aload_n 0, 1) := zrD zrw_cX11_year_32 (i := 8) (by decide +kernel) rfl
theorem dX11_year_41 : decode cX11_year 41 = .ok (.invokevirtual 332, 3) := zrD zrw_cX11_year_32 (i := 9) (by decide +kernel) rfl
theorem dX11_year_44 : decode cX11_year 44 = .ok (.aload_n 0, 1) := zrD zrw_cX11_year_32 (i := 12) (by decide +kernel) rfl
theorem dX11_year_45 : decode cX11_year 45 = .ok (.dup, 1) := zrD zrw_cX11_year_32 (i := 13) (by decide +kernel) rfl
theorem dX11_year_46 : decode cX11_year 46 = .ok (.getfield 320, 3) := zrD zrw_cX11_year_32 (i := 14) (by decide +kernel) rfl
theorem dX11_year_49 : decode cX11_year 49 = .ok (.iload 5, 2) := zrD zrw_cX11_year_32 (i := 17) (by decide +kernel) rfl
theorem dX11_year_51 : decode cX11_year 51 = .ok (.iadd, 1) := zrD zrw_cX11_year_32 (i := 19) (by decide +kernel) rfl
theorem dX11_year_52 : decode cX11_year 52 = .ok (.putfield 320, 3) := zrD zrw_cX11_year_32 (i := 20) (by decide +kernel) rfl
theorem dX11_year_55 : decode cX11_year 55 = .ok (.aload_n 0, 1) := zrD zrw_cX11_year_32 (i := 23) (by decide +kernel) rfl
theorem dX11_year_56 : decode cX11_year 56 = .ok (.iload_n 2, 1) := zrD zrw_cX11_year_32 (i := 24) (by decide +kernel) rfl
theorem dX11_year_57 : decode cX11_year 57 = .ok (.invokevirtual 405, 3) := zrD zrw_cX11_year_32 (i := 25) (by decide +kernel) rfl
theorem dX11_year_60 : decode cX11_year 60 = .ok (.aload_n 0, 1) := zrD zrw_cX11_year_32 (i := 28) (by decide +kernel) rfl
theorem dX11_year_61 : decode cX11_year 61 = .ok (.iload_n 1, 1) := zrD zrw_cX11_year_32 (i := 29) (by decide +kernel) rfl
def zrk_cX11_year_62 : ByteArray := .mk #[182, 1, 189, 153, 0, 6, 132, 4, 1, 132, 5, 1, 167, 255, 216, 21, 4, 172]
theorem zrw_cX11_year_62 : zrW 62 cX11_year zrk_cX11_year_62 := by unfold zrW; decide +kernel
theorem dX11_year_62 : decode cX11_year 62 = .ok (.invokevirtual 445, 3) := zrD zrw_cX11_year_62 (i := 0) (by decide +kernel) rfl
theorem dX11_year_65 : decode cX11_year 65 = .ok (.ifCond .eq 6, 3) := zrD zrw_cX11_year_62 (i := 3) (by decide +kernel) rfl
theorem dX11_year_68 : decode cX11_year 68 = .ok (.iinc 4 1, 3) := zrD zrw_cX11_year_62 (i := 6) (by decide +kernel) rfl
theorem dX11_year_71 : decode cX11_year 71 = .ok (.iinc 5 1, 3) := zrD zrw_cX11_year_62 (i := 9) (by decide +kernel) rfl
theorem dX11_year_74 : decode cX11_year 74 = .ok (.goto (-40), 3) := zrD zrw_cX11_year_62 (i := 12) (by decide +kernel) rfl
theorem dX11_year_77 : decode cX11_year 77 = .ok (.iload 4, 2) := zrD zrw_cX11_year_62 (i := 15) (by decide +kernel) rfl
theorem dX11_year_79 : decode cX11_year 79 = .ok (.ireturn, 1) := zrD zrw_cX11_year_62 (i := 17) (by decide +kernel) rfl
def zrk_cX11_tell_0 : ByteArray := .mk #[42, 180, 1, 5, 16, 20, 159, 0, 33, 42, 27, 182, 1, 127, 153, 0, 25, 28, 3, 17, 39, 15, 184, 1, 60, 153, 0, 14, 29, 28]
theorem zrw_cX11_tell_0 : zrW 0 cX11_tell zrk_cX11_tell_0 := by unfold zrW; decide +kernel
theorem dX11_tell_0 : decode cX11_tell 0 = .ok (.aload_n 0, 1) := zrD zrw_cX11_tell_0 (i := 0) (by decide +kernel) rfl
theorem dX11_tell_1 : decode cX11_tell 1 = .ok (.getfield 261, 3) := zrD zrw_cX11_tell_0 (i := 1) (by decide +kernel) rfl
theorem dX11_tell_4 : decode cX11_tell 4 = .ok (.bipush 20, 2) := zrD zrw_cX11_tell_0 (i := 4) (by decide +kernel) rfl
theorem dX11_tell_6 : decode cX11_tell 6 = .ok (.if_icmp .eq 33, 3) := zrD zrw_cX11_tell_0 (i := 6) (by decide +kernel) rfl
theorem dX11_tell_9 : decode cX11_tell 9 = .ok (.aload_n 0, 1) := zrD zrw_cX11_tell_0 (i := 9) (by decide +kernel) rfl
theorem dX11_tell_10 : decode cX11_tell 10 = .ok (.iload_n 1, 1) := zrD zrw_cX11_tell_0 (i := 10) (by decide +kernel) rfl
theorem dX11_tell_11 : decode cX11_tell 11 = .ok (.invokevirtual 383, 3) := zrD zrw_cX11_tell_0 (i := 11) (by decide +kernel) rfl
theorem dX11_tell_14 : decode cX11_tell 14 = .ok (.ifCond .eq 25, 3) := zrD zrw_cX11_tell_0 (i := 14) (by decide +kernel) rfl
theorem dX11_tell_17 : decode cX11_tell 17 = .ok (.iload_n 2, 1) := zrD zrw_cX11_tell_0 (i := 17) (by decide +kernel) rfl
theorem dX11_tell_18 : decode cX11_tell 18 = .ok (.iconst 0, 1) := zrD zrw_cX11_tell_0 (i := 18) (by decide +kernel) rfl
theorem dX11_tell_19 : decode cX11_tell 19 = .ok (.sipush 9999, 3) := zrD zrw_cX11_tell_0 (i := 19) (by decide +kernel) rfl
theorem dX11_tell_22 : decode cX11_tell 22 = .ok (.invokestatic 316, 3) := zrD zrw_cX11_tell_0 (i := 22) (by decide +kernel) rfl
theorem dX11_tell_25 : decode cX11_tell 25 = .ok (.ifCond .eq 14, 3) := zrD zrw_cX11_tell_0 (i := 25) (by decide +kernel) rfl
theorem dX11_tell_28 : decode cX11_tell 28 = .ok (.iload_n 3, 1) := zrD zrw_cX11_tell_0 (i := 28) (by decide +kernel) rfl
theorem dX11_tell_29 : decode cX11_tell 29 = .ok (.iload_n 2, 1) := zrD zrw_cX11_tell_0 (i := 29) (by decide +kernel) rfl
def zrk_cX11_tell_30 : ByteArray := .mk #[17, 39, 15, 184, 1, 60, 154, 0, 5, 2, 172, 42, 180, 0, 137, 42, 180, 1, 5, 27, 79, 42, 180, 0, 140, 42, 180, 1, 5, 28, 79, 42]
theorem zrw_cX11_tell_30 : zrW 30 cX11_tell zrk_cX11_tell_30 := by unfold zrW; decide +kernel
theorem dX11_tell_30 : decode cX11_tell 30 = .ok (.sipush 9999, 3) := zrD zrw_cX11_tell_30 (i := 0) (by decide +kernel) rfl
theorem dX11_tell_33 : decode cX11_tell 33 = .ok (.invokestatic 316, 3) := zrD zrw_cX11_tell_30 (i := 3) (by decide +kernel) rfl
theorem dX11_tell_36 : decode cX11_tell 36 = .ok (.ifCond .ne 5, 3) := zrD zrw_cX11_tell_30 (i := 6) (by decide +kernel) rfl
theorem dX11_tell_39 : decode cX11_tell 39 = .ok (.iconst (-1), 1) := zrD zrw_cX11_tell_30 (i := 9) (by decide +kernel) rfl
theorem dX11_tell_40 : decode cX11_tell 40 = .ok (.ireturn, 1) := zrD zrw_cX11_tell_30 (i := 10) (by decide +kernel) rfl
theorem dX11_tell_41 : decode cX11_tell 41 = .ok (.aload_n 0, 1) := zrD zrw_cX11_tell_30 (i := 11) (by decide +kernel) rfl
theorem dX11_tell_42 : decode cX11_tell 42 = .ok (.getfield 137, 3) := zrD zrw_cX11_tell_30 (i := 12) (by decide +kernel) rfl
theorem dX11_tell_45 : decode cX11_tell 45 = .ok (.aload_n 0, 1) := zrD zrw_cX11_tell_30 (i := 15) (by decide +kernel) rfl
theorem dX11_tell_46 : decode cX11_tell 46 = .ok (.getfield 261, 3) := zrD zrw_cX11_tell_30 (i := 16) (by decide +kernel) rfl
theorem dX11_tell_49 : decode cX11_tell 49 = .ok (.iload_n 1, 1) := zrD zrw_cX11_tell_30 (i := 19) (by decide +kernel) rfl
theorem dX11_tell_50 : decode cX11_tell 50 = .ok (.iastore, 1) := zrD zrw_cX11_tell_30 (i := 20) (by decide +kernel) rfl
theorem dX11_tell_51 : decode cX11_tell 51 = .ok (.aload_n 0, 1) := zrD zrw_cX11_tell_30 (i := 21) (by decide +kernel) rfl
theorem dX11_tell_52 : decode cX11_tell 52 = .ok (.getfield 140, 3) := zrD zrw_cX11_tell_30 (i := 22) (by decide +kernel) rfl
theorem dX11_tell_55 : decode cX11_tell 55 = .ok (.aload_n 0, 1) := zrD zrw_cX11_tell_30 (i := 25) (by decide +kernel) rfl
theorem dX11_tell_56 : decode cX11_tell 56 = .ok (.getfield 261, 3) := zrD zrw_cX11_tell_30 (i := 26) (by decide +kernel) rfl
theorem dX11_tell_59 : decode cX11_tell 59 = .ok (.iload_n 2, 1) := zrD zrw_cX11_tell_30 (i := 29) (by decide +kernel) rfl
theorem dX11_tell_60 : decode cX11_tell 60 = .ok (.iastore, 1) := zrD zrw_cX11_tell_30 (i := 30) (by decide +kernel) rfl
theorem dX11_tell_61 : decode cX11_tell 61 = .ok (.aload_n 0, 1) := zrD zrw_cX11_tell_30 (i := 31) (by decide +kernel) rfl
def zrk_cX11_tell_62 : ByteArray := .mk #[180, 0, 143, 42, 180, 1, 5, 29, 79, 42, 180, 0, 146, 42, 180, 1, 5, 21, 4, 84, 42, 89, 180, 1, 5, 4, 96, 181, 1, 5, 42]
theorem zrw_cX11_tell_62 : zrW 62 cX11_tell zrk_cX11_tell_62 := by unfold zrW; decide +kernel
theorem dX11_tell_62 : decode cX11_tell 62 = .ok (.getfield 143, 3) := zrD zrw_cX11_tell_62 (i := 0) (by decide +kernel) rfl
theorem dX11_tell_65 : decode cX11_tell 65 = .ok (.aload_n 0, 1) := zrD zrw_cX11_tell_62 (i := 3) (by decide +kernel) rfl
theorem dX11_tell_66 : decode cX11_tell 66 = .ok (.getfield 261, 3) := zrD zrw_cX11_tell_62 (i := 4) (by decide +kernel) rfl
theorem dX11_tell_69 : decode cX11_tell 69 = .ok (.iload_n 3, 1) := zrD zrw_cX11_tell_62 (i := 7) (by decide +kernel) rfl
theorem dX11_tell_70 : decode cX11_tell 70 = .ok (.iastore, 1) := zrD zrw_cX11_tell_62 (i := 8) (by decide +kernel) rfl
theorem dX11_tell_71 : decode cX11_tell 71 = .ok (.aload_n 0, 1) := zrD zrw_cX11_tell_62 (i := 9) (by decide +kernel) rfl
theorem dX11_tell_72 : decode cX11_tell 72 = .ok (.getfield 146, 3) := zrD zrw_cX11_tell_62 (i := 10) (by decide +kernel) rfl
theorem dX11_tell_75 : decode cX11_tell 75 = .ok (.aload_n 0, 1) := zrD zrw_cX11_tell_62 (i := 13) (by decide +kernel) rfl
theorem dX11_tell_76 : decode cX11_tell 76 = .ok (.getfield 261, 3) := zrD zrw_cX11_tell_62 (i := 14) (by decide +kernel) rfl
theorem dX11_tell_79 : decode cX11_tell 79 = .ok (.iload 4, 2) := zrD zrw_cX11_tell_62 (i := 17) (by decide +kernel) rfl
theorem dX11_tell_81 : decode cX11_tell 81 = .ok (.bastore, 1) := zrD zrw_cX11_tell_62 (i := 19) (by decide +kernel) rfl
theorem dX11_tell_82 : decode cX11_tell 82 = .ok (.aload_n 0, 1) := zrD zrw_cX11_tell_62 (i := 20) (by decide +kernel) rfl
theorem dX11_tell_83 : decode cX11_tell 83 = .ok (.dup, 1) := zrD zrw_cX11_tell_62 (i := 21) (by decide +kernel) rfl
theorem dX11_tell_84 : decode cX11_tell 84 = .ok (.getfield 261, 3) := zrD zrw_cX11_tell_62 (i := 22) (by decide +kernel) rfl
theorem dX11_tell_87 : decode cX11_tell 87 = .ok (.iconst 1, 1) := zrD zrw_cX11_tell_62 (i := 25) (by decide +kernel) rfl
theorem dX11_tell_88 : decode cX11_tell 88 = .ok (.iadd, 1) := zrD zrw_cX11_tell_62 (i := 26) (by decide +kernel) rfl
theorem dX11_tell_89 : decode cX11_tell 89 = .ok (.putfield 261, 3) := zrD zrw_cX11_tell_62 (i := 27) (by decide +kernel) rfl
theorem dX11_tell_92 : decode cX11_tell 92 = .ok (.aload_n 0, 1) := zrD zrw_cX11_tell_62 (i := 30) (by decide +kernel) rfl
def zrk_cX11_tell_93 : ByteArray := .mk #[180, 1, 5, 4, 100, 172]
theorem zrw_cX11_tell_93 : zrW 93 cX11_tell zrk_cX11_tell_93 := by unfold zrW; decide +kernel
theorem dX11_tell_93 : decode cX11_tell 93 = .ok (.getfield 261, 3) := zrD zrw_cX11_tell_93 (i := 0) (by decide +kernel) rfl
theorem dX11_tell_96 : decode cX11_tell 96 = .ok (.iconst 1, 1) := zrD zrw_cX11_tell_93 (i := 3) (by decide +kernel) rfl
theorem dX11_tell_97 : decode cX11_tell 97 = .ok (.isub, 1) := zrD zrw_cX11_tell_93 (i := 4) (by decide +kernel) rfl
theorem dX11_tell_98 : decode cX11_tell 98 = .ok (.ireturn, 1) := zrD zrw_cX11_tell_93 (i := 5) (by decide +kernel) rfl
def zrk_cX11_forget_0 : ByteArray := .mk #[42, 180, 1, 5, 60, 42, 3, 181, 1, 5, 27, 172]
theorem zrw_cX11_forget_0 : zrW 0 cX11_forget zrk_cX11_forget_0 := by unfold zrW; decide +kernel
theorem dX11_forget_0 : decode cX11_forget 0 = .ok (.aload_n 0, 1) := zrD zrw_cX11_forget_0 (i := 0) (by decide +kernel) rfl
theorem dX11_forget_1 : decode cX11_forget 1 = .ok (.getfield 261, 3) := zrD zrw_cX11_forget_0 (i := 1) (by decide +kernel) rfl
theorem dX11_forget_4 : decode cX11_forget 4 = .ok (.istore_n 1, 1) := zrD zrw_cX11_forget_0 (i := 4) (by decide +kernel) rfl
theorem dX11_forget_5 : decode cX11_forget 5 = .ok (.aload_n 0, 1) := zrD zrw_cX11_forget_0 (i := 5) (by decide +kernel) rfl
theorem dX11_forget_6 : decode cX11_forget 6 = .ok (.iconst 0, 1) := zrD zrw_cX11_forget_0 (i := 6) (by decide +kernel) rfl
theorem dX11_forget_7 : decode cX11_forget 7 = .ok (.putfield 261, 3) := zrD zrw_cX11_forget_0 (i := 7) (by decide +kernel) rfl
theorem dX11_forget_10 : decode cX11_forget 10 = .ok (.iload_n 1, 1) := zrD zrw_cX11_forget_0 (i := 10) (by decide +kernel) rfl
theorem dX11_forget_11 : decode cX11_forget 11 = .ok (.ireturn, 1) := zrD zrw_cX11_forget_0 (i := 11) (by decide +kernel) rfl
def zrk_cX11_comesBy_0 : ByteArray := .mk #[42, 180, 0, 137, 28, 46, 62, 42, 180, 0, 119, 29, 46, 27, 122, 4, 126, 4, 160, 0, 38, 42, 180, 0, 113, 27, 46, 42, 180, 0, 113, 29]
theorem zrw_cX11_comesBy_0 : zrW 0 cX11_comesBy zrk_cX11_comesBy_0 := by unfold zrW; decide +kernel
theorem dX11_comesBy_0 : decode cX11_comesBy 0 = .ok (.aload_n 0, 1) := zrD zrw_cX11_comesBy_0 (i := 0) (by decide +kernel) rfl
theorem dX11_comesBy_1 : decode cX11_comesBy 1 = .ok (.getfield 137, 3) := zrD zrw_cX11_comesBy_0 (i := 1) (by decide +kernel) rfl
theorem dX11_comesBy_4 : decode cX11_comesBy 4 = .ok (.iload_n 2, 1) := zrD zrw_cX11_comesBy_0 (i := 4) (by decide +kernel) rfl
theorem dX11_comesBy_5 : decode cX11_comesBy 5 = .ok (.iaload, 1) := zrD zrw_cX11_comesBy_0 (i := 5) (by decide +kernel) rfl
theorem dX11_comesBy_6 : decode cX11_comesBy 6 = .ok (.istore_n 3, 1) := zrD zrw_cX11_comesBy_0 (i := 6) (by decide +kernel) rfl
theorem dX11_comesBy_7 : decode cX11_comesBy 7 = .ok (.aload_n 0, 1) := zrD zrw_cX11_comesBy_0 (i := 7) (by decide +kernel) rfl
theorem dX11_comesBy_8 : decode cX11_comesBy 8 = .ok (.getfield 119, 3) := zrD zrw_cX11_comesBy_0 (i := 8) (by decide +kernel) rfl
theorem dX11_comesBy_11 : decode cX11_comesBy 11 = .ok (.iload_n 3, 1) := zrD zrw_cX11_comesBy_0 (i := 11) (by decide +kernel) rfl
theorem dX11_comesBy_12 : decode cX11_comesBy 12 = .ok (.iaload, 1) := zrD zrw_cX11_comesBy_0 (i := 12) (by decide +kernel) rfl
theorem dX11_comesBy_13 : decode cX11_comesBy 13 = .ok (.iload_n 1, 1) := zrD zrw_cX11_comesBy_0 (i := 13) (by decide +kernel) rfl
theorem dX11_comesBy_14 : decode cX11_comesBy 14 = .ok (.ishr, 1) := zrD zrw_cX11_comesBy_0 (i := 14) (by decide +kernel) rfl
theorem dX11_comesBy_15 : decode cX11_comesBy 15 = .ok (.iconst 1, 1) := zrD zrw_cX11_comesBy_0 (i := 15) (by decide +kernel) rfl
theorem dX11_comesBy_16 : decode cX11_comesBy 16 = .ok (.iand, 1) := zrD zrw_cX11_comesBy_0 (i := 16) (by decide +kernel) rfl
theorem dX11_comesBy_17 : decode cX11_comesBy 17 = .ok (.iconst 1, 1) := zrD zrw_cX11_comesBy_0 (i := 17) (by decide +kernel) rfl
theorem dX11_comesBy_18 : decode cX11_comesBy 18 = .ok (.if_icmp .ne 38, 3) := zrD zrw_cX11_comesBy_0 (i := 18) (by decide +kernel) rfl
theorem dX11_comesBy_21 : decode cX11_comesBy 21 = .ok (.aload_n 0, 1) := zrD zrw_cX11_comesBy_0 (i := 21) (by decide +kernel) rfl
theorem dX11_comesBy_22 : decode cX11_comesBy 22 = .ok (.getfield 113, 3) := zrD zrw_cX11_comesBy_0 (i := 22) (by decide +kernel) rfl
theorem dX11_comesBy_25 : decode cX11_comesBy 25 = .ok (.iload_n 1, 1) := zrD zrw_cX11_comesBy_0 (i := 25) (by decide +kernel) rfl
theorem dX11_comesBy_26 : decode cX11_comesBy 26 = .ok (.iaload, 1) := zrD zrw_cX11_comesBy_0 (i := 26) (by decide +kernel) rfl
theorem dX11_comesBy_27 : decode cX11_comesBy 27 = .ok (.aload_n 0, 1) := zrD zrw_cX11_comesBy_0 (i := 27) (by decide +kernel) rfl
theorem dX11_comesBy_28 : decode cX11_comesBy 28 = .ok (.getfield 113, 3) := zrD zrw_cX11_comesBy_0 (i := 28) (by decide +kernel) rfl
theorem dX11_comesBy_31 : decode cX11_comesBy 31 = .ok (.iload_n 3, 1) := zrD zrw_cX11_comesBy_0 (i := 31) (by decide +kernel) rfl
def zrk_cX11_comesBy_32 : ByteArray := .mk #[46, 100, 42, 180, 0, 140, 28, 46, 42, 180, 0, 143, 28, 46, 184, 1, 60, 153, 0, 7, 4, 167, 0, 4, 3, 172]
theorem zrw_cX11_comesBy_32 : zrW 32 cX11_comesBy zrk_cX11_comesBy_32 := by unfold zrW; decide +kernel
theorem dX11_comesBy_32 : decode cX11_comesBy 32 = .ok (.iaload, 1) := zrD zrw_cX11_comesBy_32 (i := 0) (by decide +kernel) rfl
theorem dX11_comesBy_33 : decode cX11_comesBy 33 = .ok (.isub, 1) := zrD zrw_cX11_comesBy_32 (i := 1) (by decide +kernel) rfl
theorem dX11_comesBy_34 : decode cX11_comesBy 34 = .ok (.aload_n 0, 1) := zrD zrw_cX11_comesBy_32 (i := 2) (by decide +kernel) rfl
theorem dX11_comesBy_35 : decode cX11_comesBy 35 = .ok (.getfield 140, 3) := zrD zrw_cX11_comesBy_32 (i := 3) (by decide +kernel) rfl
theorem dX11_comesBy_38 : decode cX11_comesBy 38 = .ok (.iload_n 2, 1) := zrD zrw_cX11_comesBy_32 (i := 6) (by decide +kernel) rfl
theorem dX11_comesBy_39 : decode cX11_comesBy 39 = .ok (.iaload, 1) := zrD zrw_cX11_comesBy_32 (i := 7) (by decide +kernel) rfl
theorem dX11_comesBy_40 : decode cX11_comesBy 40 = .ok (.aload_n 0, 1) := zrD zrw_cX11_comesBy_32 (i := 8) (by decide +kernel) rfl
theorem dX11_comesBy_41 : decode cX11_comesBy 41 = .ok (.getfield 143, 3) := zrD zrw_cX11_comesBy_32 (i := 9) (by decide +kernel) rfl
theorem dX11_comesBy_44 : decode cX11_comesBy 44 = .ok (.iload_n 2, 1) := zrD zrw_cX11_comesBy_32 (i := 12) (by decide +kernel) rfl
theorem dX11_comesBy_45 : decode cX11_comesBy 45 = .ok (.iaload, 1) := zrD zrw_cX11_comesBy_32 (i := 13) (by decide +kernel) rfl
theorem dX11_comesBy_46 : decode cX11_comesBy 46 = .ok (.invokestatic 316, 3) := zrD zrw_cX11_comesBy_32 (i := 14) (by decide +kernel) rfl
theorem dX11_comesBy_49 : decode cX11_comesBy 49 = .ok (.ifCond .eq 7, 3) := zrD zrw_cX11_comesBy_32 (i := 17) (by decide +kernel) rfl
theorem dX11_comesBy_52 : decode cX11_comesBy 52 = .ok (.iconst 1, 1) := zrD zrw_cX11_comesBy_32 (i := 20) (by decide +kernel) rfl
theorem dX11_comesBy_53 : decode cX11_comesBy 53 = .ok (.goto 4, 3) := zrD zrw_cX11_comesBy_32 (i := 21) (by decide +kernel) rfl
theorem dX11_comesBy_56 : decode cX11_comesBy 56 = .ok (.iconst 0, 1) := zrD zrw_cX11_comesBy_32 (i := 24) (by decide +kernel) rfl
theorem dX11_comesBy_57 : decode cX11_comesBy 57 = .ok (.ireturn, 1) := zrD zrw_cX11_comesBy_32 (i := 25) (by decide +kernel) rfl
def zrk_cX11_dyedBits_0 : ByteArray := .mk #[42, 182, 1, 76, 3, 61, 4, 62, 29, 42, 182, 1, 57, 162, 0, 71, 42, 29, 182, 1, 86, 54, 4, 3, 54, 5, 21, 5, 27, 162, 0, 38]
theorem zrw_cX11_dyedBits_0 : zrW 0 cX11_dyedBits zrk_cX11_dyedBits_0 := by unfold zrW; decide +kernel
theorem dX11_dyedBits_0 : decode cX11_dyedBits 0 = .ok (.aload_n 0, 1) := zrD zrw_cX11_dyedBits_0 (i := 0) (by decide +kernel) rfl
theorem dX11_dyedBits_1 : decode cX11_dyedBits 1 = .ok (.invokevirtual 332, 3) := zrD zrw_cX11_dyedBits_0 (i := 1) (by decide +kernel) rfl
theorem dX11_dyedBits_4 : decode cX11_dyedBits 4 = .ok (.iconst 0, 1) := zrD zrw_cX11_dyedBits_0 (i := 4) (by decide +kernel) rfl
theorem dX11_dyedBits_5 : decode cX11_dyedBits 5 = .ok (.istore_n 2, 1) := zrD zrw_cX11_dyedBits_0 (i := 5) (by decide +kernel) rfl
theorem dX11_dyedBits_6 : decode cX11_dyedBits 6 = .ok (.iconst 1, 1) := zrD zrw_cX11_dyedBits_0 (i := 6) (by decide +kernel) rfl
theorem dX11_dyedBits_7 : decode cX11_dyedBits 7 = .ok (.istore_n 3, 1) := zrD zrw_cX11_dyedBits_0 (i := 7) (by decide +kernel) rfl
theorem dX11_dyedBits_8 : decode cX11_dyedBits 8 = .ok (.iload_n 3, 1) := zrD zrw_cX11_dyedBits_0 (i := 8) (by decide +kernel) rfl
theorem dX11_dyedBits_9 : decode cX11_dyedBits 9 = .ok (.aload_n 0, 1) := zrD zrw_cX11_dyedBits_0 (i := 9) (by decide +kernel) rfl
theorem dX11_dyedBits_10 : decode cX11_dyedBits 10 = .ok (.invokevirtual 313, 3) := zrD zrw_cX11_dyedBits_0 (i := 10) (by decide +kernel) rfl
theorem dX11_dyedBits_13 : decode cX11_dyedBits 13 = .ok (.if_icmp .ge 71, 3) := zrD zrw_cX11_dyedBits_0 (i := 13) (by decide +kernel) rfl
theorem dX11_dyedBits_16 : decode cX11_dyedBits 16 = .ok (.aload_n 0, 1) := zrD zrw_cX11_dyedBits_0 (i := 16) (by decide +kernel) rfl
theorem dX11_dyedBits_17 : decode cX11_dyedBits 17 = .ok (.iload_n 3, 1) := zrD zrw_cX11_dyedBits_0 (i := 17) (by decide +kernel) rfl
theorem dX11_dyedBits_18 : decode cX11_dyedBits 18 = .ok (.invokevirtual 342, 3) := zrD zrw_cX11_dyedBits_0 (i := 18) (by decide +kernel) rfl
theorem dX11_dyedBits_21 : decode cX11_dyedBits 21 = .ok (.istore 4, 2) := zrD zrw_cX11_dyedBits_0 (i := 21) (by decide +kernel) rfl
theorem dX11_dyedBits_23 : decode cX11_dyedBits 23 = .ok (.iconst 0, 1) := zrD zrw_cX11_dyedBits_0 (i := 23) (by decide +kernel) rfl
theorem dX11_dyedBits_24 : decode cX11_dyedBits 24 = .ok (.istore 5, 2) := zrD zrw_cX11_dyedBits_0 (i := 24) (by decide +kernel) rfl
theorem dX11_dyedBits_26 : decode cX11_dyedBits 26 = .ok (.iload 5, 2) := zrD zrw_cX11_dyedBits_0 (i := 26) (by decide +kernel) rfl
theorem dX11_dyedBits_28 : decode cX11_dyedBits 28 = .ok (.iload_n 1, 1) := zrD zrw_cX11_dyedBits_0 (i := 28) (by decide +kernel) rfl
theorem dX11_dyedBits_29 : decode cX11_dyedBits 29 = .ok (.if_icmp .ge 38, 3) := zrD zrw_cX11_dyedBits_0 (i := 29) (by decide +kernel) rfl
def zrk_cX11_dyedBits_32 : ByteArray := .mk #[21, 4, 153, 0, 33, 42, 29, 21, 5, 182, 1, 192, 42, 180, 0, 146, 21, 5, 51, 160, 0, 7, 4, 167, 0, 4, 3, 54, 4, 132, 5, 1]
theorem zrw_cX11_dyedBits_32 : zrW 32 cX11_dyedBits zrk_cX11_dyedBits_32 := by unfold zrW; decide +kernel
theorem dX11_dyedBits_32 : decode cX11_dyedBits 32 = .ok (.iload 4, 2) := zrD zrw_cX11_dyedBits_32 (i := 0) (by decide +kernel) rfl
theorem dX11_dyedBits_34 : decode cX11_dyedBits 34 = .ok (.ifCond .eq 33, 3) := zrD zrw_cX11_dyedBits_32 (i := 2) (by decide +kernel) rfl
theorem dX11_dyedBits_37 : decode cX11_dyedBits 37 = .ok (.aload_n 0, 1) := zrD zrw_cX11_dyedBits_32 (i := 5) (by decide +kernel) rfl
theorem dX11_dyedBits_38 : decode cX11_dyedBits 38 = .ok (.iload_n 3, 1) := zrD zrw_cX11_dyedBits_32 (i := 6) (by decide +kernel) rfl
theorem dX11_dyedBits_39 : decode cX11_dyedBits 39 = .ok (.iload 5, 2) := zrD zrw_cX11_dyedBits_32 (i := 7) (by decide +kernel) rfl
theorem dX11_dyedBits_41 : decode cX11_dyedBits 41 = .ok (.invokevirtual 448, 3) := zrD zrw_cX11_dyedBits_32 (i := 9) (by decide +kernel) rfl
theorem dX11_dyedBits_44 : decode cX11_dyedBits 44 = .ok (.aload_n 0, 1) := zrD zrw_cX11_dyedBits_32 (i := 12) (by decide +kernel) rfl
theorem dX11_dyedBits_45 : decode cX11_dyedBits 45 = .ok (.getfield 146, 3) := zrD zrw_cX11_dyedBits_32 (i := 13) (by decide +kernel) rfl
theorem dX11_dyedBits_48 : decode cX11_dyedBits 48 = .ok (.iload 5, 2) := zrD zrw_cX11_dyedBits_32 (i := 16) (by decide +kernel) rfl
theorem dX11_dyedBits_50 : decode cX11_dyedBits 50 = .ok (.baload, 1) := zrD zrw_cX11_dyedBits_32 (i := 18) (by decide +kernel) rfl
theorem dX11_dyedBits_51 : decode cX11_dyedBits 51 = .ok (.if_icmp .ne 7, 3) := zrD zrw_cX11_dyedBits_32 (i := 19) (by decide +kernel) rfl
theorem dX11_dyedBits_54 : decode cX11_dyedBits 54 = .ok (.iconst 1, 1) := zrD zrw_cX11_dyedBits_32 (i := 22) (by decide +kernel) rfl
theorem dX11_dyedBits_55 : decode cX11_dyedBits 55 = .ok (.goto 4, 3) := zrD zrw_cX11_dyedBits_32 (i := 23) (by decide +kernel) rfl
theorem dX11_dyedBits_58 : decode cX11_dyedBits 58 = .ok (.iconst 0, 1) := zrD zrw_cX11_dyedBits_32 (i := 26) (by decide +kernel) rfl
theorem dX11_dyedBits_59 : decode cX11_dyedBits 59 = .ok (.istore 4, 2) := zrD zrw_cX11_dyedBits_32 (i := 27) (by decide +kernel) rfl
theorem dX11_dyedBits_61 : decode cX11_dyedBits 61 = .ok (.iinc 5 1, 3) := zrD zrw_cX11_dyedBits_32 (i := 29) (by decide +kernel) rfl
def zrk_cX11_dyedBits_64 : ByteArray := .mk #[167, 255, 218, 21, 4, 153, 0, 9, 28, 4, 29, 120, 128, 61, 132, 3, 1, 167, 255, 183, 28, 172]
theorem zrw_cX11_dyedBits_64 : zrW 64 cX11_dyedBits zrk_cX11_dyedBits_64 := by unfold zrW; decide +kernel
theorem dX11_dyedBits_64 : decode cX11_dyedBits 64 = .ok (.goto (-38), 3) := zrD zrw_cX11_dyedBits_64 (i := 0) (by decide +kernel) rfl
theorem dX11_dyedBits_67 : decode cX11_dyedBits 67 = .ok (.iload 4, 2) := zrD zrw_cX11_dyedBits_64 (i := 3) (by decide +kernel) rfl
theorem dX11_dyedBits_69 : decode cX11_dyedBits 69 = .ok (.ifCond .eq 9, 3) := zrD zrw_cX11_dyedBits_64 (i := 5) (by decide +kernel) rfl
theorem dX11_dyedBits_72 : decode cX11_dyedBits 72 = .ok (.iload_n 2, 1) := zrD zrw_cX11_dyedBits_64 (i := 8) (by decide +kernel) rfl
theorem dX11_dyedBits_73 : decode cX11_dyedBits 73 = .ok (.iconst 1, 1) := zrD zrw_cX11_dyedBits_64 (i := 9) (by decide +kernel) rfl
theorem dX11_dyedBits_74 : decode cX11_dyedBits 74 = .ok (.iload_n 3, 1) := zrD zrw_cX11_dyedBits_64 (i := 10) (by decide +kernel) rfl
theorem dX11_dyedBits_75 : decode cX11_dyedBits 75 = .ok (.ishl, 1) := zrD zrw_cX11_dyedBits_64 (i := 11) (by decide +kernel) rfl
theorem dX11_dyedBits_76 : decode cX11_dyedBits 76 = .ok (.ior, 1) := zrD zrw_cX11_dyedBits_64 (i := 12) (by decide +kernel) rfl
theorem dX11_dyedBits_77 : decode cX11_dyedBits 77 = .ok (.istore_n 2, 1) := zrD zrw_cX11_dyedBits_64 (i := 13) (by decide +kernel) rfl
theorem dX11_dyedBits_78 : decode cX11_dyedBits 78 = .ok (.iinc 3 1, 3) := zrD zrw_cX11_dyedBits_64 (i := 14) (by decide +kernel) rfl
theorem dX11_dyedBits_81 : decode cX11_dyedBits 81 = .ok (.goto (-73), 3) := zrD zrw_cX11_dyedBits_64 (i := 17) (by decide +kernel) rfl
theorem dX11_dyedBits_84 : decode cX11_dyedBits 84 = .ok (.iload_n 2, 1) := zrD zrw_cX11_dyedBits_64 (i := 20) (by decide +kernel) rfl
theorem dX11_dyedBits_85 : decode cX11_dyedBits 85 = .ok (.ireturn, 1) := zrD zrw_cX11_dyedBits_64 (i := 21) (by decide +kernel) rfl
def zrk_cX11_dyed_0 : ByteArray := .mk #[27, 3, 42, 180, 1, 5, 184, 1, 60, 153, 0, 12, 28, 3, 4, 184, 1, 60, 154, 0, 5, 2, 172, 42, 27, 182, 1, 195, 62, 28]
theorem zrw_cX11_dyed_0 : zrW 0 cX11_dyed zrk_cX11_dyed_0 := by unfold zrW; decide +kernel
theorem dX11_dyed_0 : decode cX11_dyed 0 = .ok (.iload_n 1, 1) := zrD zrw_cX11_dyed_0 (i := 0) (by decide +kernel) rfl
theorem dX11_dyed_1 : decode cX11_dyed 1 = .ok (.iconst 0, 1) := zrD zrw_cX11_dyed_0 (i := 1) (by decide +kernel) rfl
theorem dX11_dyed_2 : decode cX11_dyed 2 = .ok (.aload_n 0, 1) := zrD zrw_cX11_dyed_0 (i := 2) (by decide +kernel) rfl
theorem dX11_dyed_3 : decode cX11_dyed 3 = .ok (.getfield 261, 3) := zrD zrw_cX11_dyed_0 (i := 3) (by decide +kernel) rfl
theorem dX11_dyed_6 : decode cX11_dyed 6 = .ok (.invokestatic 316, 3) := zrD zrw_cX11_dyed_0 (i := 6) (by decide +kernel) rfl
theorem dX11_dyed_9 : decode cX11_dyed 9 = .ok (.ifCond .eq 12, 3) := zrD zrw_cX11_dyed_0 (i := 9) (by decide +kernel) rfl
theorem dX11_dyed_12 : decode cX11_dyed 12 = .ok (.iload_n 2, 1) := zrD zrw_cX11_dyed_0 (i := 12) (by decide +kernel) rfl
theorem dX11_dyed_13 : decode cX11_dyed 13 = .ok (.iconst 0, 1) := zrD zrw_cX11_dyed_0 (i := 13) (by decide +kernel) rfl
theorem dX11_dyed_14 : decode cX11_dyed 14 = .ok (.iconst 1, 1) := zrD zrw_cX11_dyed_0 (i := 14) (by decide +kernel) rfl
theorem dX11_dyed_15 : decode cX11_dyed 15 = .ok (.invokestatic 316, 3) := zrD zrw_cX11_dyed_0 (i := 15) (by decide +kernel) rfl
theorem dX11_dyed_18 : decode cX11_dyed 18 = .ok (.ifCond .ne 5, 3) := zrD zrw_cX11_dyed_0 (i := 18) (by decide +kernel) rfl
theorem dX11_dyed_21 : decode cX11_dyed 21 = .ok (.iconst (-1), 1) := zrD zrw_cX11_dyed_0 (i := 21) (by decide +kernel) rfl
theorem dX11_dyed_22 : decode cX11_dyed 22 = .ok (.ireturn, 1) := zrD zrw_cX11_dyed_0 (i := 22) (by decide +kernel) rfl
theorem dX11_dyed_23 : decode cX11_dyed 23 = .ok (.aload_n 0, 1) := zrD zrw_cX11_dyed_0 (i := 23) (by decide +kernel) rfl
theorem dX11_dyed_24 : decode cX11_dyed 24 = .ok (.iload_n 1, 1) := zrD zrw_cX11_dyed_0 (i := 24) (by decide +kernel) rfl
theorem dX11_dyed_25 : decode cX11_dyed 25 = .ok (.invokevirtual 451, 3) := zrD zrw_cX11_dyed_0 (i := 25) (by decide +kernel) rfl
theorem dX11_dyed_28 : decode cX11_dyed 28 = .ok (.istore_n 3, 1) := zrD zrw_cX11_dyed_0 (i := 28) (by decide +kernel) rfl
theorem dX11_dyed_29 : decode cX11_dyed 29 = .ok (.iload_n 2, 1) := zrD zrw_cX11_dyed_0 (i := 29) (by decide +kernel) rfl
def zrk_cX11_dyed_30 : ByteArray := .mk #[154, 0, 10, 29, 184, 1, 89, 167, 0, 4, 29, 172]
theorem zrw_cX11_dyed_30 : zrW 30 cX11_dyed zrk_cX11_dyed_30 := by unfold zrW; decide +kernel
theorem dX11_dyed_30 : decode cX11_dyed 30 = .ok (.ifCond .ne 10, 3) := zrD zrw_cX11_dyed_30 (i := 0) (by decide +kernel) rfl
theorem dX11_dyed_33 : decode cX11_dyed 33 = .ok (.iload_n 3, 1) := zrD zrw_cX11_dyed_30 (i := 3) (by decide +kernel) rfl
theorem dX11_dyed_34 : decode cX11_dyed 34 = .ok (.invokestatic 345, 3) := zrD zrw_cX11_dyed_30 (i := 4) (by decide +kernel) rfl
theorem dX11_dyed_37 : decode cX11_dyed 37 = .ok (.goto 4, 3) := zrD zrw_cX11_dyed_30 (i := 7) (by decide +kernel) rfl
theorem dX11_dyed_40 : decode cX11_dyed 40 = .ok (.iload_n 3, 1) := zrD zrw_cX11_dyed_30 (i := 10) (by decide +kernel) rfl
theorem dX11_dyed_41 : decode cX11_dyed 41 = .ok (.ireturn, 1) := zrD zrw_cX11_dyed_30 (i := 11) (by decide +kernel) rfl
def zrk_cX11_watch_0 : ByteArray := .mk #[27, 3, 42, 180, 1, 5, 184, 1, 60, 154, 0, 5, 2, 172, 42, 27, 182, 1, 195, 61, 16, 254, 62, 3, 54, 4, 3, 54, 5, 21, 5, 42]
theorem zrw_cX11_watch_0 : zrW 0 cX11_watch zrk_cX11_watch_0 := by unfold zrW; decide +kernel
theorem dX11_watch_0 : decode cX11_watch 0 = .ok (.iload_n 1, 1) := zrD zrw_cX11_watch_0 (i := 0) (by decide +kernel) rfl
theorem dX11_watch_1 : decode cX11_watch 1 = .ok (.iconst 0, 1) := zrD zrw_cX11_watch_0 (i := 1) (by decide +kernel) rfl
theorem dX11_watch_2 : decode cX11_watch 2 = .ok (.aload_n 0, 1) := zrD zrw_cX11_watch_0 (i := 2) (by decide +kernel) rfl
theorem dX11_watch_3 : decode cX11_watch 3 = .ok (.getfield 261, 3) := zrD zrw_cX11_watch_0 (i := 3) (by decide +kernel) rfl
theorem dX11_watch_6 : decode cX11_watch 6 = .ok (.invokestatic 316, 3) := zrD zrw_cX11_watch_0 (i := 6) (by decide +kernel) rfl
theorem dX11_watch_9 : decode cX11_watch 9 = .ok (.ifCond .ne 5, 3) := zrD zrw_cX11_watch_0 (i := 9) (by decide +kernel) rfl
theorem dX11_watch_12 : decode cX11_watch 12 = .ok (.iconst (-1), 1) := zrD zrw_cX11_watch_0 (i := 12) (by decide +kernel) rfl
theorem dX11_watch_13 : decode cX11_watch 13 = .ok (.ireturn, 1) := zrD zrw_cX11_watch_0 (i := 13) (by decide +kernel) rfl
theorem dX11_watch_14 : decode cX11_watch 14 = .ok (.aload_n 0, 1) := zrD zrw_cX11_watch_0 (i := 14) (by decide +kernel) rfl
theorem dX11_watch_15 : decode cX11_watch 15 = .ok (.iload_n 1, 1) := zrD zrw_cX11_watch_0 (i := 15) (by decide +kernel) rfl
theorem dX11_watch_16 : decode cX11_watch 16 = .ok (.invokevirtual 451, 3) := zrD zrw_cX11_watch_0 (i := 16) (by decide +kernel) rfl
theorem dX11_watch_19 : decode cX11_watch 19 = .ok (.istore_n 2, 1) := zrD zrw_cX11_watch_0 (i := 19) (by decide +kernel) rfl
theorem dX11_watch_20 : decode cX11_watch 20 = .ok (.bipush (-2), 2) := zrD zrw_cX11_watch_0 (i := 20) (by decide +kernel) rfl
theorem dX11_watch_22 : decode cX11_watch 22 = .ok (.istore_n 3, 1) := zrD zrw_cX11_watch_0 (i := 22) (by decide +kernel) rfl
theorem dX11_watch_23 : decode cX11_watch 23 = .ok (.iconst 0, 1) := zrD zrw_cX11_watch_0 (i := 23) (by decide +kernel) rfl
theorem dX11_watch_24 : decode cX11_watch 24 = .ok (.istore 4, 2) := zrD zrw_cX11_watch_0 (i := 24) (by decide +kernel) rfl
theorem dX11_watch_26 : decode cX11_watch 26 = .ok (.iconst 0, 1) := zrD zrw_cX11_watch_0 (i := 26) (by decide +kernel) rfl
theorem dX11_watch_27 : decode cX11_watch 27 = .ok (.istore 5, 2) := zrD zrw_cX11_watch_0 (i := 27) (by decide +kernel) rfl
theorem dX11_watch_29 : decode cX11_watch 29 = .ok (.iload 5, 2) := zrD zrw_cX11_watch_0 (i := 29) (by decide +kernel) rfl
theorem dX11_watch_31 : decode cX11_watch 31 = .ok (.aload_n 0, 1) := zrD zrw_cX11_watch_0 (i := 31) (by decide +kernel) rfl
def zrk_cX11_watch_32 : ByteArray := .mk #[182, 1, 57, 162, 0, 74, 28, 153, 0, 70, 28, 42, 180, 0, 119, 21, 5, 46, 126, 184, 1, 89, 54, 6, 21, 6, 28, 184, 1, 89, 21, 6]
theorem zrw_cX11_watch_32 : zrW 32 cX11_watch zrk_cX11_watch_32 := by unfold zrW; decide +kernel
theorem dX11_watch_32 : decode cX11_watch 32 = .ok (.invokevirtual 313, 3) := zrD zrw_cX11_watch_32 (i := 0) (by decide +kernel) rfl
theorem dX11_watch_35 : decode cX11_watch 35 = .ok (.if_icmp .ge 74, 3) := zrD zrw_cX11_watch_32 (i := 3) (by decide +kernel) rfl
theorem dX11_watch_38 : decode cX11_watch 38 = .ok (.iload_n 2, 1) := zrD zrw_cX11_watch_32 (i := 6) (by decide +kernel) rfl
theorem dX11_watch_39 : decode cX11_watch 39 = .ok (.ifCond .eq 70, 3) := zrD zrw_cX11_watch_32 (i := 7) (by decide +kernel) rfl
theorem dX11_watch_42 : decode cX11_watch 42 = .ok (.iload_n 2, 1) := zrD zrw_cX11_watch_32 (i := 10) (by decide +kernel) rfl
theorem dX11_watch_43 : decode cX11_watch 43 = .ok (.aload_n 0, 1) := zrD zrw_cX11_watch_32 (i := 11) (by decide +kernel) rfl
theorem dX11_watch_44 : decode cX11_watch 44 = .ok (.getfield 119, 3) := zrD zrw_cX11_watch_32 (i := 12) (by decide +kernel) rfl
theorem dX11_watch_47 : decode cX11_watch 47 = .ok (.iload 5, 2) := zrD zrw_cX11_watch_32 (i := 15) (by decide +kernel) rfl
theorem dX11_watch_49 : decode cX11_watch 49 = .ok (.iaload, 1) := zrD zrw_cX11_watch_32 (i := 17) (by decide +kernel) rfl
theorem dX11_watch_50 : decode cX11_watch 50 = .ok (.iand, 1) := zrD zrw_cX11_watch_32 (i := 18) (by decide +kernel) rfl
theorem dX11_watch_51 : decode cX11_watch 51 = .ok (.invokestatic 345, 3) := zrD zrw_cX11_watch_32 (i := 19) (by decide +kernel) rfl
theorem dX11_watch_54 : decode cX11_watch 54 = .ok (.istore 6, 2) := zrD zrw_cX11_watch_32 (i := 22) (by decide +kernel) rfl
theorem dX11_watch_56 : decode cX11_watch 56 = .ok (.iload 6, 2) := zrD zrw_cX11_watch_32 (i := 24) (by decide +kernel) rfl
theorem dX11_watch_58 : decode cX11_watch 58 = .ok (.iload_n 2, 1) := zrD zrw_cX11_watch_32 (i := 26) (by decide +kernel) rfl
theorem dX11_watch_59 : decode cX11_watch 59 = .ok (.invokestatic 345, 3) := zrD zrw_cX11_watch_32 (i := 27) (by decide +kernel) rfl
theorem dX11_watch_62 : decode cX11_watch 62 = .ok (.iload 6, 2) := zrD zrw_cX11_watch_32 (i := 30) (by decide +kernel) rfl
def zrk_cX11_watch_64 : ByteArray := .mk #[100, 164, 0, 8, 21, 6, 167, 0, 10, 28, 184, 1, 89, 21, 6, 100, 54, 7, 29, 155, 0, 13, 21, 7, 21, 4, 161, 0, 6, 167, 0, 10]
theorem zrw_cX11_watch_64 : zrW 64 cX11_watch zrk_cX11_watch_64 := by unfold zrW; decide +kernel
theorem dX11_watch_64 : decode cX11_watch 64 = .ok (.isub, 1) := zrD zrw_cX11_watch_64 (i := 0) (by decide +kernel) rfl
theorem dX11_watch_65 : decode cX11_watch 65 = .ok (.if_icmp .le 8, 3) := zrD zrw_cX11_watch_64 (i := 1) (by decide +kernel) rfl
theorem dX11_watch_68 : decode cX11_watch 68 = .ok (.iload 6, 2) := zrD zrw_cX11_watch_64 (i := 4) (by decide +kernel) rfl
theorem dX11_watch_70 : decode cX11_watch 70 = .ok (.goto 10, 3) := zrD zrw_cX11_watch_64 (i := 6) (by decide +kernel) rfl
theorem dX11_watch_73 : decode cX11_watch 73 = .ok (.iload_n 2, 1) := zrD zrw_cX11_watch_64 (i := 9) (by decide +kernel) rfl
theorem dX11_watch_74 : decode cX11_watch 74 = .ok (.invokestatic 345, 3) := zrD zrw_cX11_watch_64 (i := 10) (by decide +kernel) rfl
theorem dX11_watch_77 : decode cX11_watch 77 = .ok (.iload 6, 2) := zrD zrw_cX11_watch_64 (i := 13) (by decide +kernel) rfl
theorem dX11_watch_79 : decode cX11_watch 79 = .ok (.isub, 1) := zrD zrw_cX11_watch_64 (i := 15) (by decide +kernel) rfl
theorem dX11_watch_80 : decode cX11_watch 80 = .ok (.istore 7, 2) := zrD zrw_cX11_watch_64 (i := 16) (by decide +kernel) rfl
theorem dX11_watch_82 : decode cX11_watch 82 = .ok (.iload_n 3, 1) := zrD zrw_cX11_watch_64 (i := 18) (by decide +kernel) rfl
theorem dX11_watch_83 : decode cX11_watch 83 = .ok (.ifCond .lt 13, 3) := zrD zrw_cX11_watch_64 (i := 19) (by decide +kernel) rfl
theorem dX11_watch_86 : decode cX11_watch 86 = .ok (.iload 7, 2) := zrD zrw_cX11_watch_64 (i := 22) (by decide +kernel) rfl
theorem dX11_watch_88 : decode cX11_watch 88 = .ok (.iload 4, 2) := zrD zrw_cX11_watch_64 (i := 24) (by decide +kernel) rfl
theorem dX11_watch_90 : decode cX11_watch 90 = .ok (.if_icmp .lt 6, 3) := zrD zrw_cX11_watch_64 (i := 26) (by decide +kernel) rfl
theorem dX11_watch_93 : decode cX11_watch 93 = .ok (.goto 10, 3) := zrD zrw_cX11_watch_64 (i := 29) (by decide +kernel) rfl
def zrk_cX11_watch_96 : ByteArray := .mk #[21, 5, 62, 21, 7, 54, 4, 132, 5, 1, 167, 255, 179, 29, 172]
theorem zrw_cX11_watch_96 : zrW 96 cX11_watch zrk_cX11_watch_96 := by unfold zrW; decide +kernel
theorem dX11_watch_96 : decode cX11_watch 96 = .ok (.iload 5, 2) := zrD zrw_cX11_watch_96 (i := 0) (by decide +kernel) rfl
theorem dX11_watch_98 : decode cX11_watch 98 = .ok (.istore_n 3, 1) := zrD zrw_cX11_watch_96 (i := 2) (by decide +kernel) rfl
theorem dX11_watch_99 : decode cX11_watch 99 = .ok (.iload 7, 2) := zrD zrw_cX11_watch_96 (i := 3) (by decide +kernel) rfl
theorem dX11_watch_101 : decode cX11_watch 101 = .ok (.istore 4, 2) := zrD zrw_cX11_watch_96 (i := 5) (by decide +kernel) rfl
theorem dX11_watch_103 : decode cX11_watch 103 = .ok (.iinc 5 1, 3) := zrD zrw_cX11_watch_96 (i := 7) (by decide +kernel) rfl
theorem dX11_watch_106 : decode cX11_watch 106 = .ok (.goto (-77), 3) := zrD zrw_cX11_watch_96 (i := 10) (by decide +kernel) rfl
theorem dX11_watch_109 : decode cX11_watch 109 = .ok (.iload_n 3, 1) := zrD zrw_cX11_watch_96 (i := 13) (by decide +kernel) rfl
theorem dX11_watch_110 : decode cX11_watch 110 = .ok (.ireturn, 1) := zrD zrw_cX11_watch_96 (i := 14) (by decide +kernel) rfl
def zrk_cX11_hold_0 : ByteArray := .mk #[27, 3, 5, 184, 1, 60, 154, 0, 5, 3, 172, 42, 180, 0, 149, 27, 4, 84, 3, 61, 28, 16, 50, 162, 0, 26, 42, 180, 0, 152, 16, 50]
theorem zrw_cX11_hold_0 : zrW 0 cX11_hold zrk_cX11_hold_0 := by unfold zrW; decide +kernel
theorem dX11_hold_0 : decode cX11_hold 0 = .ok (.iload_n 1, 1) := zrD zrw_cX11_hold_0 (i := 0) (by decide +kernel) rfl
theorem dX11_hold_1 : decode cX11_hold 1 = .ok (.iconst 0, 1) := zrD zrw_cX11_hold_0 (i := 1) (by decide +kernel) rfl
theorem dX11_hold_2 : decode cX11_hold 2 = .ok (.iconst 2, 1) := zrD zrw_cX11_hold_0 (i := 2) (by decide +kernel) rfl
theorem dX11_hold_3 : decode cX11_hold 3 = .ok (.invokestatic 316, 3) := zrD zrw_cX11_hold_0 (i := 3) (by decide +kernel) rfl
theorem dX11_hold_6 : decode cX11_hold 6 = .ok (.ifCond .ne 5, 3) := zrD zrw_cX11_hold_0 (i := 6) (by decide +kernel) rfl
theorem dX11_hold_9 : decode cX11_hold 9 = .ok (.iconst 0, 1) := zrD zrw_cX11_hold_0 (i := 9) (by decide +kernel) rfl
theorem dX11_hold_10 : decode cX11_hold 10 = .ok (.ireturn, 1) := zrD zrw_cX11_hold_0 (i := 10) (by decide +kernel) rfl
theorem dX11_hold_11 : decode cX11_hold 11 = .ok (.aload_n 0, 1) := zrD zrw_cX11_hold_0 (i := 11) (by decide +kernel) rfl
theorem dX11_hold_12 : decode cX11_hold 12 = .ok (.getfield 149, 3) := zrD zrw_cX11_hold_0 (i := 12) (by decide +kernel) rfl
theorem dX11_hold_15 : decode cX11_hold 15 = .ok (.iload_n 1, 1) := zrD zrw_cX11_hold_0 (i := 15) (by decide +kernel) rfl
theorem dX11_hold_16 : decode cX11_hold 16 = .ok (.iconst 1, 1) := zrD zrw_cX11_hold_0 (i := 16) (by decide +kernel) rfl
theorem dX11_hold_17 : decode cX11_hold 17 = .ok (.bastore, 1) := zrD zrw_cX11_hold_0 (i := 17) (by decide +kernel) rfl
theorem dX11_hold_18 : decode cX11_hold 18 = .ok (.iconst 0, 1) := zrD zrw_cX11_hold_0 (i := 18) (by decide +kernel) rfl
theorem dX11_hold_19 : decode cX11_hold 19 = .ok (.istore_n 2, 1) := zrD zrw_cX11_hold_0 (i := 19) (by decide +kernel) rfl
theorem dX11_hold_20 : decode cX11_hold 20 = .ok (.iload_n 2, 1) := zrD zrw_cX11_hold_0 (i := 20) (by decide +kernel) rfl
theorem dX11_hold_21 : decode cX11_hold 21 = .ok (.bipush 50, 2) := zrD zrw_cX11_hold_0 (i := 21) (by decide +kernel) rfl
theorem dX11_hold_23 : decode cX11_hold 23 = .ok (.if_icmp .ge 26, 3) := zrD zrw_cX11_hold_0 (i := 23) (by decide +kernel) rfl
theorem dX11_hold_26 : decode cX11_hold 26 = .ok (.aload_n 0, 1) := zrD zrw_cX11_hold_0 (i := 26) (by decide +kernel) rfl
theorem dX11_hold_27 : decode cX11_hold 27 = .ok (.getfield 152, 3) := zrD zrw_cX11_hold_0 (i := 27) (by decide +kernel) rfl
theorem dX11_hold_30 : decode cX11_hold 30 = .ok (.bipush 50, 2) := zrD zrw_cX11_hold_0 (i := 30) (by decide +kernel) rfl
def zrk_cX11_hold_32 : ByteArray := .mk #[27, 104, 28, 96, 42, 180, 0, 107, 28, 46, 79, 132, 2, 1, 167, 255, 230, 4, 172]
theorem zrw_cX11_hold_32 : zrW 32 cX11_hold zrk_cX11_hold_32 := by unfold zrW; decide +kernel
theorem dX11_hold_32 : decode cX11_hold 32 = .ok (.iload_n 1, 1) := zrD zrw_cX11_hold_32 (i := 0) (by decide +kernel) rfl
theorem dX11_hold_33 : decode cX11_hold 33 = .ok (.imul, 1) := zrD zrw_cX11_hold_32 (i := 1) (by decide +kernel) rfl
theorem dX11_hold_34 : decode cX11_hold 34 = .ok (.iload_n 2, 1) := zrD zrw_cX11_hold_32 (i := 2) (by decide +kernel) rfl
theorem dX11_hold_35 : decode cX11_hold 35 = .ok (.iadd, 1) := zrD zrw_cX11_hold_32 (i := 3) (by decide +kernel) rfl
theorem dX11_hold_36 : decode cX11_hold 36 = .ok (.aload_n 0, 1) := zrD zrw_cX11_hold_32 (i := 4) (by decide +kernel) rfl
theorem dX11_hold_37 : decode cX11_hold 37 = .ok (.getfield 107, 3) := zrD zrw_cX11_hold_32 (i := 5) (by decide +kernel) rfl
theorem dX11_hold_40 : decode cX11_hold 40 = .ok (.iload_n 2, 1) := zrD zrw_cX11_hold_32 (i := 8) (by decide +kernel) rfl
theorem dX11_hold_41 : decode cX11_hold 41 = .ok (.iaload, 1) := zrD zrw_cX11_hold_32 (i := 9) (by decide +kernel) rfl
theorem dX11_hold_42 : decode cX11_hold 42 = .ok (.iastore, 1) := zrD zrw_cX11_hold_32 (i := 10) (by decide +kernel) rfl
theorem dX11_hold_43 : decode cX11_hold 43 = .ok (.iinc 2 1, 3) := zrD zrw_cX11_hold_32 (i := 11) (by decide +kernel) rfl
theorem dX11_hold_46 : decode cX11_hold 46 = .ok (.goto (-26), 3) := zrD zrw_cX11_hold_32 (i := 14) (by decide +kernel) rfl
theorem dX11_hold_49 : decode cX11_hold 49 = .ok (.iconst 1, 1) := zrD zrw_cX11_hold_32 (i := 17) (by decide +kernel) rfl
theorem dX11_hold_50 : decode cX11_hold 50 = .ok (.ireturn, 1) := zrD zrw_cX11_hold_32 (i := 18) (by decide +kernel) rfl
def zrk_cX11_restore_0 : ByteArray := .mk #[27, 3, 5, 184, 1, 60, 153, 0, 12, 42, 180, 0, 149, 27, 51, 154, 0, 5, 3, 172, 3, 61, 28, 16, 50, 162, 0, 26, 42, 180, 0, 107]
theorem zrw_cX11_restore_0 : zrW 0 cX11_restore zrk_cX11_restore_0 := by unfold zrW; decide +kernel
theorem dX11_restore_0 : decode cX11_restore 0 = .ok (.iload_n 1, 1) := zrD zrw_cX11_restore_0 (i := 0) (by decide +kernel) rfl
theorem dX11_restore_1 : decode cX11_restore 1 = .ok (.iconst 0, 1) := zrD zrw_cX11_restore_0 (i := 1) (by decide +kernel) rfl
theorem dX11_restore_2 : decode cX11_restore 2 = .ok (.iconst 2, 1) := zrD zrw_cX11_restore_0 (i := 2) (by decide +kernel) rfl
theorem dX11_restore_3 : decode cX11_restore 3 = .ok (.invokestatic 316, 3) := zrD zrw_cX11_restore_0 (i := 3) (by decide +kernel) rfl
theorem dX11_restore_6 : decode cX11_restore 6 = .ok (.ifCond .eq 12, 3) := zrD zrw_cX11_restore_0 (i := 6) (by decide +kernel) rfl
theorem dX11_restore_9 : decode cX11_restore 9 = .ok (.aload_n 0, 1) := zrD zrw_cX11_restore_0 (i := 9) (by decide +kernel) rfl
theorem dX11_restore_10 : decode cX11_restore 10 = .ok (.getfield 149, 3) := zrD zrw_cX11_restore_0 (i := 10) (by decide +kernel) rfl
theorem dX11_restore_13 : decode cX11_restore 13 = .ok (.iload_n 1, 1) := zrD zrw_cX11_restore_0 (i := 13) (by decide +kernel) rfl
theorem dX11_restore_14 : decode cX11_restore 14 = .ok (.baload, 1) := zrD zrw_cX11_restore_0 (i := 14) (by decide +kernel) rfl
theorem dX11_restore_15 : decode cX11_restore 15 = .ok (.ifCond .ne 5, 3) := zrD zrw_cX11_restore_0 (i := 15) (by decide +kernel) rfl
theorem dX11_restore_18 : decode cX11_restore 18 = .ok (.iconst 0, 1) := zrD zrw_cX11_restore_0 (i := 18) (by decide +kernel) rfl
theorem dX11_restore_19 : decode cX11_restore 19 = .ok (.ireturn, 1) := zrD zrw_cX11_restore_0 (i := 19) (by decide +kernel) rfl
theorem dX11_restore_20 : decode cX11_restore 20 = .ok (.iconst 0, 1) := zrD zrw_cX11_restore_0 (i := 20) (by decide +kernel) rfl
theorem dX11_restore_21 : decode cX11_restore 21 = .ok (.istore_n 2, 1) := zrD zrw_cX11_restore_0 (i := 21) (by decide +kernel) rfl
theorem dX11_restore_22 : decode cX11_restore 22 = .ok (.iload_n 2, 1) := zrD zrw_cX11_restore_0 (i := 22) (by decide +kernel) rfl
theorem dX11_restore_23 : decode cX11_restore 23 = .ok (.bipush 50, 2) := zrD zrw_cX11_restore_0 (i := 23) (by decide +kernel) rfl
theorem dX11_restore_25 : decode cX11_restore 25 = .ok (.if_icmp .ge 26, 3) := zrD zrw_cX11_restore_0 (i := 25) (by decide +kernel) rfl
theorem dX11_restore_28 : decode cX11_restore 28 = .ok (.aload_n 0, 1) := zrD zrw_cX11_restore_0 (i := 28) (by decide +kernel) rfl
theorem dX11_restore_29 : decode cX11_restore 29 = .ok (.getfield 107, 3) := zrD zrw_cX11_restore_0 (i := 29) (by decide +kernel) rfl
def zrk_cX11_restore_32 : ByteArray := .mk #[28, 42, 180, 0, 152, 16, 50, 27, 104, 28, 96, 46, 79, 132, 2, 1, 167, 255, 230, 42, 3, 181, 1, 2, 4, 172]
theorem zrw_cX11_restore_32 : zrW 32 cX11_restore zrk_cX11_restore_32 := by unfold zrW; decide +kernel
theorem dX11_restore_32 : decode cX11_restore 32 = .ok (.iload_n 2, 1) := zrD zrw_cX11_restore_32 (i := 0) (by decide +kernel) rfl
theorem dX11_restore_33 : decode cX11_restore 33 = .ok (.aload_n 0, 1) := zrD zrw_cX11_restore_32 (i := 1) (by decide +kernel) rfl
theorem dX11_restore_34 : decode cX11_restore 34 = .ok (.getfield 152, 3) := zrD zrw_cX11_restore_32 (i := 2) (by decide +kernel) rfl
theorem dX11_restore_37 : decode cX11_restore 37 = .ok (.bipush 50, 2) := zrD zrw_cX11_restore_32 (i := 5) (by decide +kernel) rfl
theorem dX11_restore_39 : decode cX11_restore 39 = .ok (.iload_n 1, 1) := zrD zrw_cX11_restore_32 (i := 7) (by decide +kernel) rfl
theorem dX11_restore_40 : decode cX11_restore 40 = .ok (.imul, 1) := zrD zrw_cX11_restore_32 (i := 8) (by decide +kernel) rfl
theorem dX11_restore_41 : decode cX11_restore 41 = .ok (.iload_n 2, 1) := zrD zrw_cX11_restore_32 (i := 9) (by decide +kernel) rfl
theorem dX11_restore_42 : decode cX11_restore 42 = .ok (.iadd, 1) := zrD zrw_cX11_restore_32 (i := 10) (by decide +kernel) rfl
theorem dX11_restore_43 : decode cX11_restore 43 = .ok (.iaload, 1) := zrD zrw_cX11_restore_32 (i := 11) (by decide +kernel) rfl
theorem dX11_restore_44 : decode cX11_restore 44 = .ok (.iastore, 1) := zrD zrw_cX11_restore_32 (i := 12) (by decide +kernel) rfl
theorem dX11_restore_45 : decode cX11_restore 45 = .ok (.iinc 2 1, 3) := zrD zrw_cX11_restore_32 (i := 13) (by decide +kernel) rfl
theorem dX11_restore_48 : decode cX11_restore 48 = .ok (.goto (-26), 3) := zrD zrw_cX11_restore_32 (i := 16) (by decide +kernel) rfl
theorem dX11_restore_51 : decode cX11_restore 51 = .ok (.aload_n 0, 1) := zrD zrw_cX11_restore_32 (i := 19) (by decide +kernel) rfl
theorem dX11_restore_52 : decode cX11_restore 52 = .ok (.iconst 0, 1) := zrD zrw_cX11_restore_32 (i := 20) (by decide +kernel) rfl
theorem dX11_restore_53 : decode cX11_restore 53 = .ok (.putfield 258, 3) := zrD zrw_cX11_restore_32 (i := 21) (by decide +kernel) rfl
theorem dX11_restore_56 : decode cX11_restore 56 = .ok (.iconst 1, 1) := zrD zrw_cX11_restore_32 (i := 24) (by decide +kernel) rfl
theorem dX11_restore_57 : decode cX11_restore 57 = .ok (.ireturn, 1) := zrD zrw_cX11_restore_32 (i := 25) (by decide +kernel) rfl
def zrk_cX11_count_0 : ByteArray := .mk #[42, 182, 1, 76, 3, 61, 27]
theorem zrw_cX11_count_0 : zrW 0 cX11_count zrk_cX11_count_0 := by unfold zrW; decide +kernel
theorem dX11_count_0 : decode cX11_count 0 = .ok (.aload_n 0, 1) := zrD zrw_cX11_count_0 (i := 0) (by decide +kernel) rfl
theorem dX11_count_1 : decode cX11_count 1 = .ok (.invokevirtual 332, 3) := zrD zrw_cX11_count_0 (i := 1) (by decide +kernel) rfl
theorem dX11_count_4 : decode cX11_count 4 = .ok (.iconst 0, 1) := zrD zrw_cX11_count_0 (i := 4) (by decide +kernel) rfl
theorem dX11_count_5 : decode cX11_count 5 = .ok (.istore_n 2, 1) := zrD zrw_cX11_count_0 (i := 5) (by decide +kernel) rfl
theorem dX11_count_6 : decode cX11_count 6 = .ok (.iload_n 1, 1) := zrD zrw_cX11_count_0 (i := 6) (by decide +kernel) rfl
theorem dX11_count_7 : decode cX11_count 7 = .ok (.tableswitch 396 0 16 #[81, 86, 94, 105, 113, 118, 123, 141, 171, 176, 181, 186, 231, 244, 279, 326, 361], 81) := by decide +kernel
def zrk_cX11_count_88 : ByteArray := .mk #[42, 182, 1, 57, 172, 42, 180, 0, 110, 16, 48, 46, 172, 42, 180, 0, 110, 16, 48, 46, 16, 12, 112, 172, 42, 180, 0, 110, 16, 49, 46, 172]
theorem zrw_cX11_count_88 : zrW 88 cX11_count zrk_cX11_count_88 := by unfold zrW; decide +kernel
theorem dX11_count_88 : decode cX11_count 88 = .ok (.aload_n 0, 1) := zrD zrw_cX11_count_88 (i := 0) (by decide +kernel) rfl
theorem dX11_count_89 : decode cX11_count 89 = .ok (.invokevirtual 313, 3) := zrD zrw_cX11_count_88 (i := 1) (by decide +kernel) rfl
theorem dX11_count_92 : decode cX11_count 92 = .ok (.ireturn, 1) := zrD zrw_cX11_count_88 (i := 4) (by decide +kernel) rfl
theorem dX11_count_93 : decode cX11_count 93 = .ok (.aload_n 0, 1) := zrD zrw_cX11_count_88 (i := 5) (by decide +kernel) rfl
theorem dX11_count_94 : decode cX11_count 94 = .ok (.getfield 110, 3) := zrD zrw_cX11_count_88 (i := 6) (by decide +kernel) rfl
theorem dX11_count_97 : decode cX11_count 97 = .ok (.bipush 48, 2) := zrD zrw_cX11_count_88 (i := 9) (by decide +kernel) rfl
theorem dX11_count_99 : decode cX11_count 99 = .ok (.iaload, 1) := zrD zrw_cX11_count_88 (i := 11) (by decide +kernel) rfl
theorem dX11_count_100 : decode cX11_count 100 = .ok (.ireturn, 1) := zrD zrw_cX11_count_88 (i := 12) (by decide +kernel) rfl
theorem dX11_count_101 : decode cX11_count 101 = .ok (.aload_n 0, 1) := zrD zrw_cX11_count_88 (i := 13) (by decide +kernel) rfl
theorem dX11_count_102 : decode cX11_count 102 = .ok (.getfield 110, 3) := zrD zrw_cX11_count_88 (i := 14) (by decide +kernel) rfl
theorem dX11_count_105 : decode cX11_count 105 = .ok (.bipush 48, 2) := zrD zrw_cX11_count_88 (i := 17) (by decide +kernel) rfl
theorem dX11_count_107 : decode cX11_count 107 = .ok (.iaload, 1) := zrD zrw_cX11_count_88 (i := 19) (by decide +kernel) rfl
theorem dX11_count_108 : decode cX11_count 108 = .ok (.bipush 12, 2) := zrD zrw_cX11_count_88 (i := 20) (by decide +kernel) rfl
theorem dX11_count_110 : decode cX11_count 110 = .ok (.irem, 1) := zrD zrw_cX11_count_88 (i := 22) (by decide +kernel) rfl
theorem dX11_count_111 : decode cX11_count 111 = .ok (.ireturn, 1) := zrD zrw_cX11_count_88 (i := 23) (by decide +kernel) rfl
theorem dX11_count_112 : decode cX11_count 112 = .ok (.aload_n 0, 1) := zrD zrw_cX11_count_88 (i := 24) (by decide +kernel) rfl
theorem dX11_count_113 : decode cX11_count 113 = .ok (.getfield 110, 3) := zrD zrw_cX11_count_88 (i := 25) (by decide +kernel) rfl
theorem dX11_count_116 : decode cX11_count 116 = .ok (.bipush 49, 2) := zrD zrw_cX11_count_88 (i := 28) (by decide +kernel) rfl
theorem dX11_count_118 : decode cX11_count 118 = .ok (.iaload, 1) := zrD zrw_cX11_count_88 (i := 30) (by decide +kernel) rfl
theorem dX11_count_119 : decode cX11_count 119 = .ok (.ireturn, 1) := zrD zrw_cX11_count_88 (i := 31) (by decide +kernel) rfl
def zrk_cX11_count_120 : ByteArray := .mk #[42, 182, 1, 161, 172, 42, 182, 1, 167, 172, 42, 182, 1, 57, 154, 0, 7, 3, 167, 0, 9, 42, 180, 0, 122, 3, 46, 172, 4, 62, 29, 42]
theorem zrw_cX11_count_120 : zrW 120 cX11_count zrk_cX11_count_120 := by unfold zrW; decide +kernel
theorem dX11_count_120 : decode cX11_count 120 = .ok (.aload_n 0, 1) := zrD zrw_cX11_count_120 (i := 0) (by decide +kernel) rfl
theorem dX11_count_121 : decode cX11_count 121 = .ok (.invokevirtual 417, 3) := zrD zrw_cX11_count_120 (i := 1) (by decide +kernel) rfl
theorem dX11_count_124 : decode cX11_count 124 = .ok (.ireturn, 1) := zrD zrw_cX11_count_120 (i := 4) (by decide +kernel) rfl
theorem dX11_count_125 : decode cX11_count 125 = .ok (.aload_n 0, 1) := zrD zrw_cX11_count_120 (i := 5) (by decide +kernel) rfl
theorem dX11_count_126 : decode cX11_count 126 = .ok (.invokevirtual 423, 3) := zrD zrw_cX11_count_120 (i := 6) (by decide +kernel) rfl
theorem dX11_count_129 : decode cX11_count 129 = .ok (.ireturn, 1) := zrD zrw_cX11_count_120 (i := 9) (by decide +kernel) rfl
theorem dX11_count_130 : decode cX11_count 130 = .ok (.aload_n 0, 1) := zrD zrw_cX11_count_120 (i := 10) (by decide +kernel) rfl
theorem dX11_count_131 : decode cX11_count 131 = .ok (.invokevirtual 313, 3) := zrD zrw_cX11_count_120 (i := 11) (by decide +kernel) rfl
theorem dX11_count_134 : decode cX11_count 134 = .ok (.ifCond .ne 7, 3) := zrD zrw_cX11_count_120 (i := 14) (by decide +kernel) rfl
theorem dX11_count_137 : decode cX11_count 137 = .ok (.iconst 0, 1) := zrD zrw_cX11_count_120 (i := 17) (by decide +kernel) rfl
theorem dX11_count_138 : decode cX11_count 138 = .ok (.goto 9, 3) := zrD zrw_cX11_count_120 (i := 18) (by decide +kernel) rfl
theorem dX11_count_141 : decode cX11_count 141 = .ok (.aload_n 0, 1) := zrD zrw_cX11_count_120 (i := 21) (by decide +kernel) rfl
theorem dX11_count_142 : decode cX11_count 142 = .ok (.getfield 122, 3) := zrD zrw_cX11_count_120 (i := 22) (by decide +kernel) rfl
theorem dX11_count_145 : decode cX11_count 145 = .ok (.iconst 0, 1) := zrD zrw_cX11_count_120 (i := 25) (by decide +kernel) rfl
theorem dX11_count_146 : decode cX11_count 146 = .ok (.iaload, 1) := zrD zrw_cX11_count_120 (i := 26) (by decide +kernel) rfl
theorem dX11_count_147 : decode cX11_count 147 = .ok (.ireturn, 1) := zrD zrw_cX11_count_120 (i := 27) (by decide +kernel) rfl
theorem dX11_count_148 : decode cX11_count 148 = .ok (.iconst 1, 1) := zrD zrw_cX11_count_120 (i := 28) (by decide +kernel) rfl
theorem dX11_count_149 : decode cX11_count 149 = .ok (.istore_n 3, 1) := zrD zrw_cX11_count_120 (i := 29) (by decide +kernel) rfl
theorem dX11_count_150 : decode cX11_count 150 = .ok (.iload_n 3, 1) := zrD zrw_cX11_count_120 (i := 30) (by decide +kernel) rfl
theorem dX11_count_151 : decode cX11_count 151 = .ok (.aload_n 0, 1) := zrD zrw_cX11_count_120 (i := 31) (by decide +kernel) rfl
def zrk_cX11_count_152 : ByteArray := .mk #[182, 1, 57, 162, 0, 21, 28, 42, 180, 0, 110, 16, 36, 29, 96, 46, 96, 61, 132, 3, 1, 167, 255, 233, 28, 172, 42, 180, 0, 169, 172, 42]
theorem zrw_cX11_count_152 : zrW 152 cX11_count zrk_cX11_count_152 := by unfold zrW; decide +kernel
theorem dX11_count_152 : decode cX11_count 152 = .ok (.invokevirtual 313, 3) := zrD zrw_cX11_count_152 (i := 0) (by decide +kernel) rfl
theorem dX11_count_155 : decode cX11_count 155 = .ok (.if_icmp .ge 21, 3) := zrD zrw_cX11_count_152 (i := 3) (by decide +kernel) rfl
theorem dX11_count_158 : decode cX11_count 158 = .ok (.iload_n 2, 1) := zrD zrw_cX11_count_152 (i := 6) (by decide +kernel) rfl
theorem dX11_count_159 : decode cX11_count 159 = .ok (.aload_n 0, 1) := zrD zrw_cX11_count_152 (i := 7) (by decide +kernel) rfl
theorem dX11_count_160 : decode cX11_count 160 = .ok (.getfield 110, 3) := zrD zrw_cX11_count_152 (i := 8) (by decide +kernel) rfl
theorem dX11_count_163 : decode cX11_count 163 = .ok (.bipush 36, 2) := zrD zrw_cX11_count_152 (i := 11) (by decide +kernel) rfl
theorem dX11_count_165 : decode cX11_count 165 = .ok (.iload_n 3, 1) := zrD zrw_cX11_count_152 (i := 13) (by decide +kernel) rfl
theorem dX11_count_166 : decode cX11_count 166 = .ok (.iadd, 1) := zrD zrw_cX11_count_152 (i := 14) (by decide +kernel) rfl
theorem dX11_count_167 : decode cX11_count 167 = .ok (.iaload, 1) := zrD zrw_cX11_count_152 (i := 15) (by decide +kernel) rfl
theorem dX11_count_168 : decode cX11_count 168 = .ok (.iadd, 1) := zrD zrw_cX11_count_152 (i := 16) (by decide +kernel) rfl
theorem dX11_count_169 : decode cX11_count 169 = .ok (.istore_n 2, 1) := zrD zrw_cX11_count_152 (i := 17) (by decide +kernel) rfl
theorem dX11_count_170 : decode cX11_count 170 = .ok (.iinc 3 1, 3) := zrD zrw_cX11_count_152 (i := 18) (by decide +kernel) rfl
theorem dX11_count_173 : decode cX11_count 173 = .ok (.goto (-23), 3) := zrD zrw_cX11_count_152 (i := 21) (by decide +kernel) rfl
theorem dX11_count_176 : decode cX11_count 176 = .ok (.iload_n 2, 1) := zrD zrw_cX11_count_152 (i := 24) (by decide +kernel) rfl
theorem dX11_count_177 : decode cX11_count 177 = .ok (.ireturn, 1) := zrD zrw_cX11_count_152 (i := 25) (by decide +kernel) rfl
theorem dX11_count_178 : decode cX11_count 178 = .ok (.aload_n 0, 1) := zrD zrw_cX11_count_152 (i := 26) (by decide +kernel) rfl
theorem dX11_count_179 : decode cX11_count 179 = .ok (.getfield 169, 3) := zrD zrw_cX11_count_152 (i := 27) (by decide +kernel) rfl
theorem dX11_count_182 : decode cX11_count 182 = .ok (.ireturn, 1) := zrD zrw_cX11_count_152 (i := 30) (by decide +kernel) rfl
theorem dX11_count_183 : decode cX11_count 183 = .ok (.aload_n 0, 1) := zrD zrw_cX11_count_152 (i := 31) (by decide +kernel) rfl
def zrk_cX11_count_184 : ByteArray := .mk #[180, 1, 2, 172, 42, 180, 1, 5, 172, 42, 180, 0, 149, 3, 51, 153, 0, 7, 4, 167, 0, 4, 3, 42, 180, 0, 149, 4, 51, 153, 0, 7]
theorem zrw_cX11_count_184 : zrW 184 cX11_count zrk_cX11_count_184 := by unfold zrW; decide +kernel
theorem dX11_count_184 : decode cX11_count 184 = .ok (.getfield 258, 3) := zrD zrw_cX11_count_184 (i := 0) (by decide +kernel) rfl
theorem dX11_count_187 : decode cX11_count 187 = .ok (.ireturn, 1) := zrD zrw_cX11_count_184 (i := 3) (by decide +kernel) rfl
theorem dX11_count_188 : decode cX11_count 188 = .ok (.aload_n 0, 1) := zrD zrw_cX11_count_184 (i := 4) (by decide +kernel) rfl
theorem dX11_count_189 : decode cX11_count 189 = .ok (.getfield 261, 3) := zrD zrw_cX11_count_184 (i := 5) (by decide +kernel) rfl
theorem dX11_count_192 : decode cX11_count 192 = .ok (.ireturn, 1) := zrD zrw_cX11_count_184 (i := 8) (by decide +kernel) rfl
theorem dX11_count_193 : decode cX11_count 193 = .ok (.aload_n 0, 1) := zrD zrw_cX11_count_184 (i := 9) (by decide +kernel) rfl
theorem dX11_count_194 : decode cX11_count 194 = .ok (.getfield 149, 3) := zrD zrw_cX11_count_184 (i := 10) (by decide +kernel) rfl
theorem dX11_count_197 : decode cX11_count 197 = .ok (.iconst 0, 1) := zrD zrw_cX11_count_184 (i := 13) (by decide +kernel) rfl
theorem dX11_count_198 : decode cX11_count 198 = .ok (.baload, 1) := zrD zrw_cX11_count_184 (i := 14) (by decide +kernel) rfl
theorem dX11_count_199 : decode cX11_count 199 = .ok (.ifCond .eq 7, 3) := zrD zrw_cX11_count_184 (i := 15) (by decide +kernel) rfl
theorem dX11_count_202 : decode cX11_count 202 = .ok (.iconst 1, 1) := zrD zrw_cX11_count_184 (i := 18) (by decide +kernel) rfl
theorem dX11_count_203 : decode cX11_count 203 = .ok (.goto 4, 3) := zrD zrw_cX11_count_184 (i := 19) (by decide +kernel) rfl
theorem dX11_count_206 : decode cX11_count 206 = .ok (.iconst 0, 1) := zrD zrw_cX11_count_184 (i := 22) (by decide +kernel) rfl
theorem dX11_count_207 : decode cX11_count 207 = .ok (.aload_n 0, 1) := zrD zrw_cX11_count_184 (i := 23) (by decide +kernel) rfl
theorem dX11_count_208 : decode cX11_count 208 = .ok (.getfield 149, 3) := zrD zrw_cX11_count_184 (i := 24) (by decide +kernel) rfl
theorem dX11_count_211 : decode cX11_count 211 = .ok (.iconst 1, 1) := zrD zrw_cX11_count_184 (i := 27) (by decide +kernel) rfl
theorem dX11_count_212 : decode cX11_count 212 = .ok (.baload, 1) := zrD zrw_cX11_count_184 (i := 28) (by decide +kernel) rfl
theorem dX11_count_213 : decode cX11_count 213 = .ok (.ifCond .eq 7, 3) := zrD zrw_cX11_count_184 (i := 29) (by decide +kernel) rfl
def zrk_cX11_count_216 : ByteArray := .mk #[4, 167, 0, 4, 3, 96, 42, 180, 0, 149, 5, 51, 153, 0, 7, 4, 167, 0, 4, 3, 96, 172, 42, 182, 1, 114, 153, 0, 7, 4]
theorem zrw_cX11_count_216 : zrW 216 cX11_count zrk_cX11_count_216 := by unfold zrW; decide +kernel
theorem dX11_count_216 : decode cX11_count 216 = .ok (.iconst 1, 1) := zrD zrw_cX11_count_216 (i := 0) (by decide +kernel) rfl
theorem dX11_count_217 : decode cX11_count 217 = .ok (.goto 4, 3) := zrD zrw_cX11_count_216 (i := 1) (by decide +kernel) rfl
theorem dX11_count_220 : decode cX11_count 220 = .ok (.iconst 0, 1) := zrD zrw_cX11_count_216 (i := 4) (by decide +kernel) rfl
theorem dX11_count_221 : decode cX11_count 221 = .ok (.iadd, 1) := zrD zrw_cX11_count_216 (i := 5) (by decide +kernel) rfl
theorem dX11_count_222 : decode cX11_count 222 = .ok (.aload_n 0, 1) := zrD zrw_cX11_count_216 (i := 6) (by decide +kernel) rfl
theorem dX11_count_223 : decode cX11_count 223 = .ok (.getfield 149, 3) := zrD zrw_cX11_count_216 (i := 7) (by decide +kernel) rfl
theorem dX11_count_226 : decode cX11_count 226 = .ok (.iconst 2, 1) := zrD zrw_cX11_count_216 (i := 10) (by decide +kernel) rfl
theorem dX11_count_227 : decode cX11_count 227 = .ok (.baload, 1) := zrD zrw_cX11_count_216 (i := 11) (by decide +kernel) rfl
theorem dX11_count_228 : decode cX11_count 228 = .ok (.ifCond .eq 7, 3) := zrD zrw_cX11_count_216 (i := 12) (by decide +kernel) rfl
theorem dX11_count_231 : decode cX11_count 231 = .ok (.iconst 1, 1) := zrD zrw_cX11_count_216 (i := 15) (by decide +kernel) rfl
theorem dX11_count_232 : decode cX11_count 232 = .ok (.goto 4, 3) := zrD zrw_cX11_count_216 (i := 16) (by decide +kernel) rfl
theorem dX11_count_235 : decode cX11_count 235 = .ok (.iconst 0, 1) := zrD zrw_cX11_count_216 (i := 19) (by decide +kernel) rfl
theorem dX11_count_236 : decode cX11_count 236 = .ok (.iadd, 1) := zrD zrw_cX11_count_216 (i := 20) (by decide +kernel) rfl
theorem dX11_count_237 : decode cX11_count 237 = .ok (.ireturn, 1) := zrD zrw_cX11_count_216 (i := 21) (by decide +kernel) rfl
theorem dX11_count_238 : decode cX11_count 238 = .ok (.aload_n 0, 1) := zrD zrw_cX11_count_216 (i := 22) (by decide +kernel) rfl
theorem dX11_count_239 : decode cX11_count 239 = .ok (.invokevirtual 370, 3) := zrD zrw_cX11_count_216 (i := 23) (by decide +kernel) rfl
theorem dX11_count_242 : decode cX11_count 242 = .ok (.ifCond .eq 7, 3) := zrD zrw_cX11_count_216 (i := 26) (by decide +kernel) rfl
theorem dX11_count_245 : decode cX11_count 245 = .ok (.iconst 1, 1) := zrD zrw_cX11_count_216 (i := 29) (by decide +kernel) rfl
def zrk_cX11_count_246 : ByteArray := .mk #[167, 0, 4, 3, 172, 4, 62, 29, 42, 182, 1, 57, 162, 0, 26, 28, 42, 180, 0, 49, 16, 12, 42, 180, 0, 236, 104, 29, 96, 46, 96, 61]
theorem zrw_cX11_count_246 : zrW 246 cX11_count zrk_cX11_count_246 := by unfold zrW; decide +kernel
theorem dX11_count_246 : decode cX11_count 246 = .ok (.goto 4, 3) := zrD zrw_cX11_count_246 (i := 0) (by decide +kernel) rfl
theorem dX11_count_249 : decode cX11_count 249 = .ok (.iconst 0, 1) := zrD zrw_cX11_count_246 (i := 3) (by decide +kernel) rfl
theorem dX11_count_250 : decode cX11_count 250 = .ok (.ireturn, 1) := zrD zrw_cX11_count_246 (i := 4) (by decide +kernel) rfl
theorem dX11_count_251 : decode cX11_count 251 = .ok (.iconst 1, 1) := zrD zrw_cX11_count_246 (i := 5) (by decide +kernel) rfl
theorem dX11_count_252 : decode cX11_count 252 = .ok (.istore_n 3, 1) := zrD zrw_cX11_count_246 (i := 6) (by decide +kernel) rfl
theorem dX11_count_253 : decode cX11_count 253 = .ok (.iload_n 3, 1) := zrD zrw_cX11_count_246 (i := 7) (by decide +kernel) rfl
theorem dX11_count_254 : decode cX11_count 254 = .ok (.aload_n 0, 1) := zrD zrw_cX11_count_246 (i := 8) (by decide +kernel) rfl
theorem dX11_count_255 : decode cX11_count 255 = .ok (.invokevirtual 313, 3) := zrD zrw_cX11_count_246 (i := 9) (by decide +kernel) rfl
theorem dX11_count_258 : decode cX11_count 258 = .ok (.if_icmp .ge 26, 3) := zrD zrw_cX11_count_246 (i := 12) (by decide +kernel) rfl
theorem dX11_count_261 : decode cX11_count 261 = .ok (.iload_n 2, 1) := zrD zrw_cX11_count_246 (i := 15) (by decide +kernel) rfl
theorem dX11_count_262 : decode cX11_count 262 = .ok (.aload_n 0, 1) := zrD zrw_cX11_count_246 (i := 16) (by decide +kernel) rfl
theorem dX11_count_263 : decode cX11_count 263 = .ok (.getfield 49, 3) := zrD zrw_cX11_count_246 (i := 17) (by decide +kernel) rfl
theorem dX11_count_266 : decode cX11_count 266 = .ok (.bipush 12, 2) := zrD zrw_cX11_count_246 (i := 20) (by decide +kernel) rfl
theorem dX11_count_268 : decode cX11_count 268 = .ok (.aload_n 0, 1) := zrD zrw_cX11_count_246 (i := 22) (by decide +kernel) rfl
theorem dX11_count_269 : decode cX11_count 269 = .ok (.getfield 236, 3) := zrD zrw_cX11_count_246 (i := 23) (by decide +kernel) rfl
theorem dX11_count_272 : decode cX11_count 272 = .ok (.imul, 1) := zrD zrw_cX11_count_246 (i := 26) (by decide +kernel) rfl
theorem dX11_count_273 : decode cX11_count 273 = .ok (.iload_n 3, 1) := zrD zrw_cX11_count_246 (i := 27) (by decide +kernel) rfl
theorem dX11_count_274 : decode cX11_count 274 = .ok (.iadd, 1) := zrD zrw_cX11_count_246 (i := 28) (by decide +kernel) rfl
theorem dX11_count_275 : decode cX11_count 275 = .ok (.iaload, 1) := zrD zrw_cX11_count_246 (i := 29) (by decide +kernel) rfl
theorem dX11_count_276 : decode cX11_count 276 = .ok (.iadd, 1) := zrD zrw_cX11_count_246 (i := 30) (by decide +kernel) rfl
theorem dX11_count_277 : decode cX11_count 277 = .ok (.istore_n 2, 1) := zrD zrw_cX11_count_246 (i := 31) (by decide +kernel) rfl
def zrk_cX11_count_278 : ByteArray := .mk #[132, 3, 1, 167, 255, 228, 28, 172, 4, 62, 29, 42, 182, 1, 57, 162, 0, 38, 42, 180, 0, 110, 29, 46, 42, 180, 0, 46, 16, 12, 42]
theorem zrw_cX11_count_278 : zrW 278 cX11_count zrk_cX11_count_278 := by unfold zrW; decide +kernel
theorem dX11_count_278 : decode cX11_count 278 = .ok (.iinc 3 1, 3) := zrD zrw_cX11_count_278 (i := 0) (by decide +kernel) rfl
theorem dX11_count_281 : decode cX11_count 281 = .ok (.goto (-28), 3) := zrD zrw_cX11_count_278 (i := 3) (by decide +kernel) rfl
theorem dX11_count_284 : decode cX11_count 284 = .ok (.iload_n 2, 1) := zrD zrw_cX11_count_278 (i := 6) (by decide +kernel) rfl
theorem dX11_count_285 : decode cX11_count 285 = .ok (.ireturn, 1) := zrD zrw_cX11_count_278 (i := 7) (by decide +kernel) rfl
theorem dX11_count_286 : decode cX11_count 286 = .ok (.iconst 1, 1) := zrD zrw_cX11_count_278 (i := 8) (by decide +kernel) rfl
theorem dX11_count_287 : decode cX11_count 287 = .ok (.istore_n 3, 1) := zrD zrw_cX11_count_278 (i := 9) (by decide +kernel) rfl
theorem dX11_count_288 : decode cX11_count 288 = .ok (.iload_n 3, 1) := zrD zrw_cX11_count_278 (i := 10) (by decide +kernel) rfl
theorem dX11_count_289 : decode cX11_count 289 = .ok (.aload_n 0, 1) := zrD zrw_cX11_count_278 (i := 11) (by decide +kernel) rfl
theorem dX11_count_290 : decode cX11_count 290 = .ok (.invokevirtual 313, 3) := zrD zrw_cX11_count_278 (i := 12) (by decide +kernel) rfl
theorem dX11_count_293 : decode cX11_count 293 = .ok (.if_icmp .ge 38, 3) := zrD zrw_cX11_count_278 (i := 15) (by decide +kernel) rfl
theorem dX11_count_296 : decode cX11_count 296 = .ok (.aload_n 0, 1) := zrD zrw_cX11_count_278 (i := 18) (by decide +kernel) rfl
theorem dX11_count_297 : decode cX11_count 297 = .ok (.getfield 110, 3) := zrD zrw_cX11_count_278 (i := 19) (by decide +kernel) rfl
theorem dX11_count_300 : decode cX11_count 300 = .ok (.iload_n 3, 1) := zrD zrw_cX11_count_278 (i := 22) (by decide +kernel) rfl
theorem dX11_count_301 : decode cX11_count 301 = .ok (.iaload, 1) := zrD zrw_cX11_count_278 (i := 23) (by decide +kernel) rfl
theorem dX11_count_302 : decode cX11_count 302 = .ok (.aload_n 0, 1) := zrD zrw_cX11_count_278 (i := 24) (by decide +kernel) rfl
theorem dX11_count_303 : decode cX11_count 303 = .ok (.getfield 46, 3) := zrD zrw_cX11_count_278 (i := 25) (by decide +kernel) rfl
theorem dX11_count_306 : decode cX11_count 306 = .ok (.bipush 12, 2) := zrD zrw_cX11_count_278 (i := 28) (by decide +kernel) rfl
theorem dX11_count_308 : decode cX11_count 308 = .ok (.aload_n 0, 1) := zrD zrw_cX11_count_278 (i := 30) (by decide +kernel) rfl
def zrk_cX11_count_309 : ByteArray := .mk #[180, 0, 236, 104, 29, 96, 46, 159, 0, 9, 28, 4, 29, 120, 128, 61, 132, 3, 1, 167, 255, 216, 28, 172, 4, 62, 29, 42, 182, 1, 57]
theorem zrw_cX11_count_309 : zrW 309 cX11_count zrk_cX11_count_309 := by unfold zrW; decide +kernel
theorem dX11_count_309 : decode cX11_count 309 = .ok (.getfield 236, 3) := zrD zrw_cX11_count_309 (i := 0) (by decide +kernel) rfl
theorem dX11_count_312 : decode cX11_count 312 = .ok (.imul, 1) := zrD zrw_cX11_count_309 (i := 3) (by decide +kernel) rfl
theorem dX11_count_313 : decode cX11_count 313 = .ok (.iload_n 3, 1) := zrD zrw_cX11_count_309 (i := 4) (by decide +kernel) rfl
theorem dX11_count_314 : decode cX11_count 314 = .ok (.iadd, 1) := zrD zrw_cX11_count_309 (i := 5) (by decide +kernel) rfl
theorem dX11_count_315 : decode cX11_count 315 = .ok (.iaload, 1) := zrD zrw_cX11_count_309 (i := 6) (by decide +kernel) rfl
theorem dX11_count_316 : decode cX11_count 316 = .ok (.if_icmp .eq 9, 3) := zrD zrw_cX11_count_309 (i := 7) (by decide +kernel) rfl
theorem dX11_count_319 : decode cX11_count 319 = .ok (.iload_n 2, 1) := zrD zrw_cX11_count_309 (i := 10) (by decide +kernel) rfl
theorem dX11_count_320 : decode cX11_count 320 = .ok (.iconst 1, 1) := zrD zrw_cX11_count_309 (i := 11) (by decide +kernel) rfl
theorem dX11_count_321 : decode cX11_count 321 = .ok (.iload_n 3, 1) := zrD zrw_cX11_count_309 (i := 12) (by decide +kernel) rfl
theorem dX11_count_322 : decode cX11_count 322 = .ok (.ishl, 1) := zrD zrw_cX11_count_309 (i := 13) (by decide +kernel) rfl
theorem dX11_count_323 : decode cX11_count 323 = .ok (.ior, 1) := zrD zrw_cX11_count_309 (i := 14) (by decide +kernel) rfl
theorem dX11_count_324 : decode cX11_count 324 = .ok (.istore_n 2, 1) := zrD zrw_cX11_count_309 (i := 15) (by decide +kernel) rfl
theorem dX11_count_325 : decode cX11_count 325 = .ok (.iinc 3 1, 3) := zrD zrw_cX11_count_309 (i := 16) (by decide +kernel) rfl
theorem dX11_count_328 : decode cX11_count 328 = .ok (.goto (-40), 3) := zrD zrw_cX11_count_309 (i := 19) (by decide +kernel) rfl
theorem dX11_count_331 : decode cX11_count 331 = .ok (.iload_n 2, 1) := zrD zrw_cX11_count_309 (i := 22) (by decide +kernel) rfl
theorem dX11_count_332 : decode cX11_count 332 = .ok (.ireturn, 1) := zrD zrw_cX11_count_309 (i := 23) (by decide +kernel) rfl
theorem dX11_count_333 : decode cX11_count 333 = .ok (.iconst 1, 1) := zrD zrw_cX11_count_309 (i := 24) (by decide +kernel) rfl
theorem dX11_count_334 : decode cX11_count 334 = .ok (.istore_n 3, 1) := zrD zrw_cX11_count_309 (i := 25) (by decide +kernel) rfl
theorem dX11_count_335 : decode cX11_count 335 = .ok (.iload_n 3, 1) := zrD zrw_cX11_count_309 (i := 26) (by decide +kernel) rfl
theorem dX11_count_336 : decode cX11_count 336 = .ok (.aload_n 0, 1) := zrD zrw_cX11_count_309 (i := 27) (by decide +kernel) rfl
theorem dX11_count_337 : decode cX11_count 337 = .ok (.invokevirtual 313, 3) := zrD zrw_cX11_count_309 (i := 28) (by decide +kernel) rfl
def zrk_cX11_count_340 : ByteArray := .mk #[162, 0, 26, 28, 42, 180, 0, 52, 16, 12, 42, 180, 0, 236, 104, 29, 96, 46, 96, 61, 132, 3, 1, 167, 255, 228, 28, 172, 4, 62, 29, 42]
theorem zrw_cX11_count_340 : zrW 340 cX11_count zrk_cX11_count_340 := by unfold zrW; decide +kernel
theorem dX11_count_340 : decode cX11_count 340 = .ok (.if_icmp .ge 26, 3) := zrD zrw_cX11_count_340 (i := 0) (by decide +kernel) rfl
theorem dX11_count_343 : decode cX11_count 343 = .ok (.iload_n 2, 1) := zrD zrw_cX11_count_340 (i := 3) (by decide +kernel) rfl
theorem dX11_count_344 : decode cX11_count 344 = .ok (.aload_n 0, 1) := zrD zrw_cX11_count_340 (i := 4) (by decide +kernel) rfl
theorem dX11_count_345 : decode cX11_count 345 = .ok (.getfield 52, 3) := zrD zrw_cX11_count_340 (i := 5) (by decide +kernel) rfl
theorem dX11_count_348 : decode cX11_count 348 = .ok (.bipush 12, 2) := zrD zrw_cX11_count_340 (i := 8) (by decide +kernel) rfl
theorem dX11_count_350 : decode cX11_count 350 = .ok (.aload_n 0, 1) := zrD zrw_cX11_count_340 (i := 10) (by decide +kernel) rfl
theorem dX11_count_351 : decode cX11_count 351 = .ok (.getfield 236, 3) := zrD zrw_cX11_count_340 (i := 11) (by decide +kernel) rfl
theorem dX11_count_354 : decode cX11_count 354 = .ok (.imul, 1) := zrD zrw_cX11_count_340 (i := 14) (by decide +kernel) rfl
theorem dX11_count_355 : decode cX11_count 355 = .ok (.iload_n 3, 1) := zrD zrw_cX11_count_340 (i := 15) (by decide +kernel) rfl
theorem dX11_count_356 : decode cX11_count 356 = .ok (.iadd, 1) := zrD zrw_cX11_count_340 (i := 16) (by decide +kernel) rfl
theorem dX11_count_357 : decode cX11_count 357 = .ok (.iaload, 1) := zrD zrw_cX11_count_340 (i := 17) (by decide +kernel) rfl
theorem dX11_count_358 : decode cX11_count 358 = .ok (.iadd, 1) := zrD zrw_cX11_count_340 (i := 18) (by decide +kernel) rfl
theorem dX11_count_359 : decode cX11_count 359 = .ok (.istore_n 2, 1) := zrD zrw_cX11_count_340 (i := 19) (by decide +kernel) rfl
theorem dX11_count_360 : decode cX11_count 360 = .ok (.iinc 3 1, 3) := zrD zrw_cX11_count_340 (i := 20) (by decide +kernel) rfl
theorem dX11_count_363 : decode cX11_count 363 = .ok (.goto (-28), 3) := zrD zrw_cX11_count_340 (i := 23) (by decide +kernel) rfl
theorem dX11_count_366 : decode cX11_count 366 = .ok (.iload_n 2, 1) := zrD zrw_cX11_count_340 (i := 26) (by decide +kernel) rfl
theorem dX11_count_367 : decode cX11_count 367 = .ok (.ireturn, 1) := zrD zrw_cX11_count_340 (i := 27) (by decide +kernel) rfl
theorem dX11_count_368 : decode cX11_count 368 = .ok (.iconst 1, 1) := zrD zrw_cX11_count_340 (i := 28) (by decide +kernel) rfl
theorem dX11_count_369 : decode cX11_count 369 = .ok (.istore_n 3, 1) := zrD zrw_cX11_count_340 (i := 29) (by decide +kernel) rfl
theorem dX11_count_370 : decode cX11_count 370 = .ok (.iload_n 3, 1) := zrD zrw_cX11_count_340 (i := 30) (by decide +kernel) rfl
theorem dX11_count_371 : decode cX11_count 371 = .ok (.aload_n 0, 1) := zrD zrw_cX11_count_340 (i := 31) (by decide +kernel) rfl
def zrk_cX11_count_372 : ByteArray := .mk #[182, 1, 57, 162, 0, 26, 42, 180, 0, 113, 29, 46, 28, 164, 0, 10, 42, 180, 0, 113, 29, 46, 61, 132, 3, 1, 167, 255, 228, 28, 172, 2]
theorem zrw_cX11_count_372 : zrW 372 cX11_count zrk_cX11_count_372 := by unfold zrW; decide +kernel
theorem dX11_count_372 : decode cX11_count 372 = .ok (.invokevirtual 313, 3) := zrD zrw_cX11_count_372 (i := 0) (by decide +kernel) rfl
theorem dX11_count_375 : decode cX11_count 375 = .ok (.if_icmp .ge 26, 3) := zrD zrw_cX11_count_372 (i := 3) (by decide +kernel) rfl
theorem dX11_count_378 : decode cX11_count 378 = .ok (.aload_n 0, 1) := zrD zrw_cX11_count_372 (i := 6) (by decide +kernel) rfl
theorem dX11_count_379 : decode cX11_count 379 = .ok (.getfield 113, 3) := zrD zrw_cX11_count_372 (i := 7) (by decide +kernel) rfl
theorem dX11_count_382 : decode cX11_count 382 = .ok (.iload_n 3, 1) := zrD zrw_cX11_count_372 (i := 10) (by decide +kernel) rfl
theorem dX11_count_383 : decode cX11_count 383 = .ok (.iaload, 1) := zrD zrw_cX11_count_372 (i := 11) (by decide +kernel) rfl
theorem dX11_count_384 : decode cX11_count 384 = .ok (.iload_n 2, 1) := zrD zrw_cX11_count_372 (i := 12) (by decide +kernel) rfl
theorem dX11_count_385 : decode cX11_count 385 = .ok (.if_icmp .le 10, 3) := zrD zrw_cX11_count_372 (i := 13) (by decide +kernel) rfl
theorem dX11_count_388 : decode cX11_count 388 = .ok (.aload_n 0, 1) := zrD zrw_cX11_count_372 (i := 16) (by decide +kernel) rfl
theorem dX11_count_389 : decode cX11_count 389 = .ok (.getfield 113, 3) := zrD zrw_cX11_count_372 (i := 17) (by decide +kernel) rfl
theorem dX11_count_392 : decode cX11_count 392 = .ok (.iload_n 3, 1) := zrD zrw_cX11_count_372 (i := 20) (by decide +kernel) rfl
theorem dX11_count_393 : decode cX11_count 393 = .ok (.iaload, 1) := zrD zrw_cX11_count_372 (i := 21) (by decide +kernel) rfl
theorem dX11_count_394 : decode cX11_count 394 = .ok (.istore_n 2, 1) := zrD zrw_cX11_count_372 (i := 22) (by decide +kernel) rfl
theorem dX11_count_395 : decode cX11_count 395 = .ok (.iinc 3 1, 3) := zrD zrw_cX11_count_372 (i := 23) (by decide +kernel) rfl
theorem dX11_count_398 : decode cX11_count 398 = .ok (.goto (-28), 3) := zrD zrw_cX11_count_372 (i := 26) (by decide +kernel) rfl
theorem dX11_count_401 : decode cX11_count 401 = .ok (.iload_n 2, 1) := zrD zrw_cX11_count_372 (i := 29) (by decide +kernel) rfl
theorem dX11_count_402 : decode cX11_count 402 = .ok (.ireturn, 1) := zrD zrw_cX11_count_372 (i := 30) (by decide +kernel) rfl
theorem dX11_count_403 : decode cX11_count 403 = .ok (.iconst (-1), 1) := zrD zrw_cX11_count_372 (i := 31) (by decide +kernel) rfl
def zrk_cX11_count_404 : ByteArray := .mk #[172]
theorem zrw_cX11_count_404 : zrW 404 cX11_count zrk_cX11_count_404 := by unfold zrW; decide +kernel
theorem dX11_count_404 : decode cX11_count 404 = .ok (.ireturn, 1) := zrD zrw_cX11_count_404 (i := 0) (by decide +kernel) rfl
end
-- 06.kinds
section
/-! kinds: what class or array a cell is, its length; the places of a class; ranges; what references hold. Printed by a program of mine (wip/p3/tools). -/
def zbl : List Nat := [0, 1, 2, 3, 4, 5, 6, 7, 8, 9, 10, 11, 99, 99, 99, 99, 99, 99, 99, 99, 13, 13, 13, 13, 13, 13, 13, 13, 15, 16, 13, 13, 13, 13, 13, 13, 13, 13, 13, 12, 14, 13, 14, 13, 14, 13, 13, 13, 13, 13, 13, 13, 16, 13, 99, 99, 99, 99, 99, 99, 99, 99, 99, 99, 99, 99, 99, 99, 99, 99, 99, 99, 99, 99, 99, 99, 99, 99, 99, 99, 99, 99, 99, 99, 99, 99, 99, 99, 99, 99, 99, 99, 99, 99, 99, 99, 99, 99, 99, 99, 99, 12, 99, 12, 99, 13, 13, 13, 14, 14, 99, 99, 99, 99, 99, 99, 99, 99, 99, 99, 14, 13, 13, 13, 13, 13, 13, 13, 13, 13, 13, 13, 99, 15, 13, 13, 13, 13, 99, 13, 13, 99, 99, 13, 99, 13, 13, 99, 13, 13, 99, 99, 13, 13, 13, 13, 99, 99, 13, 13, 13, 13, 99, 13, 13, 13, 15, 15, 13]
def zb (k : Nat) : Nat := zbl.getD k 99
def znl : List Nat := [0, 0, 0, 0, 0, 0, 0, 0, 0, 0, 0, 0, 0, 0, 0, 0, 0, 0, 0, 0, 9, 32, 12, 12, 12, 20, 20, 20, 20, 40, 12, 12, 12, 12, 12, 12, 12, 12, 12, 2000, 22, 402, 402, 402, 12, 12, 12, 12, 12, 420, 420, 5, 3, 12, 0, 0, 0, 0, 0, 0, 0, 0, 0, 0, 0, 0, 0, 0, 0, 0, 0, 0, 0, 0, 0, 0, 0, 0, 0, 0, 0, 0, 0, 0, 0, 0, 0, 0, 0, 0, 0, 0, 0, 0, 0, 0, 0, 0, 0, 0, 0, 2000, 0, 2000, 0, 403, 403, 403, 403, 22, 0, 0, 0, 0, 0, 0, 0, 0, 0, 0, 12, 2, 24, 24, 24, 24, 2, 2, 2, 2, 10, 10, 0, 260, 260, 260, 260, 260, 0, 840, 840, 0, 0, 64, 0, 9, 400, 0, 50, 50, 0, 0, 12, 12, 12, 12, 0, 0, 2000, 3, 12, 12, 0, 20, 20, 20, 20, 3, 150]
def zn (k : Nat) : Nat := znl.getD k 0
def ztl : List (List Nat) := [[2, 2], [2, 2, 2, 0, 0, 0], [2, 2, 2, 2, 0], [2, 2, 0, 0, 1, 0, 0, 0, 0, 0, 0, 0], [2, 0, 0], [2, 2, 2, 2, 2, 2, 2], [0, 2, 2, 2, 2, 2, 2], [2, 0], [2, 2, 2, 2, 0], [0, 2, 2, 2, 2, 2, 2, 2, 0, 2, 0, 0, 0, 0], [2, 2, 2, 2, 2, 2, 2, 2, 2, 2, 2, 2, 0, 0], [0, 2, 0, 2, 0, 2, 2, 2, 2, 2, 0, 0, 0, 0, 0, 0, 0, 0, 0, 0, 2, 2, 2, 2, 2, 2, 2, 2, 2, 2, 2, 2, 0, 2, 2, 2, 2, 2, 0, 2, 2, 0, 0, 2, 0, 2, 2, 0, 2, 2, 0, 0, 2, 2, 2, 2, 0, 0, 2, 2, 2, 2, 0, 2, 2, 2, 2, 2, 2]]
def ztys (c : Nat) : List Nat := ztl.getD c []
def zrl (κ : Int) : List (Nat × Nat × Int × Int) := [(1, 5, 0, 2), (2, 4, 0, 20), (3, 6, 0, 1), (3, 7, 0, 11), (4, 1, 0, 39), (4, 2, 0, 40), (6, 0, 0, 12), (7, 1, κ, κ), (8, 4, 0, 402), (9, 0, 0, 12), (9, 8, 0, 420), (11, 2, κ, κ), (11, 4, 0, 2000), (11, 10, 0, 402), (11, 11, 0, 400), (11, 12, 0, 7), (11, 13, 0, 2147483647), (11, 18, 0, 1), (11, 19, 0, 1), (11, 32, 0, 260), (11, 38, 0, 840), (11, 41, 0, 1), (11, 42, 0, 11), (11, 44, 0, 64), (11, 47, 0, 1), (11, 51, 0, 1), (11, 56, (-2), 11), (11, 57, 0, 40), (11, 62, 0, 20), (22, 9999, 0, 11), (25, 9999, 0, 11), (28, 9999, 0, 1), (34, 9999, 0, 11), (39, 9999, (-128), 127), (45, 9999, 0, 11), (101, 9999, (-128), 127), (103, 9999, (-128), 127), (121, 9999, 0, 12), (133, 9999, 0, 1), (163, 9999, 0, 11), (166, 9999, 0, 1), (167, 9999, 0, 1)]
def zr (κ : Int) (k j : Nat) : Int × Int := match (zrl κ).find? (fun q => q.1 == k && (q.2.1 == 9999 || q.2.1 == j)) with
  | some q => q.2.2
  | none => (-2147483648, 2147483647)
def zfl : List (Nat × Nat × Nat × Nat) := [(0, 0, 20, 0), (0, 1, 21, 0), (1, 0, 22, 0), (1, 1, 23, 0), (1, 2, 24, 0), (2, 0, 25, 0), (2, 1, 26, 0), (2, 2, 27, 0), (2, 3, 28, 0), (3, 0, 8, 0), (3, 1, 9, 2), (4, 0, 29, 0), (5, 0, 6, 0), (5, 1, 0, 0), (5, 2, 30, 0), (5, 3, 31, 0), (5, 4, 32, 0), (5, 5, 9, 1), (5, 6, 1, 1), (6, 1, 33, 0), (6, 2, 34, 0), (6, 3, 35, 0), (6, 4, 36, 0), (6, 5, 37, 0), (6, 6, 38, 0), (7, 0, 39, 0), (8, 0, 40, 0), (8, 1, 41, 0), (8, 2, 42, 0), (8, 3, 43, 0), (9, 1, 44, 0), (9, 2, 45, 0), (9, 3, 46, 0), (9, 4, 47, 0), (9, 5, 48, 0), (9, 6, 49, 0), (9, 7, 50, 0), (9, 9, 51, 0), (10, 0, 7, 0), (10, 1, 3, 0), (10, 2, 5, 0), (10, 3, 6, 0), (10, 4, 4, 0), (10, 5, 2, 0), (10, 6, 1, 0), (10, 7, 1, 0), (10, 8, 52, 0), (10, 9, 53, 0), (10, 10, 9, 0), (10, 11, 9, 0), (11, 1, 101, 0), (11, 3, 103, 0), (11, 5, 105, 0), (11, 6, 106, 0), (11, 7, 107, 0), (11, 8, 108, 0), (11, 9, 109, 0), (11, 20, 120, 0), (11, 21, 121, 0), (11, 22, 122, 0), (11, 23, 123, 0), (11, 24, 124, 0), (11, 25, 125, 0), (11, 26, 126, 0), (11, 27, 127, 0), (11, 28, 128, 0), (11, 29, 129, 0), (11, 30, 130, 0), (11, 31, 131, 0), (11, 33, 133, 0), (11, 34, 134, 0), (11, 35, 135, 0), (11, 36, 136, 0), (11, 37, 137, 0), (11, 39, 139, 0), (11, 40, 140, 0), (11, 43, 143, 0), (11, 45, 145, 0), (11, 46, 146, 0), (11, 48, 148, 0), (11, 49, 149, 0), (11, 52, 152, 0), (11, 53, 153, 0), (11, 54, 154, 0), (11, 55, 155, 0), (11, 58, 158, 0), (11, 59, 159, 0), (11, 60, 160, 0), (11, 61, 161, 0), (11, 63, 163, 0), (11, 64, 164, 0), (11, 65, 165, 0), (11, 66, 166, 0), (11, 67, 167, 0), (11, 68, 168, 0), (29, 9999, 1, 0), (52, 9999, 1, 0)]
/-- what a place of references surely holds: a kind; the last number: not before the stage of that number -/
def zf (b k j : Nat) : Option Nat := match zfl.find? (fun q => q.1 == k && (q.2.1 == 9999 || q.2.1 == j)) with
  | some q => if q.2.2.2 = 0 ∨ q.2.2.2 = b then some q.2.2.1 else none
  | none => none
def zWL : List Cond := tables_1.filter goodWord ++ (k2_sels lw_privs).filter goodWord
end
-- 07.world
section
/-! THE WORLD as a typed heap: addresses L, to each a kind kd (a class, or an array by the field that holds it), its contents three functions of the address and the place: whole numbers, longs, references. A method's contract speaks of the whole world. -/
abbrev zS : Type := (Nat → Nat → Int32) × (Nat → Nat → Int64) × (Nat → Nat → Option Nat)
def zu {α : Type} (f : Nat → Nat → α) (a j : Nat) (v : α) : Nat → Nat → α := fun b k => if b = a then (if k = j then v else f b k) else f b k
theorem zu_s {α : Type} (f : Nat → Nat → α) (a j : Nat) (v : α) : zu f a j v a j = v := by simp [zu]
theorem zu_a {α : Type} (f : Nat → Nat → α) (a j : Nat) (v : α) : zu f a j v a = fun k => if k = j then v else f a k := by funext k; simp [zu]
theorem zu_n {α : Type} (f : Nat → Nat → α) {a b : Nat} (j : Nat) (v : α) (h : ¬ b = a) : zu f a j v b = f b := by funext k; simp [zu, h]
def zfs (i : Nat → Int32) (jl : Nat → Int64) (q : Nat → Option Nat) : List Nat → Nat → List Value
  | [], _ => []
  | t :: ts, n => (if t = 0 then Value.int (i n) else if t = 1 then Value.long (jl n) else va_rf (q n)) :: zfs i jl q ts (n + 1)
theorem zfs_len (i : Nat → Int32) (jl : Nat → Int64) (q : Nat → Option Nat) : ∀ (ts : List Nat) (n : Nat), (zfs i jl q ts n).length = ts.length
  | [], _ => rfl
  | _ :: ts, n => by simp [zfs, zfs_len i jl q ts (n + 1)]
theorem zfs_at (i : Nat → Int32) (jl : Nat → Int64) (q : Nat → Option Nat) : ∀ (ts : List Nat) (n k t : Nat), ts[k]? = some t → (zfs i jl q ts n)[k]? = some (if t = 0 then Value.int (i (n + k)) else if t = 1 then Value.long (jl (n + k)) else va_rf (q (n + k)))
  | [], _, _, _, h => by simp at h
  | t' :: ts, n, 0, t, h => by
    have h2 : t' = t := by simpa using h
    subst h2
    rfl
  | t' :: ts, n, k + 1, t, h => by
    have h2 : ts[k]? = some t := by simpa using h
    have := zfs_at i jl q ts (n + 1) k t h2
    rw [show n + (k + 1) = n + 1 + k by omega]
    exact this
theorem zfs_ext {i i' : Nat → Int32} {jl jl' : Nat → Int64} {q q' : Nat → Option Nat} : ∀ (ts : List Nat) (n : Nat), (∀ k, n ≤ k → (ts[k - n]? = some 0 → i k = i' k) ∧ (ts[k - n]? = some 1 → jl k = jl' k) ∧ (∀ t, ts[k - n]? = some t → t ≠ 0 → t ≠ 1 → q k = q' k)) → zfs i jl q ts n = zfs i' jl' q' ts n
  | [], _, _ => rfl
  | t :: ts, n, h => by
    have h0 := h n (Nat.le_refl n)
    rw [Nat.sub_self] at h0
    have e : (if t = 0 then Value.int (i n) else if t = 1 then Value.long (jl n) else va_rf (q n)) = (if t = 0 then Value.int (i' n) else if t = 1 then Value.long (jl' n) else va_rf (q' n)) := by
      by_cases c0 : t = 0
      · rw [if_pos c0, if_pos c0, h0.1 (by rw [c0]; rfl)]
      · rw [if_neg c0, if_neg c0]
        by_cases c1 : t = 1
        · rw [if_pos c1, if_pos c1, h0.2.1 (by rw [c1]; rfl)]
        · rw [if_neg c1, if_neg c1, h0.2.2 t rfl c0 c1]
    show _ :: _ = _ :: _
    rw [e, zfs_ext ts (n + 1) (fun k hk => by
      have h1 := h k (by omega)
      rw [show k - n = (k - (n + 1)) + 1 by omega] at h1
      simpa using h1)]
theorem zfs_set0 (i : Nat → Int32) (jl : Nat → Int64) (q : Nat → Option Nat) (v : Int32) : ∀ (ts : List Nat) (n k : Nat), ts[k]? = some 0 → (zfs i jl q ts n).set k (.int v) = zfs (fun x => if x = n + k then v else i x) jl q ts n
  | [], _, _, h => by simp at h
  | t :: ts, n, 0, h => by
    have h2 : t = 0 := by simpa using h
    subst h2
    show _ :: _ = _ :: _
    rw [zfs_ext (i := i) (i' := fun x => if x = n + 0 then v else i x) (jl := jl) (jl' := jl) (q := q) (q' := q) ts (n + 1) (fun k hk => ⟨fun _ => by rw [if_neg (by omega)], fun _ => rfl, fun _ _ _ _ => rfl⟩)]
    simp
  | t :: ts, n, k + 1, h => by
    have h2 : ts[k]? = some 0 := by simpa using h
    have e := zfs_set0 i jl q v ts (n + 1) k h2
    show _ :: (zfs i jl q ts (n + 1)).set k (.int v) = _ :: _
    rw [e, show n + (k + 1) = n + 1 + k by omega]
    simp [show ¬ (n = n + 1 + k) by omega]
theorem zfs_set1 (i : Nat → Int32) (jl : Nat → Int64) (q : Nat → Option Nat) (v : Int64) : ∀ (ts : List Nat) (n k : Nat), ts[k]? = some 1 → (zfs i jl q ts n).set k (.long v) = zfs i (fun x => if x = n + k then v else jl x) q ts n
  | [], _, _, h => by simp at h
  | t :: ts, n, 0, h => by
    have h2 : t = 1 := by simpa using h
    subst h2
    show _ :: _ = _ :: _
    rw [zfs_ext (i := i) (i' := i) (jl := jl) (jl' := fun x => if x = n + 0 then v else jl x) (q := q) (q' := q) ts (n + 1) (fun k hk => ⟨fun _ => rfl, fun _ => by rw [if_neg (by omega)], fun _ _ _ _ => rfl⟩)]
    simp
  | t :: ts, n, k + 1, h => by
    have h2 : ts[k]? = some 1 := by simpa using h
    have e := zfs_set1 i jl q v ts (n + 1) k h2
    show _ :: (zfs i jl q ts (n + 1)).set k (.long v) = _ :: _
    rw [e, show n + (k + 1) = n + 1 + k by omega]
    simp [show ¬ (n = n + 1 + k) by omega]
theorem zfs_set2 (i : Nat → Int32) (jl : Nat → Int64) (q : Nat → Option Nat) (v : Option Nat) : ∀ (ts : List Nat) (n k : Nat), ts[k]? = some 2 → (zfs i jl q ts n).set k (va_rf v) = zfs i jl (fun x => if x = n + k then v else q x) ts n
  | [], _, _, h => by simp at h
  | t :: ts, n, 0, h => by
    have h2 : t = 2 := by simpa using h
    subst h2
    show _ :: _ = _ :: _
    rw [zfs_ext (i := i) (i' := i) (jl := jl) (jl' := jl) (q := q) (q' := fun x => if x = n + 0 then v else q x) ts (n + 1) (fun k hk => ⟨fun _ => rfl, fun _ => rfl, fun _ _ _ _ => by rw [if_neg (by omega)]⟩)]
    simp
  | t :: ts, n, k + 1, h => by
    have h2 : ts[k]? = some 2 := by simpa using h
    have e := zfs_set2 i jl q v ts (n + 1) k h2
    show _ :: (zfs i jl q ts (n + 1)).set k (va_rf v) = _ :: _
    rw [e, show n + (k + 1) = n + 1 + k by omega]
    simp [show ¬ (n = n + 1 + k) by omega]
/-- a cell by its kind -/
def zE (dA : Nat → ClassId) (kd : Nat) (i : Nat → Int32) (jl : Nat → Int64) (q : Nat → Option Nat) : va_E :=
  if zb kd = 14 then .inl (dA 14, zn kd, .inr (.inl jl)) else if zb kd = 16 then .inl (dA 16, zn kd, .inr (.inr (.inr (.inr q)))) else if zb kd < 12 then .inr (zb kd, zfs i jl q (ztys (zb kd)) 0) else .inl (dA (zb kd), zn kd, .inl i)
theorem zE_o {dA : Nat → ClassId} {kd c : Nat} {i : Nat → Int32} {jl : Nat → Int64} {q : Nat → Option Nat} (h : zb kd = c) (hc : c < 12) : zE dA kd i jl q = .inr (c, zfs i jl q (ztys c) 0) := by
  subst h
  rw [zE, if_neg (by omega), if_neg (by omega), if_pos hc]
theorem zE_i {dA : Nat → ClassId} {kd c : Nat} {i : Nat → Int32} {jl : Nat → Int64} {q : Nat → Option Nat} (h : zb kd = c) (hc : c = 12 ∨ c = 13 ∨ c = 15) : zE dA kd i jl q = .inl (dA c, zn kd, .inl i) := by
  subst h
  rw [zE, if_neg (by omega), if_neg (by omega), if_neg (by omega)]
theorem zE_l {dA : Nat → ClassId} {kd : Nat} {i : Nat → Int32} {jl : Nat → Int64} {q : Nat → Option Nat} (h : zb kd = 14) : zE dA kd i jl q = .inl (dA 14, zn kd, .inr (.inl jl)) := by
  rw [zE, if_pos h]
theorem zE_q {dA : Nat → ClassId} {kd : Nat} {i : Nat → Int32} {jl : Nat → Int64} {q : Nat → Option Nat} (h : zb kd = 16) : zE dA kd i jl q = .inl (dA 16, zn kd, .inr (.inr (.inr (.inr q)))) := by
  rw [zE, if_neg (by omega), if_pos h]
def zF (dA : Nat → ClassId) (kd : Nat → Nat) (σ : zS) : Nat → va_E := fun a => zE dA (kd a) (σ.1 a) (σ.2.1 a) (σ.2.2 a)
def zW (dA : Nat → ClassId) (L : List Nat) (kd : Nat → Nat) (σ : zS) : va_W := va_pl L (zF dA kd σ)
theorem zW_at {dA : Nat → ClassId} {L : List Nat} {kd : Nat → Nat} (σ : zS) {a : Nat} (h : a ∈ L) : ∃ k : Nat, (zW dA L kd σ)[k]? = some (a, zF dA kd σ a) := by
  obtain ⟨k, hk⟩ := va_pl_get (X := []) (f := zF dA kd σ) h
  exact ⟨k, hk⟩
theorem zR_at {dA : Nat → ClassId} {L : List Nat} {kd : Nat → Nat} (rs : va_W) (σ : zS) {a : Nat} (h : a ∈ L) : ∃ k : Nat, (rs ++ zW dA L kd σ)[k]? = some (a, zF dA kd σ a) := va_pl_get (X := rs) (f := zF dA kd σ) h
theorem zR_set {rs : va_W} {dA : Nat → ClassId} {L : List Nat} {kd : Nat → Nat} {σ σ' : zS} {A : Nat → Prop} {a k : Nat} {e : va_E} (hD : va_D A (rs ++ zW dA L kd σ)) (h : a ∈ L) (hk : (rs ++ zW dA L kd σ)[k]? = some (a, zF dA kd σ a)) (h1 : zF dA kd σ' a = e) (h2 : ∀ b, ¬ b = a → zF dA kd σ' b = zF dA kd σ b) : (rs ++ zW dA L kd σ).set k (a, e) = rs ++ zW dA L kd σ' := by
  have q := va_pl_set (X := rs) (e := e) (f := zF dA kd σ) hD h hk
  refine Eq.trans q ?_
  refine congrArg (fun z => rs ++ z) (va_pl_congr (fun b => ?_))
  by_cases hb : b = a
  · subst hb
    rw [h1]
    simp [va_up]
  · rw [h2 b hb]
    simp [va_up, hb]
theorem zP_suf {D : va_G} {cl : List vw_C} {rs ws : va_W} {H : Heap} (h : va_P D cl (rs ++ ws) H) : va_P D cl ws H := fun k q hk => h (rs.length + k) q (by rw [List.getElem?_append_right (by omega), Nat.add_sub_cancel_left]; exact hk)
theorem zD_suf {A : Nat → Prop} {rs ws : va_W} (h : va_D A (rs ++ ws)) : va_D A ws := by
  have key : ∀ (k : Nat) (q : Nat × va_E), ws[k]? = some q → (rs ++ ws)[rs.length + k]? = some q := fun k q hk => by rw [List.getElem?_append_right (by omega), Nat.add_sub_cancel_left]; exact hk
  exact ⟨fun i j p q hi hj e => by have := h.1 _ _ p q (key i p hi) (key j q hj) e; omega, fun k q hk => h.2 _ q (key k q hk)⟩
theorem zR_any {rs : va_W} {dA : Nat → ClassId} {L : List Nat} {kd : Nat → Nat} {σ σ' : zS} {A : Nat → Prop} (h : va_D A (rs ++ zW dA L kd σ)) : va_D A (rs ++ zW dA L kd σ') := by
  have key : ∀ (k : Nat) (p : Nat × va_E), (rs ++ zW dA L kd σ')[k]? = some p → ∃ p', (rs ++ zW dA L kd σ)[k]? = some p' ∧ p'.1 = p.1 := fun k p hk => by
    rcases Nat.lt_or_ge k rs.length with hl | hl
    · rw [List.getElem?_append_left hl] at hk ⊢
      exact ⟨p, hk, rfl⟩
    · rw [List.getElem?_append_right hl] at hk ⊢
      have e : ∀ (τ : zS), (zW dA L kd τ)[k - rs.length]? = (L[k - rs.length]?).map (fun a => (a, zF dA kd τ a)) := fun τ => by simp [zW, va_pl]
      rw [e] at hk ⊢
      obtain ⟨x, hx, rfl⟩ := Option.map_eq_some_iff.mp hk
      exact ⟨(x, zF dA kd σ x), by rw [hx]; rfl, rfl⟩
  refine ⟨fun i j p q hi hj e => ?_, fun k q hk => ?_⟩
  · obtain ⟨p', h1, h2⟩ := key i p hi
    obtain ⟨q', h3, h4⟩ := key j q hj
    exact h.1 i j p' q' h1 h3 (by rw [h2, h4, e])
  · obtain ⟨q', h3, h4⟩ := key k q hk
    rw [← h4]
    exact h.2 k q' h3
/-- what a callee with the typed world gives back stands beside the raw cells -/
theorem zR_back {D : va_G} {cl : List vw_C} {rs : va_W} {dA : Nat → ClassId} {L L2 : List Nat} {kd kd2 : Nat → Nat} {σ σ2 : zS} {A : Nat → Prop} {H H1 : Heap} (hP : va_P D cl (rs ++ zW dA L kd σ) H) (hD : va_D A (rs ++ zW dA L kd σ)) (hk : ∀ q : Nat, q < H.size → ¬ va_A (zW dA L kd σ) H.size q → H1[q]? = H[q]?) (hP1 : va_P D cl (zW dA L2 kd2 σ2) H1) : va_P D cl (rs ++ zW dA L2 kd2 σ2) H1 := by
  intro k p hp
  rcases Nat.lt_or_ge k rs.length with hl | hl
  · rw [List.getElem?_append_left hl] at hp
    have hp2 : (rs ++ zW dA L kd σ)[k]? = some p := by rw [List.getElem?_append_left hl]; exact hp
    have h0 := hP k p hp2
    have hlt := va_at.lt h0
    refine va_at.kept h0 (hk p.1 hlt ?_)
    rintro (⟨j, e, hj⟩ | hj)
    · have hj2 : (rs ++ zW dA L kd σ)[rs.length + j]? = some (p.1, e) := by rw [List.getElem?_append_right (by omega), Nat.add_sub_cancel_left]; exact hj
      have := hD.1 k _ p _ hp2 hj2 rfl
      omega
    · omega
  · rw [List.getElem?_append_right hl] at hp
    exact hP1 _ p hp
theorem zA_sub {A0 : Nat → Prop} {ws : va_W} {H0 H : Heap} {locs : List Loc} (hD : va_D A0 ws) (hS : va_S A0 H0 H locs) (hA : ∀ q, H0.size ≤ q → A0 q) : ∀ q, va_A ws H.size q → A0 q := by
  intro q h
  rcases h with ⟨k, e, hk⟩ | h
  · exact hD.2 k (q, e) hk
  · exact hA q (Nat.le_trans hS.1 h)
/-- the array classes, by the kinds' numbers -/
def zty (dA : Nat → ClassId) : List (ClassId × FieldType) := [(dA 12, .byte), (dA 13, .int), (dA 14, .long), (dA 15, .boolean), (dA 16, .object RX1)]
/-- links of nest mates -/
def zisN : Cond → Bool
  | .fieldLinkNest _ _ _ _ _ _ => true
  | .methodLinkNest _ _ _ _ => true
  | _ => false
def zN (U : State) : Prop := ∀ w ∈ tables_1, zisN w = true → va_Nw w U
theorem zN.warm {s U : State} (hW : s.WarmedH U.vm) (h : zN s) : zN U := by
  intro w hw hn
  have h1 := h w hw hn
  cases w <;> first | (exact va_Nw.warmF hW h1) | (exact va_Nw.warmM hW h1) | (simp [zisN] at hn)
theorem zN.same {u U : State} (hv : u.vm = U.vm) (h : zN u) : zN U := by
  intro w hw hn
  have h1 := h w hw hn
  cases w <;> first | (exact va_Nw.same rfl hv h1) | (simp [zisN] at hn)
/-- what stands outside every world: the texts and the static row that the class reads -/
def zstr : Nat → String := fun i => if i = 0 then "mouth place rains dries one two three storm prize seed if then else rain far tale month flow length won which above " else ";=+-*/<()"
def zstrI : Nat → Nat := fun i => if i = 0 then 27 else 66
def zlen : List Nat := [116, 9]
def zbyt : List (List Int32) := [[109, 111, 117, 116, 104, 32, 112, 108, 97, 99, 101, 32, 114, 97, 105, 110, 115, 32, 100, 114, 105, 101, 115, 32, 111, 110, 101, 32, 116, 119, 111, 32, 116, 104, 114, 101, 101, 32, 115, 116, 111, 114, 109, 32, 112, 114, 105, 122, 101, 32, 115, 101, 101, 100, 32, 105, 102, 32, 116, 104, 101, 110, 32, 101, 108, 115, 101, 32, 114, 97, 105, 110, 32, 102, 97, 114, 32, 116, 97, 108, 101, 32, 109, 111, 110, 116, 104, 32, 102, 108, 111, 119, 32, 108, 101, 110, 103, 116, 104, 32, 119, 111, 110, 32, 119, 104, 105, 99, 104, 32, 97, 98, 111, 118, 101, 32], [59, 61, 43, 45, 42, 47, 60, 40, 41]]
def zunt : Nat → Value := fun j => .int ([0, -1, 1, 4, 2].getD j 0)
def zEX (dA : Nat → ClassId) (A : Nat → Prop) (U : State) (H : Heap) : Prop :=
  va_Z "SourceDispute$Told" "UNTOLD_LAWS" "[I" (.ref (dA 104)) A U H ∧ va_T .int (dA 104) 5 zunt A U H ∧ vk_S 2 zlen zbyt (fun i => dA (100 + i)) (fun i => dA (102 + i)) A U H ∧ (∀ i, i < 2 → vk_R RX8 (zstrI i) (zstr i) (dA (100 + i)) U) ∧ va_Z "java/lang/String" "COMPACT_STRINGS" "Z" (.int 1) A U H ∧ va_Zq "jdk/internal/util/Preconditions" "SIOOBE_FORMATTER" "Ljava/util/function/BiFunction;" A U H ∧ va_AO "SourceDispute$Course" U
theorem zEX.warm {dA : Nat → ClassId} {A : Nat → Prop} {s U : State} {H : Heap} (hW : s.WarmedH U.vm) (h : zEX dA A s H) : zEX dA A U H := by
  obtain ⟨h1, h2, h3, h4, h5, h6, h7⟩ := h
  exact ⟨h1.moved hW.alike, h2.moved hW.alike, h3.moved hW.alike, fun i hi => (h4 i hi).warm hW, h5.moved hW.alike, h6.moved hW.alike, h7.moved hW.alike⟩
theorem zEX.same {dA : Nat → ClassId} {A : Nat → Prop} {u U : State} {H : Heap} (hv : U.vm = u.vm) (h : zEX dA A u H) : zEX dA A U H := by
  obtain ⟨h1, h2, h3, h4, h5, h6, h7⟩ := h
  have ha : u.vm.Alike U.vm := by rw [hv]; exact Vm.Alike.refl _
  exact ⟨h1.moved ha, h2.moved ha, h3.moved ha, fun i hi => (h4 i hi).same hv, h5.moved ha, h6.moved ha, h7.moved ha⟩
theorem zEX.kept {dA : Nat → ClassId} {A : Nat → Prop} {U : State} {H H1 : Heap} (h : zEX dA A U H) (hq : ∀ a : Nat, a < H.size → ¬ A a → H1[a]? = H[a]?) : zEX dA A U H1 := by
  obtain ⟨h1, h2, h3, h4, h5, h6, h7⟩ := h
  exact ⟨h1.kept hq, h2.kept hq, h3.kept hq, h4, h5.kept hq, h6.kept hq, h7⟩
theorem zEX.narrow {dA : Nat → ClassId} {A B : Nat → Prop} {U : State} {H : Heap} (h : zEX dA A U H) (hAB : ∀ q, B q → A q) : zEX dA B U H := by
  obtain ⟨h1, h2, h3, h4, h5, h6, h7⟩ := h
  exact ⟨h1.narrow hAB, h2.narrow hAB, h3.narrow hAB, h4, h5.narrow hAB, h6.narrow hAB, h7⟩
abbrev zD2 : Type := (Nat → ClassId) × (Nat → Nat → Nat) × (Nat → ClassId)
/-- the world stands -/
def zB (d : zD2) (L : List Nat) (kd : Nat → Nat) (σ : zS) (U : State) : Prop := va_P (d.1, d.2.1) vwCl (zW d.2.2 L kd σ) U.heap ∧ va_K (d.1, d.2.1) vwCl (zty d.2.2) U
def zPc (d : zD2) (L : List Nat) (kd : Nat → Nat) (σ : zS) (sz : Nat) (U : State) : Prop := U.heap.size = sz ∧ zB d L kd σ U ∧ zN U ∧ va_D (fun _ => True) (zW d.2.2 L kd σ) ∧ zEX d.2.2 (va_A (zW d.2.2 L kd σ) sz) U U.heap
def zQc (d : zD2) (L : List Nat) (kd : Nat → Nat) (σ : zS) (sz : Nat) (σ' : zS) (t : State) : Prop := zB d L kd σ' t ∧ va_D (va_A (zW d.2.2 L kd σ) sz) (zW d.2.2 L kd σ')
/-- contracts by what is answered: a whole number, a long, a reference, nothing -/
def zMi (l : Launch) (y : MethodName) (ws : List Cond) (n : Nat) (av : List Value) (d : zD2) (L : List Nat) (kd : Nat → Nat) (σ : zS) (post : Int32 → zS → Prop) : Prop := ∀ sz : Nat, Met l y ws (k2_rm n (100 * n)) (va_Pc av (zPc d L kd σ sz)) (va_Qi post (zQc d L kd σ sz) (va_A (zW d.2.2 L kd σ) sz)) 0 0 (va_A (zW d.2.2 L kd σ) sz)
def zMl (l : Launch) (y : MethodName) (ws : List Cond) (n : Nat) (av : List Value) (d : zD2) (L : List Nat) (kd : Nat → Nat) (σ : zS) (post : Int64 → zS → Prop) : Prop := ∀ sz : Nat, Met l y ws (k2_rm n (100 * n)) (va_Pc av (zPc d L kd σ sz)) (va_Ql post (zQc d L kd σ sz) (va_A (zW d.2.2 L kd σ) sz)) 0 0 (va_A (zW d.2.2 L kd σ) sz)
def zMv (l : Launch) (y : MethodName) (ws : List Cond) (n : Nat) (av : List Value) (d : zD2) (L : List Nat) (kd : Nat → Nat) (σ : zS) (post : zS → Prop) : Prop := ∀ sz : Nat, Met l y ws (k2_rm n (100 * n)) (va_Pc av (zPc d L kd σ sz)) (va_Qv post (zQc d L kd σ sz) (va_A (zW d.2.2 L kd σ) sz)) 0 0 (va_A (zW d.2.2 L kd σ) sz)
def zX (d : zD2) (L : List Nat) (kd : Nat → Nat) (A : Nat → Prop) (nL : Nat) (p : Program) (s : State) (m : MethodId) (args : Array Value) (c : Code) (cc : ByteArray) (own : String) : Prop :=
  p.tables.exec = Jvm.exec ∧ c.code = cc ∧ c.maxLocals = nL ∧ s.vm.findClass own = some m.cls ∧ (∀ w ∈ zWL, w.before args s = true) ∧ va_K (d.1, d.2.1) vwCl (zty d.2.2) s ∧ zN s ∧ True ∧ (∀ q, s.heap.size ≤ q → A q) ∧ zEX d.2.2 A s s.heap
/-- from here (pc, locals, stack, contents) the machine comes to Q; cs cells of sl slots are made already -/
def zGc (rs : va_W) (cs sl : Nat) (d : zD2) (L : List Nat) (kd : Nat → Nat) (A : Nat → Prop) (nL : Nat) (p : Program) (l : Launch) (e : Env) (R : Room) (s : State) (m : MethodId) (args : Array Value) (below : List Frame) (meth : Method) (c : Code) (Q : State → Prop) (σ : zS) (pc : Nat) (lv : List (Nat × Value)) (st : List Value) : Prop :=
  cs ≤ R.cells ∧ sl ≤ R.slots → ∀ (H : Heap) (locs : List Loc) (ls : Array Slot), va_P (d.1, d.2.1) vwCl (rs ++ zW d.2.2 L kd σ) H → va_D A (rs ++ zW d.2.2 L kd σ) → va_S A s.heap H locs → lv_has ls nL lv → W p l e R s m args below meth c H locs cs sl Q (F0 m pc ls st)
abbrev zG (d : zD2) (L : List Nat) (kd : Nat → Nat) (A : Nat → Prop) (nL : Nat) (p : Program) (l : Launch) (e : Env) (R : Room) (s : State) (m : MethodId) (args : Array Value) (below : List Frame) (meth : Method) (c : Code) (Q : State → Prop) (σ : zS) (pc : Nat) (lv : List (Nat × Value)) (st : List Value) : Prop := zGc [] 0 0 d L kd A nL p l e R s m args below meth c Q σ pc lv st
def zT (L : List Nat) (kd : Nat → Nat) (a k : Nat) : Prop := a ∈ L ∧ kd a = k
section ZROWS
variable {rs : va_W} {cs sl : Nat} {d : zD2} {L : List Nat} {kd : Nat → Nat} {A : Nat → Prop} {nL : Nat} {p : Program} {l : Launch} {e : Env} {R : Room} {s : State} {m : MethodId} {args : Array Value} {below : List Frame} {meth : Method} {c : Code} {cc : ByteArray} {own : String} {Q : State → Prop} {σ : zS} {pc : Nat} {lv : List (Nat × Value)} {st : List Value}
theorem zb_rng (x : Int32) : -2147483648 ≤ x.toInt ∧ x.toInt ≤ 2147483647 := ⟨by have := Int32.le_toInt x; omega, by have := Int32.toInt_lt x; omega⟩
theorem zb_add {x y : Int32} (h1 : -2147483648 ≤ x.toInt + y.toInt) (h2 : x.toInt + y.toInt ≤ 2147483647) : (x + y).toInt = x.toInt + y.toInt := by
  rw [Int32.toInt_add, Int.bmod_eq_of_le (by omega) (by omega)]
theorem zb_sub {x y : Int32} (h1 : -2147483648 ≤ x.toInt - y.toInt) (h2 : x.toInt - y.toInt ≤ 2147483647) : (x - y).toInt = x.toInt - y.toInt := by
  rw [Int32.toInt_sub, Int.bmod_eq_of_le (by omega) (by omega)]
theorem zb_in {x : Int32} {n : Nat} (h0 : 0 ≤ x.toInt) (h1 : x.toInt < n) : vp_in x n := vp_in_iff.mpr ⟨h0, h1⟩
theorem zg_iconst (X : zX d L kd A nL p s m args c cc own) {n : Int} (z : Int) (hdg : decode cc pc = .ok (.iconst n, 1)) (hz : (Int32.ofInt n).toInt = z) (k : ∀ v : Int32, v = Int32.ofInt n → v.toInt = z → zGc rs cs sl d L kd A nL p l e R s m args below meth c Q σ (pc + 1) lv (.int v :: st)) : zGc rs cs sl d L kd A nL p l e R s m args below meth c Q σ pc lv st := fun hrm H locs ls hP hD hS hl => lv_iconst X.1 X.2.1 hdg rfl (k _ rfl hz hrm H locs ls hP hD hS hl)
theorem zg_bipush (X : zX d L kd A nL p s m args c cc own) {n : Int} (z : Int) (hdg : decode cc pc = .ok (.bipush n, 2)) (hz : ((Int8.ofInt n).toInt32).toInt = z) (k : ∀ v : Int32, v = (Int8.ofInt n).toInt32 → v.toInt = z → zGc rs cs sl d L kd A nL p l e R s m args below meth c Q σ (pc + 2) lv (.int v :: st)) : zGc rs cs sl d L kd A nL p l e R s m args below meth c Q σ pc lv st := fun hrm H locs ls hP hD hS hl => lv_bipush X.1 X.2.1 hdg rfl (k _ rfl hz hrm H locs ls hP hD hS hl)
theorem zg_sipush (X : zX d L kd A nL p s m args c cc own) {n : Int} (z : Int) (hdg : decode cc pc = .ok (.sipush n, 3)) (hz : ((Int16.ofInt n).toInt32).toInt = z) (k : ∀ v : Int32, v = (Int16.ofInt n).toInt32 → v.toInt = z → zGc rs cs sl d L kd A nL p l e R s m args below meth c Q σ (pc + 3) lv (.int v :: st)) : zGc rs cs sl d L kd A nL p l e R s m args below meth c Q σ pc lv st := fun hrm H locs ls hP hD hS hl => lv_sipush X.1 X.2.1 hdg rfl (k _ rfl hz hrm H locs ls hP hD hS hl)
theorem zg_ldc (X : zX d L kd A nL p s m args c cc own) {index : Nat} {v : Int32} (z : Int) (hc : Cond.constant own index v ∈ zWL) (hdg : decode cc pc = .ok (.ldc index, 2)) (hz : v.toInt = z) (k : ∀ v : Int32, v.toInt = z → zGc rs cs sl d L kd A nL p l e R s m args below meth c Q σ (pc + 2) lv (.int v :: st)) : zGc rs cs sl d L kd A nL p l e R s m args below meth c Q σ pc lv st := fun hrm H locs ls hP hD hS hl => lv_ldc X.1 X.2.1 X.2.2.2.1 (X.2.2.2.2.1 _ hc) hdg (k _ hz hrm H locs ls hP hD hS hl)
theorem zg_lconst (X : zX d L kd A nL p s m args c cc own) {n : Fin 2} (hdg : decode cc pc = .ok (.lconst n, 1)) (k : ∀ v : Int64, v = Int64.ofNat n → zGc rs cs sl d L kd A nL p l e R s m args below meth c Q σ (pc + 1) lv (.long v :: st)) : zGc rs cs sl d L kd A nL p l e R s m args below meth c Q σ pc lv st := fun hrm H locs ls hP hD hS hl => lv_lconst X.1 X.2.1 hdg rfl (k _ rfl hrm H locs ls hP hD hS hl)
theorem zg_ldc2 (X : zX d L kd A nL p s m args c cc own) {index : Nat} {v : Int64} (hc : Cond.constantLong own index v ∈ zWL) (hdg : decode cc pc = .ok (.ldc2_w index, 3)) (k : ∀ w : Int64, w = v → zGc rs cs sl d L kd A nL p l e R s m args below meth c Q σ (pc + 3) lv (.long w :: st)) : zGc rs cs sl d L kd A nL p l e R s m args below meth c Q σ pc lv st := fun hrm H locs ls hP hD hS hl => lv_ldc2 X.1 X.2.1 X.2.2.2.1 (X.2.2.2.2.1 _ hc) hdg (k _ rfl hrm H locs ls hP hD hS hl)
theorem zg_iload (X : zX d L kd A nL p s m args c cc own) {i : Nat} {x : Int32} (j : Nat) (hj : lv[j]? = some (i, .int x)) (hdg : decode cc pc = .ok (.iload i, 2)) (k : zGc rs cs sl d L kd A nL p l e R s m args below meth c Q σ (pc + 2) lv (.int x :: st)) : zGc rs cs sl d L kd A nL p l e R s m args below meth c Q σ pc lv st := fun hrm H locs ls hP hD hS hl => lv_iload X.1 X.2.1 hdg (lv_at hl j hj) (k hrm H locs ls hP hD hS hl)
theorem zg_iload_n (X : zX d L kd A nL p s m args c cc own) {q : Fin 4} {x : Int32} (j : Nat) (hj : lv[j]? = some ((q : Nat), .int x)) (hdg : decode cc pc = .ok (.iload_n q, 1)) (k : zGc rs cs sl d L kd A nL p l e R s m args below meth c Q σ (pc + 1) lv (.int x :: st)) : zGc rs cs sl d L kd A nL p l e R s m args below meth c Q σ pc lv st := fun hrm H locs ls hP hD hS hl => lv_iload_n X.1 X.2.1 hdg rfl (lv_at hl j hj) (k hrm H locs ls hP hD hS hl)
theorem zg_lload (X : zX d L kd A nL p s m args c cc own) {i : Nat} {x : Int64} (j : Nat) (hj : lv[j]? = some (i, .long x)) (hdg : decode cc pc = .ok (.lload i, 2)) (k : zGc rs cs sl d L kd A nL p l e R s m args below meth c Q σ (pc + 2) lv (.long x :: st)) : zGc rs cs sl d L kd A nL p l e R s m args below meth c Q σ pc lv st := fun hrm H locs ls hP hD hS hl => lv_lload X.1 X.2.1 hdg (lv_at hl j hj) (k hrm H locs ls hP hD hS hl)
theorem zg_lload_n (X : zX d L kd A nL p s m args c cc own) {q : Fin 4} {x : Int64} (j : Nat) (hj : lv[j]? = some ((q : Nat), .long x)) (hdg : decode cc pc = .ok (.lload_n q, 1)) (k : zGc rs cs sl d L kd A nL p l e R s m args below meth c Q σ (pc + 1) lv (.long x :: st)) : zGc rs cs sl d L kd A nL p l e R s m args below meth c Q σ pc lv st := fun hrm H locs ls hP hD hS hl => lv_lload_n X.1 X.2.1 hdg rfl (lv_at hl j hj) (k hrm H locs ls hP hD hS hl)
theorem zg_aload (X : zX d L kd A nL p s m args c cc own) {i : Nat} {x : Nat} (j : Nat) (hj : lv[j]? = some (i, .ref x)) (hdg : decode cc pc = .ok (.aload i, 2)) (k : zGc rs cs sl d L kd A nL p l e R s m args below meth c Q σ (pc + 2) lv (.ref x :: st)) : zGc rs cs sl d L kd A nL p l e R s m args below meth c Q σ pc lv st := fun hrm H locs ls hP hD hS hl => lv_aload X.1 X.2.1 hdg (lv_at hl j hj) (k hrm H locs ls hP hD hS hl)
theorem zg_aload_n (X : zX d L kd A nL p s m args c cc own) {q : Fin 4} {x : Nat} (j : Nat) (hj : lv[j]? = some ((q : Nat), .ref x)) (hdg : decode cc pc = .ok (.aload_n q, 1)) (k : zGc rs cs sl d L kd A nL p l e R s m args below meth c Q σ (pc + 1) lv (.ref x :: st)) : zGc rs cs sl d L kd A nL p l e R s m args below meth c Q σ pc lv st := fun hrm H locs ls hP hD hS hl => lv_aload_n X.1 X.2.1 hdg rfl (lv_at hl j hj) (k hrm H locs ls hP hD hS hl)
theorem zg_istore (X : zX d L kd A nL p s m args c cc own) {i : Nat} {x : Int32} (lv2 : List (Nat × Value)) (hdg : decode cc pc = .ok (.istore i, 2)) (hi : i < nL) (hl2 : (i, Value.int x) :: lv.filter (fun q => !(q.1 == i) && !(q.1 + 1 == i && q.2.category == 2)) = lv2) (k : zGc rs cs sl d L kd A nL p l e R s m args below meth c Q σ (pc + 2) lv2 st) : zGc rs cs sl d L kd A nL p l e R s m args below meth c Q σ pc lv (.int x :: st) := fun hrm H locs ls hP hD hS hl => lv_istore X.1 X.2.1 hdg hl hi hl2 (fun ls hl => k hrm H locs ls hP hD hS hl)
theorem zg_istore_n (X : zX d L kd A nL p s m args c cc own) {r : Fin 4} {x : Int32} (lv2 : List (Nat × Value)) (hdg : decode cc pc = .ok (.istore_n r, 1)) (hi : (r : Nat) < nL) (hl2 : ((r : Nat), Value.int x) :: lv.filter (fun q => !(q.1 == (r : Nat)) && !(q.1 + 1 == (r : Nat) && q.2.category == 2)) = lv2) (k : zGc rs cs sl d L kd A nL p l e R s m args below meth c Q σ (pc + 1) lv2 st) : zGc rs cs sl d L kd A nL p l e R s m args below meth c Q σ pc lv (.int x :: st) := fun hrm H locs ls hP hD hS hl => lv_istore_n X.1 X.2.1 hdg rfl hl hi hl2 (fun ls hl => k hrm H locs ls hP hD hS hl)
theorem zg_astore (X : zX d L kd A nL p s m args c cc own) {i : Nat} {x : Nat} (lv2 : List (Nat × Value)) (hdg : decode cc pc = .ok (.astore i, 2)) (hi : i < nL) (hl2 : (i, Value.ref x) :: lv.filter (fun q => !(q.1 == i) && !(q.1 + 1 == i && q.2.category == 2)) = lv2) (k : zGc rs cs sl d L kd A nL p l e R s m args below meth c Q σ (pc + 2) lv2 st) : zGc rs cs sl d L kd A nL p l e R s m args below meth c Q σ pc lv (.ref x :: st) := fun hrm H locs ls hP hD hS hl => lv_astore X.1 X.2.1 hdg hl hi hl2 (fun ls hl => k hrm H locs ls hP hD hS hl)
theorem zg_astore_n (X : zX d L kd A nL p s m args c cc own) {r : Fin 4} {x : Nat} (lv2 : List (Nat × Value)) (hdg : decode cc pc = .ok (.astore_n r, 1)) (hi : (r : Nat) < nL) (hl2 : ((r : Nat), Value.ref x) :: lv.filter (fun q => !(q.1 == (r : Nat)) && !(q.1 + 1 == (r : Nat) && q.2.category == 2)) = lv2) (k : zGc rs cs sl d L kd A nL p l e R s m args below meth c Q σ (pc + 1) lv2 st) : zGc rs cs sl d L kd A nL p l e R s m args below meth c Q σ pc lv (.ref x :: st) := fun hrm H locs ls hP hD hS hl => lv_astore_n X.1 X.2.1 hdg rfl hl hi hl2 (fun ls hl => k hrm H locs ls hP hD hS hl)
theorem zg_lstore (X : zX d L kd A nL p s m args c cc own) {i : Nat} {x : Int64} (lv2 : List (Nat × Value)) (hdg : decode cc pc = .ok (.lstore i, 2)) (hi : i + 1 < nL) (hl2 : (i, Value.long x) :: lv.filter (fun q => !(q.1 == i) && (!(q.1 == i + 1) && !(q.1 + 1 == i && q.2.category == 2))) = lv2) (k : zGc rs cs sl d L kd A nL p l e R s m args below meth c Q σ (pc + 2) lv2 st) : zGc rs cs sl d L kd A nL p l e R s m args below meth c Q σ pc lv (.long x :: st) := fun hrm H locs ls hP hD hS hl => lv_lstore X.1 X.2.1 hdg hl hi hl2 (fun ls hl => k hrm H locs ls hP hD hS hl)
theorem zg_lstore_n (X : zX d L kd A nL p s m args c cc own) {r : Fin 4} {x : Int64} (lv2 : List (Nat × Value)) (hdg : decode cc pc = .ok (.lstore_n r, 1)) (hi : (r : Nat) + 1 < nL) (hl2 : ((r : Nat), Value.long x) :: lv.filter (fun q => !(q.1 == (r : Nat)) && (!(q.1 == (r : Nat) + 1) && !(q.1 + 1 == (r : Nat) && q.2.category == 2))) = lv2) (k : zGc rs cs sl d L kd A nL p l e R s m args below meth c Q σ (pc + 1) lv2 st) : zGc rs cs sl d L kd A nL p l e R s m args below meth c Q σ pc lv (.long x :: st) := fun hrm H locs ls hP hD hS hl => lv_lstore_n X.1 X.2.1 hdg rfl hl hi hl2 (fun ls hl => k hrm H locs ls hP hD hS hl)
theorem zg_iinc (X : zX d L kd A nL p s m args c cc own) {i : Nat} {n : Int} {x : Int32} (z : Int) (lv2 : Int32 → List (Nat × Value)) (j : Nat) (hdg : decode cc pc = .ok (.iinc i n, 3)) (hj : lv[j]? = some (i, .int x)) (hi : i < nL) (hz : (Int32.ofInt n).toInt = z) (h1 : -2147483648 ≤ x.toInt + z) (h2 : x.toInt + z ≤ 2147483647) (hl2 : ∀ v : Int32, (i, Value.int v) :: lv.filter (fun q => !(q.1 == i) && !(q.1 + 1 == i && q.2.category == 2)) = lv2 v) (k : ∀ v : Int32, v = x + Int32.ofInt n → v.toInt = x.toInt + z → zGc rs cs sl d L kd A nL p l e R s m args below meth c Q σ (pc + 3) (lv2 v) st) : zGc rs cs sl d L kd A nL p l e R s m args below meth c Q σ pc lv st := fun hrm H locs ls hP hD hS hl => lv_iinc X.1 X.2.1 hdg hl hj rfl hi (hl2 _) (fun ls hl => k _ rfl (by rw [zb_add (by omega) (by omega), hz]) hrm H locs ls hP hD hS hl)
theorem zg_iincW (X : zX d L kd A nL p s m args c cc own) {i : Nat} {n : Int} {x : Int32} (lv2 : Int32 → List (Nat × Value)) (j : Nat) (hdg : decode cc pc = .ok (.iinc i n, 3)) (hj : lv[j]? = some (i, .int x)) (hi : i < nL) (hl2 : ∀ v : Int32, (i, Value.int v) :: lv.filter (fun q => !(q.1 == i) && !(q.1 + 1 == i && q.2.category == 2)) = lv2 v) (k : ∀ v : Int32, v = x + Int32.ofInt n → zGc rs cs sl d L kd A nL p l e R s m args below meth c Q σ (pc + 3) (lv2 v) st) : zGc rs cs sl d L kd A nL p l e R s m args below meth c Q σ pc lv st := fun hrm H locs ls hP hD hS hl => lv_iinc X.1 X.2.1 hdg hl hj rfl hi (hl2 _) (fun ls hl => k _ rfl hrm H locs ls hP hD hS hl)
theorem zg_iadd (X : zX d L kd A nL p s m args c cc own) {x y : Int32} (hdg : decode cc pc = .ok (.iadd, 1)) (h1 : -2147483648 ≤ x.toInt + y.toInt) (h2 : x.toInt + y.toInt ≤ 2147483647) (k : ∀ v : Int32, v = x + y → v.toInt = x.toInt + y.toInt → zGc rs cs sl d L kd A nL p l e R s m args below meth c Q σ (pc + 1) lv (.int v :: st)) : zGc rs cs sl d L kd A nL p l e R s m args below meth c Q σ pc lv (.int y :: .int x :: st) := fun hrm H locs ls hP hD hS hl => lv_iadd X.1 X.2.1 hdg (k _ rfl (zb_add h1 h2) hrm H locs ls hP hD hS hl)
theorem zg_isub (X : zX d L kd A nL p s m args c cc own) {x y : Int32} (hdg : decode cc pc = .ok (.isub, 1)) (h1 : -2147483648 ≤ x.toInt - y.toInt) (h2 : x.toInt - y.toInt ≤ 2147483647) (k : ∀ v : Int32, v = x - y → v.toInt = x.toInt - y.toInt → zGc rs cs sl d L kd A nL p l e R s m args below meth c Q σ (pc + 1) lv (.int v :: st)) : zGc rs cs sl d L kd A nL p l e R s m args below meth c Q σ pc lv (.int y :: .int x :: st) := fun hrm H locs ls hP hD hS hl => lv_isub X.1 X.2.1 hdg (k _ rfl (zb_sub h1 h2) hrm H locs ls hP hD hS hl)
theorem zg_iaddW (X : zX d L kd A nL p s m args c cc own) {x y : Int32} (hdg : decode cc pc = .ok (.iadd, 1)) (k : ∀ v : Int32, v = x + y → zGc rs cs sl d L kd A nL p l e R s m args below meth c Q σ (pc + 1) lv (.int v :: st)) : zGc rs cs sl d L kd A nL p l e R s m args below meth c Q σ pc lv (.int y :: .int x :: st) := fun hrm H locs ls hP hD hS hl => lv_iadd X.1 X.2.1 hdg (k _ rfl hrm H locs ls hP hD hS hl)
theorem zg_isubW (X : zX d L kd A nL p s m args c cc own) {x y : Int32} (hdg : decode cc pc = .ok (.isub, 1)) (k : ∀ v : Int32, v = x - y → zGc rs cs sl d L kd A nL p l e R s m args below meth c Q σ (pc + 1) lv (.int v :: st)) : zGc rs cs sl d L kd A nL p l e R s m args below meth c Q σ pc lv (.int y :: .int x :: st) := fun hrm H locs ls hP hD hS hl => lv_isub X.1 X.2.1 hdg (k _ rfl hrm H locs ls hP hD hS hl)
theorem zg_imulW (X : zX d L kd A nL p s m args c cc own) {x y : Int32} (hdg : decode cc pc = .ok (.imul, 1)) (k : ∀ v : Int32, v = x * y → zGc rs cs sl d L kd A nL p l e R s m args below meth c Q σ (pc + 1) lv (.int v :: st)) : zGc rs cs sl d L kd A nL p l e R s m args below meth c Q σ pc lv (.int y :: .int x :: st) := fun hrm H locs ls hP hD hS hl => lv_imul X.1 X.2.1 hdg (k _ rfl hrm H locs ls hP hD hS hl)
theorem zg_iandW (X : zX d L kd A nL p s m args c cc own) {x y : Int32} (hdg : decode cc pc = .ok (.iand, 1)) (k : ∀ v : Int32, v = x &&& y → zGc rs cs sl d L kd A nL p l e R s m args below meth c Q σ (pc + 1) lv (.int v :: st)) : zGc rs cs sl d L kd A nL p l e R s m args below meth c Q σ pc lv (.int y :: .int x :: st) := fun hrm H locs ls hP hD hS hl => lv_iand X.1 X.2.1 hdg (k _ rfl hrm H locs ls hP hD hS hl)
theorem zg_iorW (X : zX d L kd A nL p s m args c cc own) {x y : Int32} (hdg : decode cc pc = .ok (.ior, 1)) (k : ∀ v : Int32, v = x ||| y → zGc rs cs sl d L kd A nL p l e R s m args below meth c Q σ (pc + 1) lv (.int v :: st)) : zGc rs cs sl d L kd A nL p l e R s m args below meth c Q σ pc lv (.int y :: .int x :: st) := fun hrm H locs ls hP hD hS hl => lv_ior X.1 X.2.1 hdg (k _ rfl hrm H locs ls hP hD hS hl)
theorem zg_ixorW (X : zX d L kd A nL p s m args c cc own) {x y : Int32} (hdg : decode cc pc = .ok (.ixor, 1)) (k : ∀ v : Int32, v = x ^^^ y → zGc rs cs sl d L kd A nL p l e R s m args below meth c Q σ (pc + 1) lv (.int v :: st)) : zGc rs cs sl d L kd A nL p l e R s m args below meth c Q σ pc lv (.int y :: .int x :: st) := fun hrm H locs ls hP hD hS hl => lv_ixor X.1 X.2.1 hdg (k _ rfl hrm H locs ls hP hD hS hl)
theorem zg_ishlW (X : zX d L kd A nL p s m args c cc own) {x y : Int32} (hdg : decode cc pc = .ok (.ishl, 1)) (k : ∀ v : Int32, v = x <<< (y &&& 31) → zGc rs cs sl d L kd A nL p l e R s m args below meth c Q σ (pc + 1) lv (.int v :: st)) : zGc rs cs sl d L kd A nL p l e R s m args below meth c Q σ pc lv (.int y :: .int x :: st) := fun hrm H locs ls hP hD hS hl => lv_ishl X.1 X.2.1 hdg (k _ rfl hrm H locs ls hP hD hS hl)
theorem zg_ishrW (X : zX d L kd A nL p s m args c cc own) {x y : Int32} (hdg : decode cc pc = .ok (.ishr, 1)) (k : ∀ v : Int32, v = x >>> (y &&& 31) → zGc rs cs sl d L kd A nL p l e R s m args below meth c Q σ (pc + 1) lv (.int v :: st)) : zGc rs cs sl d L kd A nL p l e R s m args below meth c Q σ pc lv (.int y :: .int x :: st) := fun hrm H locs ls hP hD hS hl => lv_ishr X.1 X.2.1 hdg (k _ rfl hrm H locs ls hP hD hS hl)
theorem zg_iushrW (X : zX d L kd A nL p s m args c cc own) {x y : Int32} (hdg : decode cc pc = .ok (.iushr, 1)) (k : ∀ v : Int32, v = (x.toUInt32 >>> (y.toUInt32 &&& Int32.toUInt32 31)).toInt32 → zGc rs cs sl d L kd A nL p l e R s m args below meth c Q σ (pc + 1) lv (.int v :: st)) : zGc rs cs sl d L kd A nL p l e R s m args below meth c Q σ pc lv (.int y :: .int x :: st) := fun hrm H locs ls hP hD hS hl => lv_iushr X.1 X.2.1 hdg rfl (k _ rfl hrm H locs ls hP hD hS hl)
theorem zg_idivW (X : zX d L kd A nL p s m args c cc own) {x y : Int32} (hdg : decode cc pc = .ok (.idiv, 1)) (hy : y.toInt ≠ 0) (k : ∀ v : Int32, v = x / y → zGc rs cs sl d L kd A nL p l e R s m args below meth c Q σ (pc + 1) lv (.int v :: st)) : zGc rs cs sl d L kd A nL p l e R s m args below meth c Q σ pc lv (.int y :: .int x :: st) := fun hrm H locs ls hP hD hS hl => lv_idiv X.1 X.2.1 hdg (fun h => hy (by rw [h]; rfl)) (k _ rfl hrm H locs ls hP hD hS hl)
theorem zg_iremW (X : zX d L kd A nL p s m args c cc own) {x y : Int32} (hdg : decode cc pc = .ok (.irem, 1)) (hy : y.toInt ≠ 0) (k : ∀ v : Int32, v = x - x / y * y → zGc rs cs sl d L kd A nL p l e R s m args below meth c Q σ (pc + 1) lv (.int v :: st)) : zGc rs cs sl d L kd A nL p l e R s m args below meth c Q σ pc lv (.int y :: .int x :: st) := fun hrm H locs ls hP hD hS hl => lv_irem X.1 X.2.1 hdg (fun h => hy (by rw [h]; rfl)) (k _ rfl hrm H locs ls hP hD hS hl)
theorem zg_inegW (X : zX d L kd A nL p s m args c cc own) {x : Int32} (hdg : decode cc pc = .ok (.ineg, 1)) (k : ∀ v : Int32, v = -x → zGc rs cs sl d L kd A nL p l e R s m args below meth c Q σ (pc + 1) lv (.int v :: st)) : zGc rs cs sl d L kd A nL p l e R s m args below meth c Q σ pc lv (.int x :: st) := fun hrm H locs ls hP hD hS hl => lv_ineg X.1 X.2.1 hdg (k _ rfl hrm H locs ls hP hD hS hl)
theorem zg_i2l (X : zX d L kd A nL p s m args c cc own) {x : Int32} (hdg : decode cc pc = .ok (.i2l, 1)) (k : ∀ v : Int64, v = x.toInt64 → zGc rs cs sl d L kd A nL p l e R s m args below meth c Q σ (pc + 1) lv (.long v :: st)) : zGc rs cs sl d L kd A nL p l e R s m args below meth c Q σ pc lv (.int x :: st) := fun hrm H locs ls hP hD hS hl => lv_i2l X.1 X.2.1 hdg rfl (k _ rfl hrm H locs ls hP hD hS hl)
theorem zg_l2i (X : zX d L kd A nL p s m args c cc own) {x : Int64} (hdg : decode cc pc = .ok (.l2i, 1)) (k : ∀ v : Int32, v = x.toInt32 → zGc rs cs sl d L kd A nL p l e R s m args below meth c Q σ (pc + 1) lv (.int v :: st)) : zGc rs cs sl d L kd A nL p l e R s m args below meth c Q σ pc lv (.long x :: st) := fun hrm H locs ls hP hD hS hl => lv_l2i X.1 X.2.1 hdg rfl (k _ rfl hrm H locs ls hP hD hS hl)
theorem zg_i2b (X : zX d L kd A nL p s m args c cc own) {x : Int32} (hdg : decode cc pc = .ok (.i2b, 1)) (k : ∀ v : Int32, v = x.toInt8.toInt32 → zGc rs cs sl d L kd A nL p l e R s m args below meth c Q σ (pc + 1) lv (.int v :: st)) : zGc rs cs sl d L kd A nL p l e R s m args below meth c Q σ pc lv (.int x :: st) := fun hrm H locs ls hP hD hS hl => lv_i2b X.1 X.2.1 hdg rfl (k _ rfl hrm H locs ls hP hD hS hl)
theorem zg_i2c (X : zX d L kd A nL p s m args c cc own) {x : Int32} (hdg : decode cc pc = .ok (.i2c, 1)) (k : ∀ v : Int32, v = (x.toUInt32 % 65536).toInt32 → zGc rs cs sl d L kd A nL p l e R s m args below meth c Q σ (pc + 1) lv (.int v :: st)) : zGc rs cs sl d L kd A nL p l e R s m args below meth c Q σ pc lv (.int x :: st) := fun hrm H locs ls hP hD hS hl => lv_i2c X.1 X.2.1 hdg rfl (k _ rfl hrm H locs ls hP hD hS hl)
theorem zg_ladd (X : zX d L kd A nL p s m args c cc own) {x y : Int64} (hdg : decode cc pc = .ok (.ladd, 1)) (k : ∀ v : Int64, v = x + y → zGc rs cs sl d L kd A nL p l e R s m args below meth c Q σ (pc + 1) lv (.long v :: st)) : zGc rs cs sl d L kd A nL p l e R s m args below meth c Q σ pc lv (.long y :: .long x :: st) := fun hrm H locs ls hP hD hS hl => lv_ladd X.1 X.2.1 hdg (k _ rfl hrm H locs ls hP hD hS hl)
theorem zg_lmul (X : zX d L kd A nL p s m args c cc own) {x y : Int64} (hdg : decode cc pc = .ok (.lmul, 1)) (k : ∀ v : Int64, v = x * y → zGc rs cs sl d L kd A nL p l e R s m args below meth c Q σ (pc + 1) lv (.long v :: st)) : zGc rs cs sl d L kd A nL p l e R s m args below meth c Q σ pc lv (.long y :: .long x :: st) := fun hrm H locs ls hP hD hS hl => lv_lmul X.1 X.2.1 hdg (k _ rfl hrm H locs ls hP hD hS hl)
theorem zg_lcmp (X : zX d L kd A nL p s m args c cc own) {x y : Int64} (hdg : decode cc pc = .ok (.lcmp, 1)) (k : ∀ v : Int32, v = lg_cmp x y → zGc rs cs sl d L kd A nL p l e R s m args below meth c Q σ (pc + 1) lv (.int v :: st)) : zGc rs cs sl d L kd A nL p l e R s m args below meth c Q σ pc lv (.long y :: .long x :: st) := fun hrm H locs ls hP hD hS hl => W.lcmp X.1 X.2.1 hdg (k _ rfl hrm H locs ls hP hD hS hl)
theorem zg_dup (X : zX d L kd A nL p s m args c cc own) {v : Value} (hdg : decode cc pc = .ok (.dup, 1)) (hv : v.category = 1) (k : zGc rs cs sl d L kd A nL p l e R s m args below meth c Q σ (pc + 1) lv (v :: v :: st)) : zGc rs cs sl d L kd A nL p l e R s m args below meth c Q σ pc lv (v :: st) := fun hrm H locs ls hP hD hS hl => lv_dup X.1 X.2.1 hdg hv (k hrm H locs ls hP hD hS hl)
theorem zg_pop (X : zX d L kd A nL p s m args c cc own) {v : Value} (hdg : decode cc pc = .ok (.pop, 1)) (hv : v.category = 1) (k : zGc rs cs sl d L kd A nL p l e R s m args below meth c Q σ (pc + 1) lv st) : zGc rs cs sl d L kd A nL p l e R s m args below meth c Q σ pc lv (v :: st) := fun hrm H locs ls hP hD hS hl => lv_pop X.1 X.2.1 hdg hv (k hrm H locs ls hP hD hS hl)
theorem zg_dup2 (X : zX d L kd A nL p s m args c cc own) {v w : Value} (hdg : decode cc pc = .ok (.dup2, 1)) (hv : v.category = 1) (hw : w.category = 1) (k : zGc rs cs sl d L kd A nL p l e R s m args below meth c Q σ (pc + 1) lv (v :: w :: v :: w :: st)) : zGc rs cs sl d L kd A nL p l e R s m args below meth c Q σ pc lv (v :: w :: st) := fun hrm H locs ls hP hD hS hl => lv_dup2_11 X.1 X.2.1 hdg hv hw (k hrm H locs ls hP hD hS hl)
theorem zg_goto (X : zX d L kd A nL p s m args c cc own) {off : Int} (tgt : Nat) (hdg : decode cc pc = .ok (.goto off, 3)) (ht : (pc : Int) + off = (tgt : Int)) (k : zGc rs cs sl d L kd A nL p l e R s m args below meth c Q σ tgt lv st) : zGc rs cs sl d L kd A nL p l e R s m args below meth c Q σ pc lv st := fun hrm H locs ls hP hD hS hl => lv_goto X.1 X.2.1 hdg ht (k hrm H locs ls hP hD hS hl)
theorem zg_icmp_lt (X : zX d L kd A nL p s m args c cc own) {x y : Int32} {off : Int} (tgt : Nat) (hdg : decode cc pc = .ok (.if_icmp .lt off, 3)) (ht : (pc : Int) + off = (tgt : Int)) (kt : x.toInt < y.toInt → zGc rs cs sl d L kd A nL p l e R s m args below meth c Q σ tgt lv st) (kf : y.toInt ≤ x.toInt → zGc rs cs sl d L kd A nL p l e R s m args below meth c Q σ (pc + 3) lv st) : zGc rs cs sl d L kd A nL p l e R s m args below meth c Q σ pc lv (.int y :: .int x :: st) := fun hrm H locs ls hP hD hS hl => lv_icmp_lt X.1 X.2.1 hdg ht (fun h => kt (Int32.lt_iff_toInt_lt.mp h) hrm H locs ls hP hD hS hl) (fun h => kf (Int.not_lt.mp (fun q => h (Int32.lt_iff_toInt_lt.mpr q))) hrm H locs ls hP hD hS hl)
theorem zg_if_lt (X : zX d L kd A nL p s m args c cc own) {x : Int32} {off : Int} (tgt : Nat) (hdg : decode cc pc = .ok (.ifCond .lt off, 3)) (ht : (pc : Int) + off = (tgt : Int)) (kt : x.toInt < 0 → zGc rs cs sl d L kd A nL p l e R s m args below meth c Q σ tgt lv st) (kf : 0 ≤ x.toInt → zGc rs cs sl d L kd A nL p l e R s m args below meth c Q σ (pc + 3) lv st) : zGc rs cs sl d L kd A nL p l e R s m args below meth c Q σ pc lv (.int x :: st) := fun hrm H locs ls hP hD hS hl => lv_if_lt X.1 X.2.1 hdg ht (fun h => kt (by have h2 := Int32.lt_iff_toInt_lt.mp h; rw [show (0 : Int32).toInt = 0 from rfl] at h2; exact h2) hrm H locs ls hP hD hS hl) (fun h => kf (Int.not_lt.mp (fun q => h (Int32.lt_iff_toInt_lt.mpr (by rw [show (0 : Int32).toInt = 0 from rfl]; exact q)))) hrm H locs ls hP hD hS hl)
theorem zg_icmp_ge (X : zX d L kd A nL p s m args c cc own) {x y : Int32} {off : Int} (tgt : Nat) (hdg : decode cc pc = .ok (.if_icmp .ge off, 3)) (ht : (pc : Int) + off = (tgt : Int)) (kt : y.toInt ≤ x.toInt → zGc rs cs sl d L kd A nL p l e R s m args below meth c Q σ tgt lv st) (kf : x.toInt < y.toInt → zGc rs cs sl d L kd A nL p l e R s m args below meth c Q σ (pc + 3) lv st) : zGc rs cs sl d L kd A nL p l e R s m args below meth c Q σ pc lv (.int y :: .int x :: st) := fun hrm H locs ls hP hD hS hl => lv_icmp_ge X.1 X.2.1 hdg ht (fun h => kt (Int32.le_iff_toInt_le.mp h) hrm H locs ls hP hD hS hl) (fun h => kf (Int.not_le.mp (fun q => h (Int32.le_iff_toInt_le.mpr q))) hrm H locs ls hP hD hS hl)
theorem zg_if_ge (X : zX d L kd A nL p s m args c cc own) {x : Int32} {off : Int} (tgt : Nat) (hdg : decode cc pc = .ok (.ifCond .ge off, 3)) (ht : (pc : Int) + off = (tgt : Int)) (kt : 0 ≤ x.toInt → zGc rs cs sl d L kd A nL p l e R s m args below meth c Q σ tgt lv st) (kf : x.toInt < 0 → zGc rs cs sl d L kd A nL p l e R s m args below meth c Q σ (pc + 3) lv st) : zGc rs cs sl d L kd A nL p l e R s m args below meth c Q σ pc lv (.int x :: st) := fun hrm H locs ls hP hD hS hl => lv_if_ge X.1 X.2.1 hdg ht (fun h => kt (by have h2 := Int32.le_iff_toInt_le.mp h; rw [show (0 : Int32).toInt = 0 from rfl] at h2; exact h2) hrm H locs ls hP hD hS hl) (fun h => kf (Int.not_le.mp (fun q => h (Int32.le_iff_toInt_le.mpr (by rw [show (0 : Int32).toInt = 0 from rfl]; exact q)))) hrm H locs ls hP hD hS hl)
theorem zg_icmp_gt (X : zX d L kd A nL p s m args c cc own) {x y : Int32} {off : Int} (tgt : Nat) (hdg : decode cc pc = .ok (.if_icmp .gt off, 3)) (ht : (pc : Int) + off = (tgt : Int)) (kt : y.toInt < x.toInt → zGc rs cs sl d L kd A nL p l e R s m args below meth c Q σ tgt lv st) (kf : x.toInt ≤ y.toInt → zGc rs cs sl d L kd A nL p l e R s m args below meth c Q σ (pc + 3) lv st) : zGc rs cs sl d L kd A nL p l e R s m args below meth c Q σ pc lv (.int y :: .int x :: st) := fun hrm H locs ls hP hD hS hl => lv_icmp_gt X.1 X.2.1 hdg ht (fun h => kt (Int32.lt_iff_toInt_lt.mp h) hrm H locs ls hP hD hS hl) (fun h => kf (Int.not_lt.mp (fun q => h (Int32.lt_iff_toInt_lt.mpr q))) hrm H locs ls hP hD hS hl)
theorem zg_if_gt (X : zX d L kd A nL p s m args c cc own) {x : Int32} {off : Int} (tgt : Nat) (hdg : decode cc pc = .ok (.ifCond .gt off, 3)) (ht : (pc : Int) + off = (tgt : Int)) (kt : 0 < x.toInt → zGc rs cs sl d L kd A nL p l e R s m args below meth c Q σ tgt lv st) (kf : x.toInt ≤ 0 → zGc rs cs sl d L kd A nL p l e R s m args below meth c Q σ (pc + 3) lv st) : zGc rs cs sl d L kd A nL p l e R s m args below meth c Q σ pc lv (.int x :: st) := fun hrm H locs ls hP hD hS hl => lv_if_gt X.1 X.2.1 hdg ht (fun h => kt (by have h2 := Int32.lt_iff_toInt_lt.mp h; rw [show (0 : Int32).toInt = 0 from rfl] at h2; exact h2) hrm H locs ls hP hD hS hl) (fun h => kf (Int.not_lt.mp (fun q => h (Int32.lt_iff_toInt_lt.mpr (by rw [show (0 : Int32).toInt = 0 from rfl]; exact q)))) hrm H locs ls hP hD hS hl)
theorem zg_icmp_le (X : zX d L kd A nL p s m args c cc own) {x y : Int32} {off : Int} (tgt : Nat) (hdg : decode cc pc = .ok (.if_icmp .le off, 3)) (ht : (pc : Int) + off = (tgt : Int)) (kt : x.toInt ≤ y.toInt → zGc rs cs sl d L kd A nL p l e R s m args below meth c Q σ tgt lv st) (kf : y.toInt < x.toInt → zGc rs cs sl d L kd A nL p l e R s m args below meth c Q σ (pc + 3) lv st) : zGc rs cs sl d L kd A nL p l e R s m args below meth c Q σ pc lv (.int y :: .int x :: st) := fun hrm H locs ls hP hD hS hl => lv_icmp_le X.1 X.2.1 hdg ht (fun h => kt (Int32.le_iff_toInt_le.mp h) hrm H locs ls hP hD hS hl) (fun h => kf (Int.not_le.mp (fun q => h (Int32.le_iff_toInt_le.mpr q))) hrm H locs ls hP hD hS hl)
theorem zg_if_le (X : zX d L kd A nL p s m args c cc own) {x : Int32} {off : Int} (tgt : Nat) (hdg : decode cc pc = .ok (.ifCond .le off, 3)) (ht : (pc : Int) + off = (tgt : Int)) (kt : x.toInt ≤ 0 → zGc rs cs sl d L kd A nL p l e R s m args below meth c Q σ tgt lv st) (kf : 0 < x.toInt → zGc rs cs sl d L kd A nL p l e R s m args below meth c Q σ (pc + 3) lv st) : zGc rs cs sl d L kd A nL p l e R s m args below meth c Q σ pc lv (.int x :: st) := fun hrm H locs ls hP hD hS hl => lv_if_le X.1 X.2.1 hdg ht (fun h => kt (by have h2 := Int32.le_iff_toInt_le.mp h; rw [show (0 : Int32).toInt = 0 from rfl] at h2; exact h2) hrm H locs ls hP hD hS hl) (fun h => kf (Int.not_le.mp (fun q => h (Int32.le_iff_toInt_le.mpr (by rw [show (0 : Int32).toInt = 0 from rfl]; exact q)))) hrm H locs ls hP hD hS hl)
theorem zg_icmp_eq (X : zX d L kd A nL p s m args c cc own) {x y : Int32} {off : Int} (tgt : Nat) (hdg : decode cc pc = .ok (.if_icmp .eq off, 3)) (ht : (pc : Int) + off = (tgt : Int)) (kt : x.toInt = y.toInt → zGc rs cs sl d L kd A nL p l e R s m args below meth c Q σ tgt lv st) (kf : x.toInt ≠ y.toInt → zGc rs cs sl d L kd A nL p l e R s m args below meth c Q σ (pc + 3) lv st) : zGc rs cs sl d L kd A nL p l e R s m args below meth c Q σ pc lv (.int y :: .int x :: st) := fun hrm H locs ls hP hD hS hl => lv_icmp_eq X.1 X.2.1 hdg ht (fun h => kt (by rw [h]) hrm H locs ls hP hD hS hl) (fun h => kf (fun q => h (Int32.toInt_inj.mp q)) hrm H locs ls hP hD hS hl)
theorem zg_if_eq (X : zX d L kd A nL p s m args c cc own) {x : Int32} {off : Int} (tgt : Nat) (hdg : decode cc pc = .ok (.ifCond .eq off, 3)) (ht : (pc : Int) + off = (tgt : Int)) (kt : x.toInt = 0 → zGc rs cs sl d L kd A nL p l e R s m args below meth c Q σ tgt lv st) (kf : x.toInt ≠ 0 → zGc rs cs sl d L kd A nL p l e R s m args below meth c Q σ (pc + 3) lv st) : zGc rs cs sl d L kd A nL p l e R s m args below meth c Q σ pc lv (.int x :: st) := fun hrm H locs ls hP hD hS hl => lv_if_eq X.1 X.2.1 hdg ht (fun h => kt (by rw [h]; rfl) hrm H locs ls hP hD hS hl) (fun h => kf (fun q => h (Int32.toInt_inj.mp q)) hrm H locs ls hP hD hS hl)
theorem zg_icmp_ne (X : zX d L kd A nL p s m args c cc own) {x y : Int32} {off : Int} (tgt : Nat) (hdg : decode cc pc = .ok (.if_icmp .ne off, 3)) (ht : (pc : Int) + off = (tgt : Int)) (kt : x.toInt ≠ y.toInt → zGc rs cs sl d L kd A nL p l e R s m args below meth c Q σ tgt lv st) (kf : x.toInt = y.toInt → zGc rs cs sl d L kd A nL p l e R s m args below meth c Q σ (pc + 3) lv st) : zGc rs cs sl d L kd A nL p l e R s m args below meth c Q σ pc lv (.int y :: .int x :: st) := fun hrm H locs ls hP hD hS hl => lv_icmp_ne X.1 X.2.1 hdg ht (fun h => kt (fun q => h (Int32.toInt_inj.mp q)) hrm H locs ls hP hD hS hl) (fun h => kf (by rw [h]) hrm H locs ls hP hD hS hl)
theorem zg_if_ne (X : zX d L kd A nL p s m args c cc own) {x : Int32} {off : Int} (tgt : Nat) (hdg : decode cc pc = .ok (.ifCond .ne off, 3)) (ht : (pc : Int) + off = (tgt : Int)) (kt : x.toInt ≠ 0 → zGc rs cs sl d L kd A nL p l e R s m args below meth c Q σ tgt lv st) (kf : x.toInt = 0 → zGc rs cs sl d L kd A nL p l e R s m args below meth c Q σ (pc + 3) lv st) : zGc rs cs sl d L kd A nL p l e R s m args below meth c Q σ pc lv (.int x :: st) := fun hrm H locs ls hP hD hS hl => lv_if_ne X.1 X.2.1 hdg ht (fun h => kt (fun q => h (Int32.toInt_inj.mp q)) hrm H locs ls hP hD hS hl) (fun h => kf (by rw [h]; rfl) hrm H locs ls hP hD hS hl)
theorem zg_tabIn (X : zX d L kd A nL p s m args c cc own) {dflt lo hi : Int} {offs : Array Int} {len : Nat} {x : Int32} {off : Int} (tgt : Nat) (z : Int) (hdg : decode cc pc = .ok (.tableswitch dflt lo hi offs, len)) (hx : x.toInt = z) (h1 : ¬ z < lo) (h2 : ¬ hi < z) (ho : offs[(z - lo).toNat]? = some off) (ht : (pc : Int) + off = (tgt : Int)) (k : zGc rs cs sl d L kd A nL p l e R s m args below meth c Q σ tgt lv st) : zGc rs cs sl d L kd A nL p l e R s m args below meth c Q σ pc lv (.int x :: st) := fun hrm H locs ls hP hD hS hl => lv_tableIn X.1 X.2.1 hdg (by rw [hx]; exact h1) (by rw [hx]; exact h2) (by rw [hx]; exact ho) ht (k hrm H locs ls hP hD hS hl)
theorem zg_tabOut (X : zX d L kd A nL p s m args c cc own) {dflt lo hi : Int} {offs : Array Int} {len : Nat} {x : Int32} (tgt : Nat) (hdg : decode cc pc = .ok (.tableswitch dflt lo hi offs, len)) (h : x.toInt < lo ∨ hi < x.toInt) (ht : (pc : Int) + dflt = (tgt : Int)) (k : zGc rs cs sl d L kd A nL p l e R s m args below meth c Q σ tgt lv st) : zGc rs cs sl d L kd A nL p l e R s m args below meth c Q σ pc lv (.int x :: st) := fun hrm H locs ls hP hD hS hl => lv_tableOut X.1 X.2.1 hdg h ht (k hrm H locs ls hP hD hS hl)
theorem zg_geti (X : zX d L kd A nL p s m args c cc own) {a k ci j index N : Nat} {C : String} {T : u_T} (ha : zT L kd a k) (hb : zb k = ci) (hci : ci < 12) (hcl : vwCl[ci]? = some (C, T, N)) (hj : j < N) (hty : (ztys ci)[j]? = some 0) (hin : ∀ w ∈ u_ws C T N, w ∈ zWL) (hlink : Cond.fieldLink own index (T j).1 (T j).2.1 (T j).2.2.1 ∈ zWL ∨ ∃ host, Cond.fieldLinkNest own index (T j).1 (T j).2.1 (T j).2.2.1 host ∈ tables_1) (hdg : decode cc pc = .ok (.getfield index, 3)) (kk : zGc rs cs sl d L kd A nL p l e R s m args below meth c Q σ (pc + 3) lv (.int (σ.1 a j) :: st)) : zGc rs cs sl d L kd A nL p l e R s m args below meth c Q σ pc lv (.ref a :: st) := by
  intro hrm H locs ls hP hD hS hl
  obtain ⟨q0, hq⟩ := zR_at (dA := d.2.2) (kd := kd) rs σ ha.1
  have he : zF d.2.2 kd σ a = .inr (ci, zfs (σ.1 a) (σ.2.1 a) (σ.2.2 a) (ztys ci) 0) := zE_o (by rw [ha.2]; exact hb) hci
  rw [he] at hq
  have hv := zfs_at (σ.1 a) (σ.2.1 a) (σ.2.2 a) (ztys ci) 0 j 0 hty
  rw [if_pos rfl, Nat.zero_add] at hv
  rcases hlink with hlink | ⟨host, hlink⟩
  · exact va_get X.1 X.2.1 X.2.2.2.2.1 hin X.2.2.2.1 X.2.2.2.2.2.1 hP q0 hq hcl j hj (X.2.2.2.2.1 _ hlink) (fun _ h => h) hv hdg (kk hrm H locs ls hP hD hS hl)
  · exact va_getN X.1 X.2.1 X.2.2.2.2.1 hin X.2.2.2.1 X.2.2.2.2.2.1 hP q0 hq hcl j hj (va_Nw.use rfl (X.2.2.2.2.2.2.1 _ hlink rfl)) (fun _ h => h) hv hdg (kk hrm H locs ls hP hD hS hl)
theorem zg_getl (X : zX d L kd A nL p s m args c cc own) {a k ci j index N : Nat} {C : String} {T : u_T} (ha : zT L kd a k) (hb : zb k = ci) (hci : ci < 12) (hcl : vwCl[ci]? = some (C, T, N)) (hj : j < N) (hty : (ztys ci)[j]? = some 1) (hin : ∀ w ∈ u_ws C T N, w ∈ zWL) (hlink : Cond.fieldLink own index (T j).1 (T j).2.1 (T j).2.2.1 ∈ zWL ∨ ∃ host, Cond.fieldLinkNest own index (T j).1 (T j).2.1 (T j).2.2.1 host ∈ tables_1) (hdg : decode cc pc = .ok (.getfield index, 3)) (kk : zGc rs cs sl d L kd A nL p l e R s m args below meth c Q σ (pc + 3) lv (.long (σ.2.1 a j) :: st)) : zGc rs cs sl d L kd A nL p l e R s m args below meth c Q σ pc lv (.ref a :: st) := by
  intro hrm H locs ls hP hD hS hl
  obtain ⟨q0, hq⟩ := zR_at (dA := d.2.2) (kd := kd) rs σ ha.1
  have he : zF d.2.2 kd σ a = .inr (ci, zfs (σ.1 a) (σ.2.1 a) (σ.2.2 a) (ztys ci) 0) := zE_o (by rw [ha.2]; exact hb) hci
  rw [he] at hq
  have hv := zfs_at (σ.1 a) (σ.2.1 a) (σ.2.2 a) (ztys ci) 0 j 1 hty
  rw [if_neg (by decide), if_pos rfl, Nat.zero_add] at hv
  rcases hlink with hlink | ⟨host, hlink⟩
  · exact va_get X.1 X.2.1 X.2.2.2.2.1 hin X.2.2.2.1 X.2.2.2.2.2.1 hP q0 hq hcl j hj (X.2.2.2.2.1 _ hlink) (fun _ h => h) hv hdg (kk hrm H locs ls hP hD hS hl)
  · exact va_getN X.1 X.2.1 X.2.2.2.2.1 hin X.2.2.2.1 X.2.2.2.2.2.1 hP q0 hq hcl j hj (va_Nw.use rfl (X.2.2.2.2.2.2.1 _ hlink rfl)) (fun _ h => h) hv hdg (kk hrm H locs ls hP hD hS hl)
theorem zg_getr (X : zX d L kd A nL p s m args c cc own) {a k ci j index N : Nat} {C : String} {T : u_T} (ha : zT L kd a k) (hb : zb k = ci) (hci : ci < 12) (hcl : vwCl[ci]? = some (C, T, N)) (hj : j < N) (hty : (ztys ci)[j]? = some 2) (hin : ∀ w ∈ u_ws C T N, w ∈ zWL) (hlink : Cond.fieldLink own index (T j).1 (T j).2.1 (T j).2.2.1 ∈ zWL ∨ ∃ host, Cond.fieldLinkNest own index (T j).1 (T j).2.1 (T j).2.2.1 host ∈ tables_1) (hdg : decode cc pc = .ok (.getfield index, 3)) (kk : zGc rs cs sl d L kd A nL p l e R s m args below meth c Q σ (pc + 3) lv (va_rf (σ.2.2 a j) :: st)) : zGc rs cs sl d L kd A nL p l e R s m args below meth c Q σ pc lv (.ref a :: st) := by
  intro hrm H locs ls hP hD hS hl
  obtain ⟨q0, hq⟩ := zR_at (dA := d.2.2) (kd := kd) rs σ ha.1
  have he : zF d.2.2 kd σ a = .inr (ci, zfs (σ.1 a) (σ.2.1 a) (σ.2.2 a) (ztys ci) 0) := zE_o (by rw [ha.2]; exact hb) hci
  rw [he] at hq
  have hv := zfs_at (σ.1 a) (σ.2.1 a) (σ.2.2 a) (ztys ci) 0 j 2 hty
  rw [if_neg (by decide), if_neg (by decide), Nat.zero_add] at hv
  rcases hlink with hlink | ⟨host, hlink⟩
  · exact va_get X.1 X.2.1 X.2.2.2.2.1 hin X.2.2.2.1 X.2.2.2.2.2.1 hP q0 hq hcl j hj (X.2.2.2.2.1 _ hlink) (fun _ h => h) hv hdg (kk hrm H locs ls hP hD hS hl)
  · exact va_getN X.1 X.2.1 X.2.2.2.2.1 hin X.2.2.2.1 X.2.2.2.2.2.1 hP q0 hq hcl j hj (va_Nw.use rfl (X.2.2.2.2.2.2.1 _ hlink rfl)) (fun _ h => h) hv hdg (kk hrm H locs ls hP hD hS hl)
theorem zg_puti (X : zX d L kd A nL p s m args c cc own) {a k ci j index N : Nat} {C : String} {T : u_T} {v : Int32} {ty : FieldType} {ty0 : Nat → FieldType} (ha : zT L kd a k) (hb : zb k = ci) (hci : ci < 12) (hcl : vwCl[ci]? = some (C, T, N)) (hj : j < N) (hty : (ztys ci)[j]? = some 0) (hlen : (ztys ci).length = N) (hin : ∀ w ∈ u_ws C T N, w ∈ zWL) (hty0 : ∀ k, k < N → parseFieldDescriptor (T k).2.2.1 = some (ty0 k)) (hnm : ∀ a, a < N → ∀ b, b < N → a ≠ b → (T a).2.1 ≠ (T b).2.1) (hlink : Cond.fieldLink own index (T j).1 (T j).2.1 (T j).2.2.1 ∈ zWL ∨ ∃ host, Cond.fieldLinkNest own index (T j).1 (T j).2.1 (T j).2.2.1 host ∈ tables_1) (hfin : (T j).2.2.2 = false) (hd : parseFieldDescriptor (T j).2.2.1 = some ty) (hn : narrow ty (.int v) = .int v) (hfit : fits ty (.int v) = true) (hdg : decode cc pc = .ok (.putfield index, 3)) (kk : ∀ σ2 : zS, σ2 = (zu σ.1 a j v, σ.2.1, σ.2.2) → zGc rs cs sl d L kd A nL p l e R s m args below meth c Q σ2 (pc + 3) lv st) : zGc rs cs sl d L kd A nL p l e R s m args below meth c Q σ pc lv (.int v :: .ref a :: st) := by
  intro hrm H locs ls hP hD hS hl
  obtain ⟨q0, hq⟩ := zR_at (dA := d.2.2) (kd := kd) rs σ ha.1
  have hq1 := hq
  have he : ∀ τ : zS, zF d.2.2 kd τ a = .inr (ci, zfs (τ.1 a) (τ.2.1 a) (τ.2.2 a) (ztys ci) 0) := fun τ => zE_o (by rw [ha.2]; exact hb) hci
  rw [he] at hq
  have hset : (rs ++ zW d.2.2 L kd σ).set q0 (a, .inr (ci, (zfs (σ.1 a) (σ.2.1 a) (σ.2.2 a) (ztys ci) 0).set j (.int v))) = rs ++ zW d.2.2 L kd (zu σ.1 a j v, σ.2.1, σ.2.2) := by
    refine zR_set hD ha.1 hq1 ?_ (fun b hb => by simp only [zF, zu_n _ _ _ hb])
    rw [he, zfs_set0 _ _ _ _ _ 0 j hty, Nat.zero_add]
    simp only [zu_a]
  have hlt : j < (zfs (σ.1 a) (σ.2.1 a) (σ.2.2 a) (ztys ci) 0).length := by rw [zfs_len, hlen]; exact hj
  rcases hlink with hlink | ⟨host, hlink⟩
  · exact va_put X.1 X.2.1 X.2.2.2.2.1 hin ty0 hty0 hnm X.2.2.2.1 X.2.2.2.2.2.1 hP hD hS q0 hq hcl j hj (X.2.2.2.2.1 _ hlink) (fun _ h => h) hfin hd hn hfit hlt hdg (fun H1 locs1 hP hD hS => kk _ rfl hrm H1 locs1 ls (by rw [hset] at hP; exact hP) (by rw [hset] at hD; exact hD) hS hl)
  · exact va_putN X.1 X.2.1 X.2.2.2.2.1 hin ty0 hty0 hnm X.2.2.2.1 X.2.2.2.2.2.1 hP hD hS q0 hq hcl j hj (va_Nw.use rfl (X.2.2.2.2.2.2.1 _ hlink rfl)) (fun _ h => h) hfin hd hn hfit hlt hdg (fun H1 locs1 hP hD hS => kk _ rfl hrm H1 locs1 ls (by rw [hset] at hP; exact hP) (by rw [hset] at hD; exact hD) hS hl)
theorem zg_putl (X : zX d L kd A nL p s m args c cc own) {a k ci j index N : Nat} {C : String} {T : u_T} {v : Int64} {ty : FieldType} {ty0 : Nat → FieldType} (ha : zT L kd a k) (hb : zb k = ci) (hci : ci < 12) (hcl : vwCl[ci]? = some (C, T, N)) (hj : j < N) (hty : (ztys ci)[j]? = some 1) (hlen : (ztys ci).length = N) (hin : ∀ w ∈ u_ws C T N, w ∈ zWL) (hty0 : ∀ k, k < N → parseFieldDescriptor (T k).2.2.1 = some (ty0 k)) (hnm : ∀ a, a < N → ∀ b, b < N → a ≠ b → (T a).2.1 ≠ (T b).2.1) (hlink : Cond.fieldLink own index (T j).1 (T j).2.1 (T j).2.2.1 ∈ zWL ∨ ∃ host, Cond.fieldLinkNest own index (T j).1 (T j).2.1 (T j).2.2.1 host ∈ tables_1) (hfin : (T j).2.2.2 = false) (hd : parseFieldDescriptor (T j).2.2.1 = some ty) (hn : narrow ty (.long v) = .long v) (hfit : fits ty (.long v) = true) (hdg : decode cc pc = .ok (.putfield index, 3)) (kk : ∀ σ2 : zS, σ2 = (σ.1, zu σ.2.1 a j v, σ.2.2) → zGc rs cs sl d L kd A nL p l e R s m args below meth c Q σ2 (pc + 3) lv st) : zGc rs cs sl d L kd A nL p l e R s m args below meth c Q σ pc lv (.long v :: .ref a :: st) := by
  intro hrm H locs ls hP hD hS hl
  obtain ⟨q0, hq⟩ := zR_at (dA := d.2.2) (kd := kd) rs σ ha.1
  have hq1 := hq
  have he : ∀ τ : zS, zF d.2.2 kd τ a = .inr (ci, zfs (τ.1 a) (τ.2.1 a) (τ.2.2 a) (ztys ci) 0) := fun τ => zE_o (by rw [ha.2]; exact hb) hci
  rw [he] at hq
  have hset : (rs ++ zW d.2.2 L kd σ).set q0 (a, .inr (ci, (zfs (σ.1 a) (σ.2.1 a) (σ.2.2 a) (ztys ci) 0).set j (.long v))) = rs ++ zW d.2.2 L kd (σ.1, zu σ.2.1 a j v, σ.2.2) := by
    refine zR_set hD ha.1 hq1 ?_ (fun b hb => by simp only [zF, zu_n _ _ _ hb])
    rw [he, zfs_set1 _ _ _ _ _ 0 j hty, Nat.zero_add]
    simp only [zu_a]
  have hlt : j < (zfs (σ.1 a) (σ.2.1 a) (σ.2.2 a) (ztys ci) 0).length := by rw [zfs_len, hlen]; exact hj
  rcases hlink with hlink | ⟨host, hlink⟩
  · exact va_put X.1 X.2.1 X.2.2.2.2.1 hin ty0 hty0 hnm X.2.2.2.1 X.2.2.2.2.2.1 hP hD hS q0 hq hcl j hj (X.2.2.2.2.1 _ hlink) (fun _ h => h) hfin hd hn hfit hlt hdg (fun H1 locs1 hP hD hS => kk _ rfl hrm H1 locs1 ls (by rw [hset] at hP; exact hP) (by rw [hset] at hD; exact hD) hS hl)
  · exact va_putN X.1 X.2.1 X.2.2.2.2.1 hin ty0 hty0 hnm X.2.2.2.1 X.2.2.2.2.2.1 hP hD hS q0 hq hcl j hj (va_Nw.use rfl (X.2.2.2.2.2.2.1 _ hlink rfl)) (fun _ h => h) hfin hd hn hfit hlt hdg (fun H1 locs1 hP hD hS => kk _ rfl hrm H1 locs1 ls (by rw [hset] at hP; exact hP) (by rw [hset] at hD; exact hD) hS hl)
theorem zg_putr (X : zX d L kd A nL p s m args c cc own) {a k ci j index N : Nat} {C : String} {T : u_T} {v : Option Nat} {ty : FieldType} {ty0 : Nat → FieldType} (ha : zT L kd a k) (hb : zb k = ci) (hci : ci < 12) (hcl : vwCl[ci]? = some (C, T, N)) (hj : j < N) (hty : (ztys ci)[j]? = some 2) (hlen : (ztys ci).length = N) (hin : ∀ w ∈ u_ws C T N, w ∈ zWL) (hty0 : ∀ k, k < N → parseFieldDescriptor (T k).2.2.1 = some (ty0 k)) (hnm : ∀ a, a < N → ∀ b, b < N → a ≠ b → (T a).2.1 ≠ (T b).2.1) (hlink : Cond.fieldLink own index (T j).1 (T j).2.1 (T j).2.2.1 ∈ zWL ∨ ∃ host, Cond.fieldLinkNest own index (T j).1 (T j).2.1 (T j).2.2.1 host ∈ tables_1) (hfin : (T j).2.2.2 = false) (hd : parseFieldDescriptor (T j).2.2.1 = some ty) (hn : narrow ty (va_rf v) = va_rf v) (hfit : fits ty (va_rf v) = true) (hdg : decode cc pc = .ok (.putfield index, 3)) (kk : ∀ σ2 : zS, σ2 = (σ.1, σ.2.1, zu σ.2.2 a j v) → zGc rs cs sl d L kd A nL p l e R s m args below meth c Q σ2 (pc + 3) lv st) : zGc rs cs sl d L kd A nL p l e R s m args below meth c Q σ pc lv (va_rf v :: .ref a :: st) := by
  intro hrm H locs ls hP hD hS hl
  obtain ⟨q0, hq⟩ := zR_at (dA := d.2.2) (kd := kd) rs σ ha.1
  have hq1 := hq
  have he : ∀ τ : zS, zF d.2.2 kd τ a = .inr (ci, zfs (τ.1 a) (τ.2.1 a) (τ.2.2 a) (ztys ci) 0) := fun τ => zE_o (by rw [ha.2]; exact hb) hci
  rw [he] at hq
  have hset : (rs ++ zW d.2.2 L kd σ).set q0 (a, .inr (ci, (zfs (σ.1 a) (σ.2.1 a) (σ.2.2 a) (ztys ci) 0).set j (va_rf v))) = rs ++ zW d.2.2 L kd (σ.1, σ.2.1, zu σ.2.2 a j v) := by
    refine zR_set hD ha.1 hq1 ?_ (fun b hb => by simp only [zF, zu_n _ _ _ hb])
    rw [he, zfs_set2 _ _ _ _ _ 0 j hty, Nat.zero_add]
    simp only [zu_a]
  have hlt : j < (zfs (σ.1 a) (σ.2.1 a) (σ.2.2 a) (ztys ci) 0).length := by rw [zfs_len, hlen]; exact hj
  rcases hlink with hlink | ⟨host, hlink⟩
  · exact va_put X.1 X.2.1 X.2.2.2.2.1 hin ty0 hty0 hnm X.2.2.2.1 X.2.2.2.2.2.1 hP hD hS q0 hq hcl j hj (X.2.2.2.2.1 _ hlink) (fun _ h => h) hfin hd hn hfit hlt hdg (fun H1 locs1 hP hD hS => kk _ rfl hrm H1 locs1 ls (by rw [hset] at hP; exact hP) (by rw [hset] at hD; exact hD) hS hl)
  · exact va_putN X.1 X.2.1 X.2.2.2.2.1 hin ty0 hty0 hnm X.2.2.2.1 X.2.2.2.2.2.1 hP hD hS q0 hq hcl j hj (va_Nw.use rfl (X.2.2.2.2.2.2.1 _ hlink rfl)) (fun _ h => h) hfin hd hn hfit hlt hdg (fun H1 locs1 hP hD hS => kk _ rfl hrm H1 locs1 ls (by rw [hset] at hP; exact hP) (by rw [hset] at hD; exact hD) hS hl)
theorem zg_iald (X : zX d L kd A nL p s m args c cc own) {a k : Nat} {i : Int32} (ha : zT L kd a k) (hb : zb k = 13) (h0 : 0 ≤ i.toInt) (h1 : i.toInt < zn k) (hdg : decode cc pc = .ok (.iaload, 1)) (kk : zGc rs cs sl d L kd A nL p l e R s m args below meth c Q σ (pc + 1) lv (.int (σ.1 a i.toNatClampNeg) :: st)) : zGc rs cs sl d L kd A nL p l e R s m args below meth c Q σ pc lv (.int i :: .ref a :: st) := by
  intro hrm H locs ls hP hD hS hl
  obtain ⟨q0, hq⟩ := zR_at (dA := d.2.2) (kd := kd) rs σ ha.1
  have he : zF d.2.2 kd σ a = .inl (d.2.2 13, zn (kd a), .inl (σ.1 a)) := zE_i (by rw [ha.2]; exact hb) (Or.inr (Or.inl rfl))
  rw [he, ha.2] at hq
  exact va_iald X.1 X.2.1 X.2.2.2.2.2.1 hP q0 1 hq rfl (zb_in h0 h1) hdg (kk hrm H locs ls hP hD hS hl)
theorem zg_iast (X : zX d L kd A nL p s m args c cc own) {a k : Nat} {i x : Int32} (ha : zT L kd a k) (hb : zb k = 13) (h0 : 0 ≤ i.toInt) (h1 : i.toInt < zn k) (hdg : decode cc pc = .ok (.iastore, 1)) (kk : ∀ σ2 : zS, σ2 = (zu σ.1 a i.toNatClampNeg x, σ.2.1, σ.2.2) → zGc rs cs sl d L kd A nL p l e R s m args below meth c Q σ2 (pc + 1) lv st) : zGc rs cs sl d L kd A nL p l e R s m args below meth c Q σ pc lv (.int x :: .int i :: .ref a :: st) := by
  intro hrm H locs ls hP hD hS hl
  obtain ⟨q0, hq⟩ := zR_at (dA := d.2.2) (kd := kd) rs σ ha.1
  have hq1 := hq
  have he : ∀ τ : zS, zF d.2.2 kd τ a = .inl (d.2.2 13, zn k, .inl (τ.1 a)) := fun τ => by rw [← ha.2]; exact zE_i (by rw [ha.2]; exact hb) (Or.inr (Or.inl rfl))
  rw [he] at hq
  refine va_iast X.1 X.2.1 X.2.2.2.2.2.1 hP hD hS q0 1 hq rfl (zb_in h0 h1) hdg (fun H1 locs1 hP hD2 hS => kk _ rfl hrm H1 locs1 ls ?_ (zR_any hD) hS hl)
  rw [zR_set (σ' := (zu σ.1 a i.toNatClampNeg x, σ.2.1, σ.2.2)) hD ha.1 hq1 (by rw [he]; simp only [zu_a]; rfl) (fun b hb => by simp only [zF, zu_n _ _ _ hb])] at hP
  exact hP
theorem zg_bald (X : zX d L kd A nL p s m args c cc own) {a k : Nat} {i : Int32} (ha : zT L kd a k) (hb : zb k = 12) (h0 : 0 ≤ i.toInt) (h1 : i.toInt < zn k) (hdg : decode cc pc = .ok (.baload, 1)) (kk : zGc rs cs sl d L kd A nL p l e R s m args below meth c Q σ (pc + 1) lv (.int (σ.1 a i.toNatClampNeg) :: st)) : zGc rs cs sl d L kd A nL p l e R s m args below meth c Q σ pc lv (.int i :: .ref a :: st) := by
  intro hrm H locs ls hP hD hS hl
  obtain ⟨q0, hq⟩ := zR_at (dA := d.2.2) (kd := kd) rs σ ha.1
  have he : zF d.2.2 kd σ a = .inl (d.2.2 12, zn (kd a), .inl (σ.1 a)) := zE_i (by rw [ha.2]; exact hb) (Or.inl rfl)
  rw [he, ha.2] at hq
  exact va_bald X.1 X.2.1 X.2.2.2.2.2.1 hP q0 0 hq rfl (zb_in h0 h1) hdg (kk hrm H locs ls hP hD hS hl)
theorem zg_bast (X : zX d L kd A nL p s m args c cc own) {a k : Nat} {i x : Int32} (ha : zT L kd a k) (hb : zb k = 12) (h0 : 0 ≤ i.toInt) (h1 : i.toInt < zn k) (hdg : decode cc pc = .ok (.bastore, 1)) (kk : ∀ σ2 : zS, σ2 = (zu σ.1 a i.toNatClampNeg (vp_nar .byte x), σ.2.1, σ.2.2) → zGc rs cs sl d L kd A nL p l e R s m args below meth c Q σ2 (pc + 1) lv st) : zGc rs cs sl d L kd A nL p l e R s m args below meth c Q σ pc lv (.int x :: .int i :: .ref a :: st) := by
  intro hrm H locs ls hP hD hS hl
  obtain ⟨q0, hq⟩ := zR_at (dA := d.2.2) (kd := kd) rs σ ha.1
  have hq1 := hq
  have he : ∀ τ : zS, zF d.2.2 kd τ a = .inl (d.2.2 12, zn k, .inl (τ.1 a)) := fun τ => by rw [← ha.2]; exact zE_i (by rw [ha.2]; exact hb) (Or.inl rfl)
  rw [he] at hq
  refine va_bast X.1 X.2.1 X.2.2.2.2.2.1 hP hD hS q0 0 hq rfl (zb_in h0 h1) hdg (fun H1 locs1 hP hD2 hS => kk _ rfl hrm H1 locs1 ls ?_ (zR_any hD) hS hl)
  rw [zR_set (σ' := (zu σ.1 a i.toNatClampNeg (vp_nar .byte x), σ.2.1, σ.2.2)) hD ha.1 hq1 (by rw [he]; simp only [zu_a]; rfl) (fun b hb => by simp only [zF, zu_n _ _ _ hb])] at hP
  exact hP
theorem zg_zald (X : zX d L kd A nL p s m args c cc own) {a k : Nat} {i : Int32} (ha : zT L kd a k) (hb : zb k = 15) (h0 : 0 ≤ i.toInt) (h1 : i.toInt < zn k) (hdg : decode cc pc = .ok (.baload, 1)) (kk : zGc rs cs sl d L kd A nL p l e R s m args below meth c Q σ (pc + 1) lv (.int (σ.1 a i.toNatClampNeg) :: st)) : zGc rs cs sl d L kd A nL p l e R s m args below meth c Q σ pc lv (.int i :: .ref a :: st) := by
  intro hrm H locs ls hP hD hS hl
  obtain ⟨q0, hq⟩ := zR_at (dA := d.2.2) (kd := kd) rs σ ha.1
  have he : zF d.2.2 kd σ a = .inl (d.2.2 15, zn (kd a), .inl (σ.1 a)) := zE_i (by rw [ha.2]; exact hb) (Or.inr (Or.inr rfl))
  rw [he, ha.2] at hq
  exact va_zald X.1 X.2.1 X.2.2.2.2.2.1 hP q0 3 hq rfl (zb_in h0 h1) hdg (kk hrm H locs ls hP hD hS hl)
theorem zg_zast (X : zX d L kd A nL p s m args c cc own) {a k : Nat} {i x : Int32} (ha : zT L kd a k) (hb : zb k = 15) (h0 : 0 ≤ i.toInt) (h1 : i.toInt < zn k) (hdg : decode cc pc = .ok (.bastore, 1)) (kk : ∀ σ2 : zS, σ2 = (zu σ.1 a i.toNatClampNeg (vp_nar .boolean x), σ.2.1, σ.2.2) → zGc rs cs sl d L kd A nL p l e R s m args below meth c Q σ2 (pc + 1) lv st) : zGc rs cs sl d L kd A nL p l e R s m args below meth c Q σ pc lv (.int x :: .int i :: .ref a :: st) := by
  intro hrm H locs ls hP hD hS hl
  obtain ⟨q0, hq⟩ := zR_at (dA := d.2.2) (kd := kd) rs σ ha.1
  have hq1 := hq
  have he : ∀ τ : zS, zF d.2.2 kd τ a = .inl (d.2.2 15, zn k, .inl (τ.1 a)) := fun τ => by rw [← ha.2]; exact zE_i (by rw [ha.2]; exact hb) (Or.inr (Or.inr rfl))
  rw [he] at hq
  refine va_zast X.1 X.2.1 X.2.2.2.2.2.1 hP hD hS q0 3 hq rfl (zb_in h0 h1) hdg (fun H1 locs1 hP hD2 hS => kk _ rfl hrm H1 locs1 ls ?_ (zR_any hD) hS hl)
  rw [zR_set (σ' := (zu σ.1 a i.toNatClampNeg (vp_nar .boolean x), σ.2.1, σ.2.2)) hD ha.1 hq1 (by rw [he]; simp only [zu_a]; rfl) (fun b hb => by simp only [zF, zu_n _ _ _ hb])] at hP
  exact hP
theorem zg_lald (X : zX d L kd A nL p s m args c cc own) {a k : Nat} {i : Int32} (ha : zT L kd a k) (hb : zb k = 14) (h0 : 0 ≤ i.toInt) (h1 : i.toInt < zn k) (hdg : decode cc pc = .ok (.laload, 1)) (kk : zGc rs cs sl d L kd A nL p l e R s m args below meth c Q σ (pc + 1) lv (.long (σ.2.1 a i.toNatClampNeg) :: st)) : zGc rs cs sl d L kd A nL p l e R s m args below meth c Q σ pc lv (.int i :: .ref a :: st) := by
  intro hrm H locs ls hP hD hS hl
  obtain ⟨q0, hq⟩ := zR_at (dA := d.2.2) (kd := kd) rs σ ha.1
  have he : zF d.2.2 kd σ a = .inl (d.2.2 14, zn (kd a), .inr (.inl (σ.2.1 a))) := zE_l (by rw [ha.2]; exact hb)
  rw [he, ha.2] at hq
  exact va_lald X.1 X.2.1 X.2.2.2.2.2.1 hP q0 2 hq rfl (zb_in h0 h1) hdg (kk hrm H locs ls hP hD hS hl)
theorem zg_last (X : zX d L kd A nL p s m args c cc own) {a k : Nat} {i : Int32} {x : Int64} (ha : zT L kd a k) (hb : zb k = 14) (h0 : 0 ≤ i.toInt) (h1 : i.toInt < zn k) (hdg : decode cc pc = .ok (.lastore, 1)) (kk : ∀ σ2 : zS, σ2 = (σ.1, zu σ.2.1 a i.toNatClampNeg x, σ.2.2) → zGc rs cs sl d L kd A nL p l e R s m args below meth c Q σ2 (pc + 1) lv st) : zGc rs cs sl d L kd A nL p l e R s m args below meth c Q σ pc lv (.long x :: .int i :: .ref a :: st) := by
  intro hrm H locs ls hP hD hS hl
  obtain ⟨q0, hq⟩ := zR_at (dA := d.2.2) (kd := kd) rs σ ha.1
  have hq1 := hq
  have he : ∀ τ : zS, zF d.2.2 kd τ a = .inl (d.2.2 14, zn k, .inr (.inl (τ.2.1 a))) := fun τ => by rw [← ha.2]; exact zE_l (by rw [ha.2]; exact hb)
  rw [he] at hq
  refine va_last X.1 X.2.1 X.2.2.2.2.2.1 hP hD hS q0 2 hq rfl (zb_in h0 h1) hdg (fun H1 locs1 hP hD2 hS => kk _ rfl hrm H1 locs1 ls ?_ (zR_any hD) hS hl)
  rw [zR_set (σ' := (σ.1, zu σ.2.1 a i.toNatClampNeg x, σ.2.2)) hD ha.1 hq1 (by rw [he]; simp only [zu_a]; rfl) (fun b hb => by simp only [zF, zu_n _ _ _ hb])] at hP
  exact hP
theorem zg_aald (X : zX d L kd A nL p s m args c cc own) {a k : Nat} {i : Int32} (ha : zT L kd a k) (hb : zb k = 16) (h0 : 0 ≤ i.toInt) (h1 : i.toInt < zn k) (hdg : decode cc pc = .ok (.aaload, 1)) (kk : zGc rs cs sl d L kd A nL p l e R s m args below meth c Q σ (pc + 1) lv (va_rf (σ.2.2 a i.toNatClampNeg) :: st)) : zGc rs cs sl d L kd A nL p l e R s m args below meth c Q σ pc lv (.int i :: .ref a :: st) := by
  intro hrm H locs ls hP hD hS hl
  obtain ⟨q0, hq⟩ := zR_at (dA := d.2.2) (kd := kd) rs σ ha.1
  have he : zF d.2.2 kd σ a = .inl (d.2.2 16, zn (kd a), .inr (.inr (.inr (.inr (σ.2.2 a))))) := zE_q (by rw [ha.2]; exact hb)
  rw [he, ha.2] at hq
  exact va_aldq X.1 X.2.1 X.2.2.2.2.2.1 hP q0 4 hq rfl (zb_in h0 h1) hdg (kk hrm H locs ls hP hD hS hl)
theorem zg_alen12 (X : zX d L kd A nL p s m args c cc own) {a k : Nat} (ha : zT L kd a k) (hb : zb k = 12) (hlt : zn k < 2147483648) (hdg : decode cc pc = .ok (.arraylength, 1)) (kk : ∀ v : Int32, v.toInt = zn k → zGc rs cs sl d L kd A nL p l e R s m args below meth c Q σ (pc + 1) lv (.int v :: st)) : zGc rs cs sl d L kd A nL p l e R s m args below meth c Q σ pc lv (.ref a :: st) := by
  intro hrm H locs ls hP hD hS hl
  obtain ⟨q0, hq⟩ := zR_at (dA := d.2.2) (kd := kd) rs σ ha.1
  have he : zF d.2.2 kd σ a = .inl (d.2.2 12, zn (kd a), .inl (σ.1 a)) := zE_i (by rw [ha.2]; exact hb) (Or.inl rfl)
  rw [he, ha.2] at hq
  exact va_alen (tys := zty d.2.2) (ty := .byte) X.1 X.2.1 X.2.2.2.2.2.1 hP q0 0 hq rfl rfl hdg (kk _ (nI_toInt hlt) hrm H locs ls hP hD hS hl)
theorem zg_alen13 (X : zX d L kd A nL p s m args c cc own) {a k : Nat} (ha : zT L kd a k) (hb : zb k = 13) (hlt : zn k < 2147483648) (hdg : decode cc pc = .ok (.arraylength, 1)) (kk : ∀ v : Int32, v.toInt = zn k → zGc rs cs sl d L kd A nL p l e R s m args below meth c Q σ (pc + 1) lv (.int v :: st)) : zGc rs cs sl d L kd A nL p l e R s m args below meth c Q σ pc lv (.ref a :: st) := by
  intro hrm H locs ls hP hD hS hl
  obtain ⟨q0, hq⟩ := zR_at (dA := d.2.2) (kd := kd) rs σ ha.1
  have he : zF d.2.2 kd σ a = .inl (d.2.2 13, zn (kd a), .inl (σ.1 a)) := zE_i (by rw [ha.2]; exact hb) (Or.inr (Or.inl rfl))
  rw [he, ha.2] at hq
  exact va_alen (tys := zty d.2.2) (ty := .int) X.1 X.2.1 X.2.2.2.2.2.1 hP q0 1 hq rfl rfl hdg (kk _ (nI_toInt hlt) hrm H locs ls hP hD hS hl)
end ZROWS
end
