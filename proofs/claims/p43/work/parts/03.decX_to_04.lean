-- 03.decX
section
def zrk_cX0_init_0 : ByteArray := .mk #[42, 183, 0, 1, 42, 16, 9]
theorem zrw_cX0_init_0 : zrW 0 cX0_init zrk_cX0_init_0 := by unfold zrW; decide +kernel
theorem dX0_init_0 : decode cX0_init 0 = .ok (.aload_n 0, 1) := zrD zrw_cX0_init_0 (i := 0) (by decide +kernel) rfl
theorem dX0_init_1 : decode cX0_init 1 = .ok (.invokespecial 1, 3) := zrD zrw_cX0_init_0 (i := 1) (by decide +kernel) rfl
theorem dX0_init_4 : decode cX0_init 4 = .ok (.aload_n 0, 1) := zrD zrw_cX0_init_0 (i := 4) (by decide +kernel) rfl
theorem dX0_init_5 : decode cX0_init 5 = .ok (.bipush 9, 2) := zrD zrw_cX0_init_0 (i := 5) (by decide +kernel) rfl
theorem dX0_init_7 : decode cX0_init 7 = .ok (.newarray .int, 2) := by decide +kernel
def zrk_cX0_init_9 : ByteArray := .mk #[181, 0, 9, 42, 16, 32]
theorem zrw_cX0_init_9 : zrW 9 cX0_init zrk_cX0_init_9 := by unfold zrW; decide +kernel
theorem dX0_init_9 : decode cX0_init 9 = .ok (.putfield 9, 3) := zrD zrw_cX0_init_9 (i := 0) (by decide +kernel) rfl
theorem dX0_init_12 : decode cX0_init 12 = .ok (.aload_n 0, 1) := zrD zrw_cX0_init_9 (i := 3) (by decide +kernel) rfl
theorem dX0_init_13 : decode cX0_init 13 = .ok (.bipush 32, 2) := zrD zrw_cX0_init_9 (i := 4) (by decide +kernel) rfl
theorem dX0_init_15 : decode cX0_init 15 = .ok (.newarray .int, 2) := by decide +kernel
def zrk_cX0_init_17 : ByteArray := .mk #[181, 0, 13, 177]
theorem zrw_cX0_init_17 : zrW 17 cX0_init zrk_cX0_init_17 := by unfold zrW; decide +kernel
theorem dX0_init_17 : decode cX0_init 17 = .ok (.putfield 13, 3) := zrD zrw_cX0_init_17 (i := 0) (by decide +kernel) rfl
theorem dX0_init_20 : decode cX0_init 20 = .ok (.return_, 1) := zrD zrw_cX0_init_17 (i := 3) (by decide +kernel) rfl
def zrk_cX0_answer_0 : ByteArray := .mk #[3, 62, 43, 180, 0, 16, 28, 46, 54, 4, 3, 54, 5, 21, 5, 17, 1, 164, 162, 1, 37, 21, 4, 155, 1, 32, 21, 4, 43, 180, 0, 21]
theorem zrw_cX0_answer_0 : zrW 0 cX0_answer zrk_cX0_answer_0 := by unfold zrW; decide +kernel
theorem dX0_answer_0 : decode cX0_answer 0 = .ok (.iconst 0, 1) := zrD zrw_cX0_answer_0 (i := 0) (by decide +kernel) rfl
theorem dX0_answer_1 : decode cX0_answer 1 = .ok (.istore_n 3, 1) := zrD zrw_cX0_answer_0 (i := 1) (by decide +kernel) rfl
theorem dX0_answer_2 : decode cX0_answer 2 = .ok (.aload_n 1, 1) := zrD zrw_cX0_answer_0 (i := 2) (by decide +kernel) rfl
theorem dX0_answer_3 : decode cX0_answer 3 = .ok (.getfield 16, 3) := zrD zrw_cX0_answer_0 (i := 3) (by decide +kernel) rfl
theorem dX0_answer_6 : decode cX0_answer 6 = .ok (.iload_n 2, 1) := zrD zrw_cX0_answer_0 (i := 6) (by decide +kernel) rfl
theorem dX0_answer_7 : decode cX0_answer 7 = .ok (.iaload, 1) := zrD zrw_cX0_answer_0 (i := 7) (by decide +kernel) rfl
theorem dX0_answer_8 : decode cX0_answer 8 = .ok (.istore 4, 2) := zrD zrw_cX0_answer_0 (i := 8) (by decide +kernel) rfl
theorem dX0_answer_10 : decode cX0_answer 10 = .ok (.iconst 0, 1) := zrD zrw_cX0_answer_0 (i := 10) (by decide +kernel) rfl
theorem dX0_answer_11 : decode cX0_answer 11 = .ok (.istore 5, 2) := zrD zrw_cX0_answer_0 (i := 11) (by decide +kernel) rfl
theorem dX0_answer_13 : decode cX0_answer 13 = .ok (.iload 5, 2) := zrD zrw_cX0_answer_0 (i := 13) (by decide +kernel) rfl
theorem dX0_answer_15 : decode cX0_answer 15 = .ok (.sipush 420, 3) := zrD zrw_cX0_answer_0 (i := 15) (by decide +kernel) rfl
theorem dX0_answer_18 : decode cX0_answer 18 = .ok (.if_icmp .ge 293, 3) := zrD zrw_cX0_answer_0 (i := 18) (by decide +kernel) rfl
theorem dX0_answer_21 : decode cX0_answer 21 = .ok (.iload 4, 2) := zrD zrw_cX0_answer_0 (i := 21) (by decide +kernel) rfl
theorem dX0_answer_23 : decode cX0_answer 23 = .ok (.ifCond .lt 288, 3) := zrD zrw_cX0_answer_0 (i := 23) (by decide +kernel) rfl
theorem dX0_answer_26 : decode cX0_answer 26 = .ok (.iload 4, 2) := zrD zrw_cX0_answer_0 (i := 26) (by decide +kernel) rfl
theorem dX0_answer_28 : decode cX0_answer 28 = .ok (.aload_n 1, 1) := zrD zrw_cX0_answer_0 (i := 28) (by decide +kernel) rfl
theorem dX0_answer_29 : decode cX0_answer 29 = .ok (.getfield 21, 3) := zrD zrw_cX0_answer_0 (i := 29) (by decide +kernel) rfl
def zrk_cX0_answer_32 : ByteArray := .mk #[162, 1, 23, 43, 180, 0, 25, 21, 4, 46, 54, 6, 43, 180, 0, 28, 21, 4, 46, 54, 7, 132, 4, 1, 21, 6, 16, 7, 160, 0, 20, 29]
theorem zrw_cX0_answer_32 : zrW 32 cX0_answer zrk_cX0_answer_32 := by unfold zrW; decide +kernel
theorem dX0_answer_32 : decode cX0_answer 32 = .ok (.if_icmp .ge 279, 3) := zrD zrw_cX0_answer_32 (i := 0) (by decide +kernel) rfl
theorem dX0_answer_35 : decode cX0_answer 35 = .ok (.aload_n 1, 1) := zrD zrw_cX0_answer_32 (i := 3) (by decide +kernel) rfl
theorem dX0_answer_36 : decode cX0_answer 36 = .ok (.getfield 25, 3) := zrD zrw_cX0_answer_32 (i := 4) (by decide +kernel) rfl
theorem dX0_answer_39 : decode cX0_answer 39 = .ok (.iload 4, 2) := zrD zrw_cX0_answer_32 (i := 7) (by decide +kernel) rfl
theorem dX0_answer_41 : decode cX0_answer 41 = .ok (.iaload, 1) := zrD zrw_cX0_answer_32 (i := 9) (by decide +kernel) rfl
theorem dX0_answer_42 : decode cX0_answer 42 = .ok (.istore 6, 2) := zrD zrw_cX0_answer_32 (i := 10) (by decide +kernel) rfl
theorem dX0_answer_44 : decode cX0_answer 44 = .ok (.aload_n 1, 1) := zrD zrw_cX0_answer_32 (i := 12) (by decide +kernel) rfl
theorem dX0_answer_45 : decode cX0_answer 45 = .ok (.getfield 28, 3) := zrD zrw_cX0_answer_32 (i := 13) (by decide +kernel) rfl
theorem dX0_answer_48 : decode cX0_answer 48 = .ok (.iload 4, 2) := zrD zrw_cX0_answer_32 (i := 16) (by decide +kernel) rfl
theorem dX0_answer_50 : decode cX0_answer 50 = .ok (.iaload, 1) := zrD zrw_cX0_answer_32 (i := 18) (by decide +kernel) rfl
theorem dX0_answer_51 : decode cX0_answer 51 = .ok (.istore 7, 2) := zrD zrw_cX0_answer_32 (i := 19) (by decide +kernel) rfl
theorem dX0_answer_53 : decode cX0_answer 53 = .ok (.iinc 4 1, 3) := zrD zrw_cX0_answer_32 (i := 21) (by decide +kernel) rfl
theorem dX0_answer_56 : decode cX0_answer 56 = .ok (.iload 6, 2) := zrD zrw_cX0_answer_32 (i := 24) (by decide +kernel) rfl
theorem dX0_answer_58 : decode cX0_answer 58 = .ok (.bipush 7, 2) := zrD zrw_cX0_answer_32 (i := 26) (by decide +kernel) rfl
theorem dX0_answer_60 : decode cX0_answer 60 = .ok (.if_icmp .ne 20, 3) := zrD zrw_cX0_answer_32 (i := 28) (by decide +kernel) rfl
theorem dX0_answer_63 : decode cX0_answer 63 = .ok (.iload_n 3, 1) := zrD zrw_cX0_answer_32 (i := 31) (by decide +kernel) rfl
def zrk_cX0_answer_64 : ByteArray := .mk #[158, 0, 14, 42, 180, 0, 13, 29, 4, 100, 46, 167, 0, 4, 3, 172, 21, 6, 153, 0, 9, 21, 6, 4, 160, 0, 58, 29, 16, 32]
theorem zrw_cX0_answer_64 : zrW 64 cX0_answer zrk_cX0_answer_64 := by unfold zrW; decide +kernel
theorem dX0_answer_64 : decode cX0_answer 64 = .ok (.ifCond .le 14, 3) := zrD zrw_cX0_answer_64 (i := 0) (by decide +kernel) rfl
theorem dX0_answer_67 : decode cX0_answer 67 = .ok (.aload_n 0, 1) := zrD zrw_cX0_answer_64 (i := 3) (by decide +kernel) rfl
theorem dX0_answer_68 : decode cX0_answer 68 = .ok (.getfield 13, 3) := zrD zrw_cX0_answer_64 (i := 4) (by decide +kernel) rfl
theorem dX0_answer_71 : decode cX0_answer 71 = .ok (.iload_n 3, 1) := zrD zrw_cX0_answer_64 (i := 7) (by decide +kernel) rfl
theorem dX0_answer_72 : decode cX0_answer 72 = .ok (.iconst 1, 1) := zrD zrw_cX0_answer_64 (i := 8) (by decide +kernel) rfl
theorem dX0_answer_73 : decode cX0_answer 73 = .ok (.isub, 1) := zrD zrw_cX0_answer_64 (i := 9) (by decide +kernel) rfl
theorem dX0_answer_74 : decode cX0_answer 74 = .ok (.iaload, 1) := zrD zrw_cX0_answer_64 (i := 10) (by decide +kernel) rfl
theorem dX0_answer_75 : decode cX0_answer 75 = .ok (.goto 4, 3) := zrD zrw_cX0_answer_64 (i := 11) (by decide +kernel) rfl
theorem dX0_answer_78 : decode cX0_answer 78 = .ok (.iconst 0, 1) := zrD zrw_cX0_answer_64 (i := 14) (by decide +kernel) rfl
theorem dX0_answer_79 : decode cX0_answer 79 = .ok (.ireturn, 1) := zrD zrw_cX0_answer_64 (i := 15) (by decide +kernel) rfl
theorem dX0_answer_80 : decode cX0_answer 80 = .ok (.iload 6, 2) := zrD zrw_cX0_answer_64 (i := 16) (by decide +kernel) rfl
theorem dX0_answer_82 : decode cX0_answer 82 = .ok (.ifCond .eq 9, 3) := zrD zrw_cX0_answer_64 (i := 18) (by decide +kernel) rfl
theorem dX0_answer_85 : decode cX0_answer 85 = .ok (.iload 6, 2) := zrD zrw_cX0_answer_64 (i := 21) (by decide +kernel) rfl
theorem dX0_answer_87 : decode cX0_answer 87 = .ok (.iconst 1, 1) := zrD zrw_cX0_answer_64 (i := 23) (by decide +kernel) rfl
theorem dX0_answer_88 : decode cX0_answer 88 = .ok (.if_icmp .ne 58, 3) := zrD zrw_cX0_answer_64 (i := 24) (by decide +kernel) rfl
theorem dX0_answer_91 : decode cX0_answer 91 = .ok (.iload_n 3, 1) := zrD zrw_cX0_answer_64 (i := 27) (by decide +kernel) rfl
theorem dX0_answer_92 : decode cX0_answer 92 = .ok (.bipush 32, 2) := zrD zrw_cX0_answer_64 (i := 28) (by decide +kernel) rfl
def zrk_cX0_answer_94 : ByteArray := .mk #[162, 0, 21, 21, 7, 155, 0, 16, 21, 6, 4, 160, 0, 12, 21, 7, 16, 9, 161, 0, 5, 3, 172, 42, 180, 0, 13, 29, 21, 6]
theorem zrw_cX0_answer_94 : zrW 94 cX0_answer zrk_cX0_answer_94 := by unfold zrW; decide +kernel
theorem dX0_answer_94 : decode cX0_answer 94 = .ok (.if_icmp .ge 21, 3) := zrD zrw_cX0_answer_94 (i := 0) (by decide +kernel) rfl
theorem dX0_answer_97 : decode cX0_answer 97 = .ok (.iload 7, 2) := zrD zrw_cX0_answer_94 (i := 3) (by decide +kernel) rfl
theorem dX0_answer_99 : decode cX0_answer 99 = .ok (.ifCond .lt 16, 3) := zrD zrw_cX0_answer_94 (i := 5) (by decide +kernel) rfl
theorem dX0_answer_102 : decode cX0_answer 102 = .ok (.iload 6, 2) := zrD zrw_cX0_answer_94 (i := 8) (by decide +kernel) rfl
theorem dX0_answer_104 : decode cX0_answer 104 = .ok (.iconst 1, 1) := zrD zrw_cX0_answer_94 (i := 10) (by decide +kernel) rfl
theorem dX0_answer_105 : decode cX0_answer 105 = .ok (.if_icmp .ne 12, 3) := zrD zrw_cX0_answer_94 (i := 11) (by decide +kernel) rfl
theorem dX0_answer_108 : decode cX0_answer 108 = .ok (.iload 7, 2) := zrD zrw_cX0_answer_94 (i := 14) (by decide +kernel) rfl
theorem dX0_answer_110 : decode cX0_answer 110 = .ok (.bipush 9, 2) := zrD zrw_cX0_answer_94 (i := 16) (by decide +kernel) rfl
theorem dX0_answer_112 : decode cX0_answer 112 = .ok (.if_icmp .lt 5, 3) := zrD zrw_cX0_answer_94 (i := 18) (by decide +kernel) rfl
theorem dX0_answer_115 : decode cX0_answer 115 = .ok (.iconst 0, 1) := zrD zrw_cX0_answer_94 (i := 21) (by decide +kernel) rfl
theorem dX0_answer_116 : decode cX0_answer 116 = .ok (.ireturn, 1) := zrD zrw_cX0_answer_94 (i := 22) (by decide +kernel) rfl
theorem dX0_answer_117 : decode cX0_answer 117 = .ok (.aload_n 0, 1) := zrD zrw_cX0_answer_94 (i := 23) (by decide +kernel) rfl
theorem dX0_answer_118 : decode cX0_answer 118 = .ok (.getfield 13, 3) := zrD zrw_cX0_answer_94 (i := 24) (by decide +kernel) rfl
theorem dX0_answer_121 : decode cX0_answer 121 = .ok (.iload_n 3, 1) := zrD zrw_cX0_answer_94 (i := 27) (by decide +kernel) rfl
theorem dX0_answer_122 : decode cX0_answer 122 = .ok (.iload 6, 2) := zrD zrw_cX0_answer_94 (i := 28) (by decide +kernel) rfl
def zrk_cX0_answer_124 : ByteArray := .mk #[154, 0, 8, 21, 7, 167, 0, 10, 42, 180, 0, 9, 21, 7, 46, 79, 132, 3, 1, 167, 0, 162, 29, 5, 162, 0, 5, 3, 172, 132, 3, 255]
theorem zrw_cX0_answer_124 : zrW 124 cX0_answer zrk_cX0_answer_124 := by unfold zrW; decide +kernel
theorem dX0_answer_124 : decode cX0_answer 124 = .ok (.ifCond .ne 8, 3) := zrD zrw_cX0_answer_124 (i := 0) (by decide +kernel) rfl
theorem dX0_answer_127 : decode cX0_answer 127 = .ok (.iload 7, 2) := zrD zrw_cX0_answer_124 (i := 3) (by decide +kernel) rfl
theorem dX0_answer_129 : decode cX0_answer 129 = .ok (.goto 10, 3) := zrD zrw_cX0_answer_124 (i := 5) (by decide +kernel) rfl
theorem dX0_answer_132 : decode cX0_answer 132 = .ok (.aload_n 0, 1) := zrD zrw_cX0_answer_124 (i := 8) (by decide +kernel) rfl
theorem dX0_answer_133 : decode cX0_answer 133 = .ok (.getfield 9, 3) := zrD zrw_cX0_answer_124 (i := 9) (by decide +kernel) rfl
theorem dX0_answer_136 : decode cX0_answer 136 = .ok (.iload 7, 2) := zrD zrw_cX0_answer_124 (i := 12) (by decide +kernel) rfl
theorem dX0_answer_138 : decode cX0_answer 138 = .ok (.iaload, 1) := zrD zrw_cX0_answer_124 (i := 14) (by decide +kernel) rfl
theorem dX0_answer_139 : decode cX0_answer 139 = .ok (.iastore, 1) := zrD zrw_cX0_answer_124 (i := 15) (by decide +kernel) rfl
theorem dX0_answer_140 : decode cX0_answer 140 = .ok (.iinc 3 1, 3) := zrD zrw_cX0_answer_124 (i := 16) (by decide +kernel) rfl
theorem dX0_answer_143 : decode cX0_answer 143 = .ok (.goto 162, 3) := zrD zrw_cX0_answer_124 (i := 19) (by decide +kernel) rfl
theorem dX0_answer_146 : decode cX0_answer 146 = .ok (.iload_n 3, 1) := zrD zrw_cX0_answer_124 (i := 22) (by decide +kernel) rfl
theorem dX0_answer_147 : decode cX0_answer 147 = .ok (.iconst 2, 1) := zrD zrw_cX0_answer_124 (i := 23) (by decide +kernel) rfl
theorem dX0_answer_148 : decode cX0_answer 148 = .ok (.if_icmp .ge 5, 3) := zrD zrw_cX0_answer_124 (i := 24) (by decide +kernel) rfl
theorem dX0_answer_151 : decode cX0_answer 151 = .ok (.iconst 0, 1) := zrD zrw_cX0_answer_124 (i := 27) (by decide +kernel) rfl
theorem dX0_answer_152 : decode cX0_answer 152 = .ok (.ireturn, 1) := zrD zrw_cX0_answer_124 (i := 28) (by decide +kernel) rfl
theorem dX0_answer_153 : decode cX0_answer 153 = .ok (.iinc 3 (-1), 3) := zrD zrw_cX0_answer_124 (i := 29) (by decide +kernel) rfl
def zrk_cX0_answer_156 : ByteArray := .mk #[42, 180, 0, 13, 29, 46, 54, 8, 42, 180, 0, 13, 29, 4, 100, 46, 54, 9, 21, 6]
theorem zrw_cX0_answer_156 : zrW 156 cX0_answer zrk_cX0_answer_156 := by unfold zrW; decide +kernel
theorem dX0_answer_156 : decode cX0_answer 156 = .ok (.aload_n 0, 1) := zrD zrw_cX0_answer_156 (i := 0) (by decide +kernel) rfl
theorem dX0_answer_157 : decode cX0_answer 157 = .ok (.getfield 13, 3) := zrD zrw_cX0_answer_156 (i := 1) (by decide +kernel) rfl
theorem dX0_answer_160 : decode cX0_answer 160 = .ok (.iload_n 3, 1) := zrD zrw_cX0_answer_156 (i := 4) (by decide +kernel) rfl
theorem dX0_answer_161 : decode cX0_answer 161 = .ok (.iaload, 1) := zrD zrw_cX0_answer_156 (i := 5) (by decide +kernel) rfl
theorem dX0_answer_162 : decode cX0_answer 162 = .ok (.istore 8, 2) := zrD zrw_cX0_answer_156 (i := 6) (by decide +kernel) rfl
theorem dX0_answer_164 : decode cX0_answer 164 = .ok (.aload_n 0, 1) := zrD zrw_cX0_answer_156 (i := 8) (by decide +kernel) rfl
theorem dX0_answer_165 : decode cX0_answer 165 = .ok (.getfield 13, 3) := zrD zrw_cX0_answer_156 (i := 9) (by decide +kernel) rfl
theorem dX0_answer_168 : decode cX0_answer 168 = .ok (.iload_n 3, 1) := zrD zrw_cX0_answer_156 (i := 12) (by decide +kernel) rfl
theorem dX0_answer_169 : decode cX0_answer 169 = .ok (.iconst 1, 1) := zrD zrw_cX0_answer_156 (i := 13) (by decide +kernel) rfl
theorem dX0_answer_170 : decode cX0_answer 170 = .ok (.isub, 1) := zrD zrw_cX0_answer_156 (i := 14) (by decide +kernel) rfl
theorem dX0_answer_171 : decode cX0_answer 171 = .ok (.iaload, 1) := zrD zrw_cX0_answer_156 (i := 15) (by decide +kernel) rfl
theorem dX0_answer_172 : decode cX0_answer 172 = .ok (.istore 9, 2) := zrD zrw_cX0_answer_156 (i := 16) (by decide +kernel) rfl
theorem dX0_answer_174 : decode cX0_answer 174 = .ok (.iload 6, 2) := zrD zrw_cX0_answer_156 (i := 18) (by decide +kernel) rfl
theorem dX0_answer_176 : decode cX0_answer 176 = .ok (.tableswitch 103 2 5 #[32, 48, 64, 80], 32) := by decide +kernel
def zrk_cX0_answer_208 : ByteArray := .mk #[42, 180, 0, 13, 29, 4, 100, 21, 9, 21, 8, 96, 79, 167, 0, 84, 42, 180, 0, 13, 29, 4, 100, 21, 9, 21, 8, 100, 79, 167, 0, 68]
theorem zrw_cX0_answer_208 : zrW 208 cX0_answer zrk_cX0_answer_208 := by unfold zrW; decide +kernel
theorem dX0_answer_208 : decode cX0_answer 208 = .ok (.aload_n 0, 1) := zrD zrw_cX0_answer_208 (i := 0) (by decide +kernel) rfl
theorem dX0_answer_209 : decode cX0_answer 209 = .ok (.getfield 13, 3) := zrD zrw_cX0_answer_208 (i := 1) (by decide +kernel) rfl
theorem dX0_answer_212 : decode cX0_answer 212 = .ok (.iload_n 3, 1) := zrD zrw_cX0_answer_208 (i := 4) (by decide +kernel) rfl
theorem dX0_answer_213 : decode cX0_answer 213 = .ok (.iconst 1, 1) := zrD zrw_cX0_answer_208 (i := 5) (by decide +kernel) rfl
theorem dX0_answer_214 : decode cX0_answer 214 = .ok (.isub, 1) := zrD zrw_cX0_answer_208 (i := 6) (by decide +kernel) rfl
theorem dX0_answer_215 : decode cX0_answer 215 = .ok (.iload 9, 2) := zrD zrw_cX0_answer_208 (i := 7) (by decide +kernel) rfl
theorem dX0_answer_217 : decode cX0_answer 217 = .ok (.iload 8, 2) := zrD zrw_cX0_answer_208 (i := 9) (by decide +kernel) rfl
theorem dX0_answer_219 : decode cX0_answer 219 = .ok (.iadd, 1) := zrD zrw_cX0_answer_208 (i := 11) (by decide +kernel) rfl
theorem dX0_answer_220 : decode cX0_answer 220 = .ok (.iastore, 1) := zrD zrw_cX0_answer_208 (i := 12) (by decide +kernel) rfl
theorem dX0_answer_221 : decode cX0_answer 221 = .ok (.goto 84, 3) := zrD zrw_cX0_answer_208 (i := 13) (by decide +kernel) rfl
theorem dX0_answer_224 : decode cX0_answer 224 = .ok (.aload_n 0, 1) := zrD zrw_cX0_answer_208 (i := 16) (by decide +kernel) rfl
theorem dX0_answer_225 : decode cX0_answer 225 = .ok (.getfield 13, 3) := zrD zrw_cX0_answer_208 (i := 17) (by decide +kernel) rfl
theorem dX0_answer_228 : decode cX0_answer 228 = .ok (.iload_n 3, 1) := zrD zrw_cX0_answer_208 (i := 20) (by decide +kernel) rfl
theorem dX0_answer_229 : decode cX0_answer 229 = .ok (.iconst 1, 1) := zrD zrw_cX0_answer_208 (i := 21) (by decide +kernel) rfl
theorem dX0_answer_230 : decode cX0_answer 230 = .ok (.isub, 1) := zrD zrw_cX0_answer_208 (i := 22) (by decide +kernel) rfl
theorem dX0_answer_231 : decode cX0_answer 231 = .ok (.iload 9, 2) := zrD zrw_cX0_answer_208 (i := 23) (by decide +kernel) rfl
theorem dX0_answer_233 : decode cX0_answer 233 = .ok (.iload 8, 2) := zrD zrw_cX0_answer_208 (i := 25) (by decide +kernel) rfl
theorem dX0_answer_235 : decode cX0_answer 235 = .ok (.isub, 1) := zrD zrw_cX0_answer_208 (i := 27) (by decide +kernel) rfl
theorem dX0_answer_236 : decode cX0_answer 236 = .ok (.iastore, 1) := zrD zrw_cX0_answer_208 (i := 28) (by decide +kernel) rfl
theorem dX0_answer_237 : decode cX0_answer 237 = .ok (.goto 68, 3) := zrD zrw_cX0_answer_208 (i := 29) (by decide +kernel) rfl
def zrk_cX0_answer_240 : ByteArray := .mk #[42, 180, 0, 13, 29, 4, 100, 21, 9, 21, 8, 104, 79, 167, 0, 52, 21, 8, 154, 0, 5, 3, 172, 42, 180, 0, 13, 29, 4, 100, 21, 9]
theorem zrw_cX0_answer_240 : zrW 240 cX0_answer zrk_cX0_answer_240 := by unfold zrW; decide +kernel
theorem dX0_answer_240 : decode cX0_answer 240 = .ok (.aload_n 0, 1) := zrD zrw_cX0_answer_240 (i := 0) (by decide +kernel) rfl
theorem dX0_answer_241 : decode cX0_answer 241 = .ok (.getfield 13, 3) := zrD zrw_cX0_answer_240 (i := 1) (by decide +kernel) rfl
theorem dX0_answer_244 : decode cX0_answer 244 = .ok (.iload_n 3, 1) := zrD zrw_cX0_answer_240 (i := 4) (by decide +kernel) rfl
theorem dX0_answer_245 : decode cX0_answer 245 = .ok (.iconst 1, 1) := zrD zrw_cX0_answer_240 (i := 5) (by decide +kernel) rfl
theorem dX0_answer_246 : decode cX0_answer 246 = .ok (.isub, 1) := zrD zrw_cX0_answer_240 (i := 6) (by decide +kernel) rfl
theorem dX0_answer_247 : decode cX0_answer 247 = .ok (.iload 9, 2) := zrD zrw_cX0_answer_240 (i := 7) (by decide +kernel) rfl
theorem dX0_answer_249 : decode cX0_answer 249 = .ok (.iload 8, 2) := zrD zrw_cX0_answer_240 (i := 9) (by decide +kernel) rfl
theorem dX0_answer_251 : decode cX0_answer 251 = .ok (.imul, 1) := zrD zrw_cX0_answer_240 (i := 11) (by decide +kernel) rfl
theorem dX0_answer_252 : decode cX0_answer 252 = .ok (.iastore, 1) := zrD zrw_cX0_answer_240 (i := 12) (by decide +kernel) rfl
theorem dX0_answer_253 : decode cX0_answer 253 = .ok (.goto 52, 3) := zrD zrw_cX0_answer_240 (i := 13) (by decide +kernel) rfl
theorem dX0_answer_256 : decode cX0_answer 256 = .ok (.iload 8, 2) := zrD zrw_cX0_answer_240 (i := 16) (by decide +kernel) rfl
theorem dX0_answer_258 : decode cX0_answer 258 = .ok (.ifCond .ne 5, 3) := zrD zrw_cX0_answer_240 (i := 18) (by decide +kernel) rfl
theorem dX0_answer_261 : decode cX0_answer 261 = .ok (.iconst 0, 1) := zrD zrw_cX0_answer_240 (i := 21) (by decide +kernel) rfl
theorem dX0_answer_262 : decode cX0_answer 262 = .ok (.ireturn, 1) := zrD zrw_cX0_answer_240 (i := 22) (by decide +kernel) rfl
theorem dX0_answer_263 : decode cX0_answer 263 = .ok (.aload_n 0, 1) := zrD zrw_cX0_answer_240 (i := 23) (by decide +kernel) rfl
theorem dX0_answer_264 : decode cX0_answer 264 = .ok (.getfield 13, 3) := zrD zrw_cX0_answer_240 (i := 24) (by decide +kernel) rfl
theorem dX0_answer_267 : decode cX0_answer 267 = .ok (.iload_n 3, 1) := zrD zrw_cX0_answer_240 (i := 27) (by decide +kernel) rfl
theorem dX0_answer_268 : decode cX0_answer 268 = .ok (.iconst 1, 1) := zrD zrw_cX0_answer_240 (i := 28) (by decide +kernel) rfl
theorem dX0_answer_269 : decode cX0_answer 269 = .ok (.isub, 1) := zrD zrw_cX0_answer_240 (i := 29) (by decide +kernel) rfl
theorem dX0_answer_270 : decode cX0_answer 270 = .ok (.iload 9, 2) := zrD zrw_cX0_answer_240 (i := 30) (by decide +kernel) rfl
def zrk_cX0_answer_272 : ByteArray := .mk #[21, 8, 108, 79, 167, 0, 29, 132, 3, 255, 21, 9, 21, 8, 161, 0, 15, 21, 7, 21, 4, 164, 0, 8, 21, 7, 167, 0, 5, 21, 4]
theorem zrw_cX0_answer_272 : zrW 272 cX0_answer zrk_cX0_answer_272 := by unfold zrW; decide +kernel
theorem dX0_answer_272 : decode cX0_answer 272 = .ok (.iload 8, 2) := zrD zrw_cX0_answer_272 (i := 0) (by decide +kernel) rfl
theorem dX0_answer_274 : decode cX0_answer 274 = .ok (.idiv, 1) := zrD zrw_cX0_answer_272 (i := 2) (by decide +kernel) rfl
theorem dX0_answer_275 : decode cX0_answer 275 = .ok (.iastore, 1) := zrD zrw_cX0_answer_272 (i := 3) (by decide +kernel) rfl
theorem dX0_answer_276 : decode cX0_answer 276 = .ok (.goto 29, 3) := zrD zrw_cX0_answer_272 (i := 4) (by decide +kernel) rfl
theorem dX0_answer_279 : decode cX0_answer 279 = .ok (.iinc 3 (-1), 3) := zrD zrw_cX0_answer_272 (i := 7) (by decide +kernel) rfl
theorem dX0_answer_282 : decode cX0_answer 282 = .ok (.iload 9, 2) := zrD zrw_cX0_answer_272 (i := 10) (by decide +kernel) rfl
theorem dX0_answer_284 : decode cX0_answer 284 = .ok (.iload 8, 2) := zrD zrw_cX0_answer_272 (i := 12) (by decide +kernel) rfl
theorem dX0_answer_286 : decode cX0_answer 286 = .ok (.if_icmp .lt 15, 3) := zrD zrw_cX0_answer_272 (i := 14) (by decide +kernel) rfl
theorem dX0_answer_289 : decode cX0_answer 289 = .ok (.iload 7, 2) := zrD zrw_cX0_answer_272 (i := 17) (by decide +kernel) rfl
theorem dX0_answer_291 : decode cX0_answer 291 = .ok (.iload 4, 2) := zrD zrw_cX0_answer_272 (i := 19) (by decide +kernel) rfl
theorem dX0_answer_293 : decode cX0_answer 293 = .ok (.if_icmp .le 8, 3) := zrD zrw_cX0_answer_272 (i := 21) (by decide +kernel) rfl
theorem dX0_answer_296 : decode cX0_answer 296 = .ok (.iload 7, 2) := zrD zrw_cX0_answer_272 (i := 24) (by decide +kernel) rfl
theorem dX0_answer_298 : decode cX0_answer 298 = .ok (.goto 5, 3) := zrD zrw_cX0_answer_272 (i := 26) (by decide +kernel) rfl
theorem dX0_answer_301 : decode cX0_answer 301 = .ok (.iload 4, 2) := zrD zrw_cX0_answer_272 (i := 29) (by decide +kernel) rfl
def zrk_cX0_answer_303 : ByteArray := .mk #[54, 4, 132, 5, 1, 167, 254, 217, 3, 172]
theorem zrw_cX0_answer_303 : zrW 303 cX0_answer zrk_cX0_answer_303 := by unfold zrW; decide +kernel
theorem dX0_answer_303 : decode cX0_answer 303 = .ok (.istore 4, 2) := zrD zrw_cX0_answer_303 (i := 0) (by decide +kernel) rfl
theorem dX0_answer_305 : decode cX0_answer 305 = .ok (.iinc 5 1, 3) := zrD zrw_cX0_answer_303 (i := 2) (by decide +kernel) rfl
theorem dX0_answer_308 : decode cX0_answer 308 = .ok (.goto (-295), 3) := zrD zrw_cX0_answer_303 (i := 5) (by decide +kernel) rfl
theorem dX0_answer_311 : decode cX0_answer 311 = .ok (.iconst 0, 1) := zrD zrw_cX0_answer_303 (i := 8) (by decide +kernel) rfl
theorem dX0_answer_312 : decode cX0_answer 312 = .ok (.ireturn, 1) := zrD zrw_cX0_answer_303 (i := 9) (by decide +kernel) rfl
def zrk_cX1_init_0 : ByteArray := .mk #[42, 183, 0, 3, 42, 16, 12]
theorem zrw_cX1_init_0 : zrW 0 cX1_init zrk_cX1_init_0 := by unfold zrW; decide +kernel
theorem dX1_init_0 : decode cX1_init 0 = .ok (.aload_n 0, 1) := zrD zrw_cX1_init_0 (i := 0) (by decide +kernel) rfl
theorem dX1_init_1 : decode cX1_init 1 = .ok (.invokespecial 3, 3) := zrD zrw_cX1_init_0 (i := 1) (by decide +kernel) rfl
theorem dX1_init_4 : decode cX1_init 4 = .ok (.aload_n 0, 1) := zrD zrw_cX1_init_0 (i := 4) (by decide +kernel) rfl
theorem dX1_init_5 : decode cX1_init 5 = .ok (.bipush 12, 2) := zrD zrw_cX1_init_0 (i := 5) (by decide +kernel) rfl
theorem dX1_init_7 : decode cX1_init 7 = .ok (.newarray .int, 2) := by decide +kernel
def zrk_cX1_init_9 : ByteArray := .mk #[181, 0, 9, 42, 16, 12]
theorem zrw_cX1_init_9 : zrW 9 cX1_init zrk_cX1_init_9 := by unfold zrW; decide +kernel
theorem dX1_init_9 : decode cX1_init 9 = .ok (.putfield 9, 3) := zrD zrw_cX1_init_9 (i := 0) (by decide +kernel) rfl
theorem dX1_init_12 : decode cX1_init 12 = .ok (.aload_n 0, 1) := zrD zrw_cX1_init_9 (i := 3) (by decide +kernel) rfl
theorem dX1_init_13 : decode cX1_init 13 = .ok (.bipush 12, 2) := zrD zrw_cX1_init_9 (i := 4) (by decide +kernel) rfl
theorem dX1_init_15 : decode cX1_init 15 = .ok (.newarray .int, 2) := by decide +kernel
def zrk_cX1_init_17 : ByteArray := .mk #[181, 0, 15, 42, 16, 12]
theorem zrw_cX1_init_17 : zrW 17 cX1_init zrk_cX1_init_17 := by unfold zrW; decide +kernel
theorem dX1_init_17 : decode cX1_init 17 = .ok (.putfield 15, 3) := zrD zrw_cX1_init_17 (i := 0) (by decide +kernel) rfl
theorem dX1_init_20 : decode cX1_init 20 = .ok (.aload_n 0, 1) := zrD zrw_cX1_init_17 (i := 3) (by decide +kernel) rfl
theorem dX1_init_21 : decode cX1_init 21 = .ok (.bipush 12, 2) := zrD zrw_cX1_init_17 (i := 4) (by decide +kernel) rfl
theorem dX1_init_23 : decode cX1_init 23 = .ok (.newarray .int, 2) := by decide +kernel
def zrk_cX1_init_25 : ByteArray := .mk #[181, 0, 18, 42, 3, 181, 0, 21, 42, 3, 181, 0, 25, 42, 3, 181, 0, 28, 177]
theorem zrw_cX1_init_25 : zrW 25 cX1_init zrk_cX1_init_25 := by unfold zrW; decide +kernel
theorem dX1_init_25 : decode cX1_init 25 = .ok (.putfield 18, 3) := zrD zrw_cX1_init_25 (i := 0) (by decide +kernel) rfl
theorem dX1_init_28 : decode cX1_init 28 = .ok (.aload_n 0, 1) := zrD zrw_cX1_init_25 (i := 3) (by decide +kernel) rfl
theorem dX1_init_29 : decode cX1_init 29 = .ok (.iconst 0, 1) := zrD zrw_cX1_init_25 (i := 4) (by decide +kernel) rfl
theorem dX1_init_30 : decode cX1_init 30 = .ok (.putfield 21, 3) := zrD zrw_cX1_init_25 (i := 5) (by decide +kernel) rfl
theorem dX1_init_33 : decode cX1_init 33 = .ok (.aload_n 0, 1) := zrD zrw_cX1_init_25 (i := 8) (by decide +kernel) rfl
theorem dX1_init_34 : decode cX1_init 34 = .ok (.iconst 0, 1) := zrD zrw_cX1_init_25 (i := 9) (by decide +kernel) rfl
theorem dX1_init_35 : decode cX1_init 35 = .ok (.putfield 25, 3) := zrD zrw_cX1_init_25 (i := 10) (by decide +kernel) rfl
theorem dX1_init_38 : decode cX1_init 38 = .ok (.aload_n 0, 1) := zrD zrw_cX1_init_25 (i := 13) (by decide +kernel) rfl
theorem dX1_init_39 : decode cX1_init 39 = .ok (.iconst 0, 1) := zrD zrw_cX1_init_25 (i := 14) (by decide +kernel) rfl
theorem dX1_init_40 : decode cX1_init 40 = .ok (.putfield 28, 3) := zrD zrw_cX1_init_25 (i := 15) (by decide +kernel) rfl
theorem dX1_init_43 : decode cX1_init 43 = .ok (.return_, 1) := zrD zrw_cX1_init_25 (i := 18) (by decide +kernel) rfl
def zrk_cX1_begin_0 : ByteArray := .mk #[43, 180, 0, 31, 3, 42, 180, 0, 9, 3, 16, 12, 184, 0, 34, 42, 180, 0, 15, 3, 184, 0, 40, 42, 180, 0, 18, 3, 184, 0, 40, 42]
theorem zrw_cX1_begin_0 : zrW 0 cX1_begin zrk_cX1_begin_0 := by unfold zrW; decide +kernel
theorem dX1_begin_0 : decode cX1_begin 0 = .ok (.aload_n 1, 1) := zrD zrw_cX1_begin_0 (i := 0) (by decide +kernel) rfl
theorem dX1_begin_1 : decode cX1_begin 1 = .ok (.getfield 31, 3) := zrD zrw_cX1_begin_0 (i := 1) (by decide +kernel) rfl
theorem dX1_begin_4 : decode cX1_begin 4 = .ok (.iconst 0, 1) := zrD zrw_cX1_begin_0 (i := 4) (by decide +kernel) rfl
theorem dX1_begin_5 : decode cX1_begin 5 = .ok (.aload_n 0, 1) := zrD zrw_cX1_begin_0 (i := 5) (by decide +kernel) rfl
theorem dX1_begin_6 : decode cX1_begin 6 = .ok (.getfield 9, 3) := zrD zrw_cX1_begin_0 (i := 6) (by decide +kernel) rfl
theorem dX1_begin_9 : decode cX1_begin 9 = .ok (.iconst 0, 1) := zrD zrw_cX1_begin_0 (i := 9) (by decide +kernel) rfl
theorem dX1_begin_10 : decode cX1_begin 10 = .ok (.bipush 12, 2) := zrD zrw_cX1_begin_0 (i := 10) (by decide +kernel) rfl
theorem dX1_begin_12 : decode cX1_begin 12 = .ok (.invokestatic 34, 3) := zrD zrw_cX1_begin_0 (i := 12) (by decide +kernel) rfl
theorem dX1_begin_15 : decode cX1_begin 15 = .ok (.aload_n 0, 1) := zrD zrw_cX1_begin_0 (i := 15) (by decide +kernel) rfl
theorem dX1_begin_16 : decode cX1_begin 16 = .ok (.getfield 15, 3) := zrD zrw_cX1_begin_0 (i := 16) (by decide +kernel) rfl
theorem dX1_begin_19 : decode cX1_begin 19 = .ok (.iconst 0, 1) := zrD zrw_cX1_begin_0 (i := 19) (by decide +kernel) rfl
theorem dX1_begin_20 : decode cX1_begin 20 = .ok (.invokestatic 40, 3) := zrD zrw_cX1_begin_0 (i := 20) (by decide +kernel) rfl
theorem dX1_begin_23 : decode cX1_begin 23 = .ok (.aload_n 0, 1) := zrD zrw_cX1_begin_0 (i := 23) (by decide +kernel) rfl
theorem dX1_begin_24 : decode cX1_begin 24 = .ok (.getfield 18, 3) := zrD zrw_cX1_begin_0 (i := 24) (by decide +kernel) rfl
theorem dX1_begin_27 : decode cX1_begin 27 = .ok (.iconst 0, 1) := zrD zrw_cX1_begin_0 (i := 27) (by decide +kernel) rfl
theorem dX1_begin_28 : decode cX1_begin 28 = .ok (.invokestatic 40, 3) := zrD zrw_cX1_begin_0 (i := 28) (by decide +kernel) rfl
theorem dX1_begin_31 : decode cX1_begin 31 = .ok (.aload_n 0, 1) := zrD zrw_cX1_begin_0 (i := 31) (by decide +kernel) rfl
def zrk_cX1_begin_32 : ByteArray := .mk #[3, 181, 0, 21, 42, 3, 181, 0, 25, 42, 3, 181, 0, 28, 177]
theorem zrw_cX1_begin_32 : zrW 32 cX1_begin zrk_cX1_begin_32 := by unfold zrW; decide +kernel
theorem dX1_begin_32 : decode cX1_begin 32 = .ok (.iconst 0, 1) := zrD zrw_cX1_begin_32 (i := 0) (by decide +kernel) rfl
theorem dX1_begin_33 : decode cX1_begin 33 = .ok (.putfield 21, 3) := zrD zrw_cX1_begin_32 (i := 1) (by decide +kernel) rfl
theorem dX1_begin_36 : decode cX1_begin 36 = .ok (.aload_n 0, 1) := zrD zrw_cX1_begin_32 (i := 4) (by decide +kernel) rfl
theorem dX1_begin_37 : decode cX1_begin 37 = .ok (.iconst 0, 1) := zrD zrw_cX1_begin_32 (i := 5) (by decide +kernel) rfl
theorem dX1_begin_38 : decode cX1_begin 38 = .ok (.putfield 25, 3) := zrD zrw_cX1_begin_32 (i := 6) (by decide +kernel) rfl
theorem dX1_begin_41 : decode cX1_begin 41 = .ok (.aload_n 0, 1) := zrD zrw_cX1_begin_32 (i := 9) (by decide +kernel) rfl
theorem dX1_begin_42 : decode cX1_begin 42 = .ok (.iconst 0, 1) := zrD zrw_cX1_begin_32 (i := 10) (by decide +kernel) rfl
theorem dX1_begin_43 : decode cX1_begin 43 = .ok (.putfield 28, 3) := zrD zrw_cX1_begin_32 (i := 11) (by decide +kernel) rfl
theorem dX1_begin_46 : decode cX1_begin 46 = .ok (.return_, 1) := zrD zrw_cX1_begin_32 (i := 14) (by decide +kernel) rfl
def zrk_cX1_copy_0 : ByteArray := .mk #[43, 180, 0, 9, 3, 42, 180, 0, 9, 3, 16, 12, 184, 0, 34, 43, 180, 0, 15, 3, 42, 180, 0, 15, 3, 16, 12, 184, 0, 34, 43]
theorem zrw_cX1_copy_0 : zrW 0 cX1_copy zrk_cX1_copy_0 := by unfold zrW; decide +kernel
theorem dX1_copy_0 : decode cX1_copy 0 = .ok (.aload_n 1, 1) := zrD zrw_cX1_copy_0 (i := 0) (by decide +kernel) rfl
theorem dX1_copy_1 : decode cX1_copy 1 = .ok (.getfield 9, 3) := zrD zrw_cX1_copy_0 (i := 1) (by decide +kernel) rfl
theorem dX1_copy_4 : decode cX1_copy 4 = .ok (.iconst 0, 1) := zrD zrw_cX1_copy_0 (i := 4) (by decide +kernel) rfl
theorem dX1_copy_5 : decode cX1_copy 5 = .ok (.aload_n 0, 1) := zrD zrw_cX1_copy_0 (i := 5) (by decide +kernel) rfl
theorem dX1_copy_6 : decode cX1_copy 6 = .ok (.getfield 9, 3) := zrD zrw_cX1_copy_0 (i := 6) (by decide +kernel) rfl
theorem dX1_copy_9 : decode cX1_copy 9 = .ok (.iconst 0, 1) := zrD zrw_cX1_copy_0 (i := 9) (by decide +kernel) rfl
theorem dX1_copy_10 : decode cX1_copy 10 = .ok (.bipush 12, 2) := zrD zrw_cX1_copy_0 (i := 10) (by decide +kernel) rfl
theorem dX1_copy_12 : decode cX1_copy 12 = .ok (.invokestatic 34, 3) := zrD zrw_cX1_copy_0 (i := 12) (by decide +kernel) rfl
theorem dX1_copy_15 : decode cX1_copy 15 = .ok (.aload_n 1, 1) := zrD zrw_cX1_copy_0 (i := 15) (by decide +kernel) rfl
theorem dX1_copy_16 : decode cX1_copy 16 = .ok (.getfield 15, 3) := zrD zrw_cX1_copy_0 (i := 16) (by decide +kernel) rfl
theorem dX1_copy_19 : decode cX1_copy 19 = .ok (.iconst 0, 1) := zrD zrw_cX1_copy_0 (i := 19) (by decide +kernel) rfl
theorem dX1_copy_20 : decode cX1_copy 20 = .ok (.aload_n 0, 1) := zrD zrw_cX1_copy_0 (i := 20) (by decide +kernel) rfl
theorem dX1_copy_21 : decode cX1_copy 21 = .ok (.getfield 15, 3) := zrD zrw_cX1_copy_0 (i := 21) (by decide +kernel) rfl
theorem dX1_copy_24 : decode cX1_copy 24 = .ok (.iconst 0, 1) := zrD zrw_cX1_copy_0 (i := 24) (by decide +kernel) rfl
theorem dX1_copy_25 : decode cX1_copy 25 = .ok (.bipush 12, 2) := zrD zrw_cX1_copy_0 (i := 25) (by decide +kernel) rfl
theorem dX1_copy_27 : decode cX1_copy 27 = .ok (.invokestatic 34, 3) := zrD zrw_cX1_copy_0 (i := 27) (by decide +kernel) rfl
theorem dX1_copy_30 : decode cX1_copy 30 = .ok (.aload_n 1, 1) := zrD zrw_cX1_copy_0 (i := 30) (by decide +kernel) rfl
def zrk_cX1_copy_31 : ByteArray := .mk #[180, 0, 18, 3, 42, 180, 0, 18, 3, 16, 12, 184, 0, 34, 42, 43, 180, 0, 21, 181, 0, 21, 42, 43, 180, 0, 25, 181, 0, 25, 42, 43]
theorem zrw_cX1_copy_31 : zrW 31 cX1_copy zrk_cX1_copy_31 := by unfold zrW; decide +kernel
theorem dX1_copy_31 : decode cX1_copy 31 = .ok (.getfield 18, 3) := zrD zrw_cX1_copy_31 (i := 0) (by decide +kernel) rfl
theorem dX1_copy_34 : decode cX1_copy 34 = .ok (.iconst 0, 1) := zrD zrw_cX1_copy_31 (i := 3) (by decide +kernel) rfl
theorem dX1_copy_35 : decode cX1_copy 35 = .ok (.aload_n 0, 1) := zrD zrw_cX1_copy_31 (i := 4) (by decide +kernel) rfl
theorem dX1_copy_36 : decode cX1_copy 36 = .ok (.getfield 18, 3) := zrD zrw_cX1_copy_31 (i := 5) (by decide +kernel) rfl
theorem dX1_copy_39 : decode cX1_copy 39 = .ok (.iconst 0, 1) := zrD zrw_cX1_copy_31 (i := 8) (by decide +kernel) rfl
theorem dX1_copy_40 : decode cX1_copy 40 = .ok (.bipush 12, 2) := zrD zrw_cX1_copy_31 (i := 9) (by decide +kernel) rfl
theorem dX1_copy_42 : decode cX1_copy 42 = .ok (.invokestatic 34, 3) := zrD zrw_cX1_copy_31 (i := 11) (by decide +kernel) rfl
theorem dX1_copy_45 : decode cX1_copy 45 = .ok (.aload_n 0, 1) := zrD zrw_cX1_copy_31 (i := 14) (by decide +kernel) rfl
theorem dX1_copy_46 : decode cX1_copy 46 = .ok (.aload_n 1, 1) := zrD zrw_cX1_copy_31 (i := 15) (by decide +kernel) rfl
theorem dX1_copy_47 : decode cX1_copy 47 = .ok (.getfield 21, 3) := zrD zrw_cX1_copy_31 (i := 16) (by decide +kernel) rfl
theorem dX1_copy_50 : decode cX1_copy 50 = .ok (.putfield 21, 3) := zrD zrw_cX1_copy_31 (i := 19) (by decide +kernel) rfl
theorem dX1_copy_53 : decode cX1_copy 53 = .ok (.aload_n 0, 1) := zrD zrw_cX1_copy_31 (i := 22) (by decide +kernel) rfl
theorem dX1_copy_54 : decode cX1_copy 54 = .ok (.aload_n 1, 1) := zrD zrw_cX1_copy_31 (i := 23) (by decide +kernel) rfl
theorem dX1_copy_55 : decode cX1_copy 55 = .ok (.getfield 25, 3) := zrD zrw_cX1_copy_31 (i := 24) (by decide +kernel) rfl
theorem dX1_copy_58 : decode cX1_copy 58 = .ok (.putfield 25, 3) := zrD zrw_cX1_copy_31 (i := 27) (by decide +kernel) rfl
theorem dX1_copy_61 : decode cX1_copy 61 = .ok (.aload_n 0, 1) := zrD zrw_cX1_copy_31 (i := 30) (by decide +kernel) rfl
theorem dX1_copy_62 : decode cX1_copy 62 = .ok (.aload_n 1, 1) := zrD zrw_cX1_copy_31 (i := 31) (by decide +kernel) rfl
def zrk_cX1_copy_63 : ByteArray := .mk #[180, 0, 28, 181, 0, 28, 177]
theorem zrw_cX1_copy_63 : zrW 63 cX1_copy zrk_cX1_copy_63 := by unfold zrW; decide +kernel
theorem dX1_copy_63 : decode cX1_copy 63 = .ok (.getfield 28, 3) := zrD zrw_cX1_copy_63 (i := 0) (by decide +kernel) rfl
theorem dX1_copy_66 : decode cX1_copy 66 = .ok (.putfield 28, 3) := zrD zrw_cX1_copy_63 (i := 3) (by decide +kernel) rfl
theorem dX1_copy_69 : decode cX1_copy 69 = .ok (.return_, 1) := zrD zrw_cX1_copy_63 (i := 6) (by decide +kernel) rfl
def zrk_cX1_moon_0 : ByteArray := .mk #[42, 180, 0, 25, 16, 12, 112, 172]
theorem zrw_cX1_moon_0 : zrW 0 cX1_moon zrk_cX1_moon_0 := by unfold zrW; decide +kernel
theorem dX1_moon_0 : decode cX1_moon 0 = .ok (.aload_n 0, 1) := zrD zrw_cX1_moon_0 (i := 0) (by decide +kernel) rfl
theorem dX1_moon_1 : decode cX1_moon 1 = .ok (.getfield 25, 3) := zrD zrw_cX1_moon_0 (i := 1) (by decide +kernel) rfl
theorem dX1_moon_4 : decode cX1_moon 4 = .ok (.bipush 12, 2) := zrD zrw_cX1_moon_0 (i := 4) (by decide +kernel) rfl
theorem dX1_moon_6 : decode cX1_moon 6 = .ok (.irem, 1) := zrD zrw_cX1_moon_0 (i := 6) (by decide +kernel) rfl
theorem dX1_moon_7 : decode cX1_moon 7 = .ok (.ireturn, 1) := zrD zrw_cX1_moon_0 (i := 7) (by decide +kernel) rfl
def zrk_cX1_comesBy_0 : ByteArray := .mk #[27, 62, 3, 54, 4, 21, 4, 16, 12, 162, 0, 25, 29, 28, 159, 0, 20, 29, 153, 0, 16, 42, 180, 0, 9, 29, 46, 62, 132, 4, 1]
theorem zrw_cX1_comesBy_0 : zrW 0 cX1_comesBy zrk_cX1_comesBy_0 := by unfold zrW; decide +kernel
theorem dX1_comesBy_0 : decode cX1_comesBy 0 = .ok (.iload_n 1, 1) := zrD zrw_cX1_comesBy_0 (i := 0) (by decide +kernel) rfl
theorem dX1_comesBy_1 : decode cX1_comesBy 1 = .ok (.istore_n 3, 1) := zrD zrw_cX1_comesBy_0 (i := 1) (by decide +kernel) rfl
theorem dX1_comesBy_2 : decode cX1_comesBy 2 = .ok (.iconst 0, 1) := zrD zrw_cX1_comesBy_0 (i := 2) (by decide +kernel) rfl
theorem dX1_comesBy_3 : decode cX1_comesBy 3 = .ok (.istore 4, 2) := zrD zrw_cX1_comesBy_0 (i := 3) (by decide +kernel) rfl
theorem dX1_comesBy_5 : decode cX1_comesBy 5 = .ok (.iload 4, 2) := zrD zrw_cX1_comesBy_0 (i := 5) (by decide +kernel) rfl
theorem dX1_comesBy_7 : decode cX1_comesBy 7 = .ok (.bipush 12, 2) := zrD zrw_cX1_comesBy_0 (i := 7) (by decide +kernel) rfl
theorem dX1_comesBy_9 : decode cX1_comesBy 9 = .ok (.if_icmp .ge 25, 3) := zrD zrw_cX1_comesBy_0 (i := 9) (by decide +kernel) rfl
theorem dX1_comesBy_12 : decode cX1_comesBy 12 = .ok (.iload_n 3, 1) := zrD zrw_cX1_comesBy_0 (i := 12) (by decide +kernel) rfl
theorem dX1_comesBy_13 : decode cX1_comesBy 13 = .ok (.iload_n 2, 1) := zrD zrw_cX1_comesBy_0 (i := 13) (by decide +kernel) rfl
theorem dX1_comesBy_14 : decode cX1_comesBy 14 = .ok (.if_icmp .eq 20, 3) := zrD zrw_cX1_comesBy_0 (i := 14) (by decide +kernel) rfl
theorem dX1_comesBy_17 : decode cX1_comesBy 17 = .ok (.iload_n 3, 1) := zrD zrw_cX1_comesBy_0 (i := 17) (by decide +kernel) rfl
theorem dX1_comesBy_18 : decode cX1_comesBy 18 = .ok (.ifCond .eq 16, 3) := zrD zrw_cX1_comesBy_0 (i := 18) (by decide +kernel) rfl
theorem dX1_comesBy_21 : decode cX1_comesBy 21 = .ok (.aload_n 0, 1) := zrD zrw_cX1_comesBy_0 (i := 21) (by decide +kernel) rfl
theorem dX1_comesBy_22 : decode cX1_comesBy 22 = .ok (.getfield 9, 3) := zrD zrw_cX1_comesBy_0 (i := 22) (by decide +kernel) rfl
theorem dX1_comesBy_25 : decode cX1_comesBy 25 = .ok (.iload_n 3, 1) := zrD zrw_cX1_comesBy_0 (i := 25) (by decide +kernel) rfl
theorem dX1_comesBy_26 : decode cX1_comesBy 26 = .ok (.iaload, 1) := zrD zrw_cX1_comesBy_0 (i := 26) (by decide +kernel) rfl
theorem dX1_comesBy_27 : decode cX1_comesBy 27 = .ok (.istore_n 3, 1) := zrD zrw_cX1_comesBy_0 (i := 27) (by decide +kernel) rfl
theorem dX1_comesBy_28 : decode cX1_comesBy 28 = .ok (.iinc 4 1, 3) := zrD zrw_cX1_comesBy_0 (i := 28) (by decide +kernel) rfl
def zrk_cX1_comesBy_31 : ByteArray := .mk #[167, 255, 230, 29, 28, 160, 0, 7, 4, 167, 0, 4, 3, 172]
theorem zrw_cX1_comesBy_31 : zrW 31 cX1_comesBy zrk_cX1_comesBy_31 := by unfold zrW; decide +kernel
theorem dX1_comesBy_31 : decode cX1_comesBy 31 = .ok (.goto (-26), 3) := zrD zrw_cX1_comesBy_31 (i := 0) (by decide +kernel) rfl
theorem dX1_comesBy_34 : decode cX1_comesBy 34 = .ok (.iload_n 3, 1) := zrD zrw_cX1_comesBy_31 (i := 3) (by decide +kernel) rfl
theorem dX1_comesBy_35 : decode cX1_comesBy 35 = .ok (.iload_n 2, 1) := zrD zrw_cX1_comesBy_31 (i := 4) (by decide +kernel) rfl
theorem dX1_comesBy_36 : decode cX1_comesBy 36 = .ok (.if_icmp .ne 7, 3) := zrD zrw_cX1_comesBy_31 (i := 5) (by decide +kernel) rfl
theorem dX1_comesBy_39 : decode cX1_comesBy 39 = .ok (.iconst 1, 1) := zrD zrw_cX1_comesBy_31 (i := 8) (by decide +kernel) rfl
theorem dX1_comesBy_40 : decode cX1_comesBy 40 = .ok (.goto 4, 3) := zrD zrw_cX1_comesBy_31 (i := 9) (by decide +kernel) rfl
theorem dX1_comesBy_43 : decode cX1_comesBy 43 = .ok (.iconst 0, 1) := zrD zrw_cX1_comesBy_31 (i := 12) (by decide +kernel) rfl
theorem dX1_comesBy_44 : decode cX1_comesBy 44 = .ok (.ireturn, 1) := zrD zrw_cX1_comesBy_31 (i := 13) (by decide +kernel) rfl
def zrk_cX1_pay_0 : ByteArray := .mk #[42, 180, 0, 18, 27, 92, 46, 28, 96, 79, 42, 180, 0, 15, 27, 17, 3, 231, 42, 180, 0, 15, 27, 46, 4, 96, 184, 0, 46, 79, 177]
theorem zrw_cX1_pay_0 : zrW 0 cX1_pay zrk_cX1_pay_0 := by unfold zrW; decide +kernel
theorem dX1_pay_0 : decode cX1_pay 0 = .ok (.aload_n 0, 1) := zrD zrw_cX1_pay_0 (i := 0) (by decide +kernel) rfl
theorem dX1_pay_1 : decode cX1_pay 1 = .ok (.getfield 18, 3) := zrD zrw_cX1_pay_0 (i := 1) (by decide +kernel) rfl
theorem dX1_pay_4 : decode cX1_pay 4 = .ok (.iload_n 1, 1) := zrD zrw_cX1_pay_0 (i := 4) (by decide +kernel) rfl
theorem dX1_pay_5 : decode cX1_pay 5 = .ok (.dup2, 1) := zrD zrw_cX1_pay_0 (i := 5) (by decide +kernel) rfl
theorem dX1_pay_6 : decode cX1_pay 6 = .ok (.iaload, 1) := zrD zrw_cX1_pay_0 (i := 6) (by decide +kernel) rfl
theorem dX1_pay_7 : decode cX1_pay 7 = .ok (.iload_n 2, 1) := zrD zrw_cX1_pay_0 (i := 7) (by decide +kernel) rfl
theorem dX1_pay_8 : decode cX1_pay 8 = .ok (.iadd, 1) := zrD zrw_cX1_pay_0 (i := 8) (by decide +kernel) rfl
theorem dX1_pay_9 : decode cX1_pay 9 = .ok (.iastore, 1) := zrD zrw_cX1_pay_0 (i := 9) (by decide +kernel) rfl
theorem dX1_pay_10 : decode cX1_pay 10 = .ok (.aload_n 0, 1) := zrD zrw_cX1_pay_0 (i := 10) (by decide +kernel) rfl
theorem dX1_pay_11 : decode cX1_pay 11 = .ok (.getfield 15, 3) := zrD zrw_cX1_pay_0 (i := 11) (by decide +kernel) rfl
theorem dX1_pay_14 : decode cX1_pay 14 = .ok (.iload_n 1, 1) := zrD zrw_cX1_pay_0 (i := 14) (by decide +kernel) rfl
theorem dX1_pay_15 : decode cX1_pay 15 = .ok (.sipush 999, 3) := zrD zrw_cX1_pay_0 (i := 15) (by decide +kernel) rfl
theorem dX1_pay_18 : decode cX1_pay 18 = .ok (.aload_n 0, 1) := zrD zrw_cX1_pay_0 (i := 18) (by decide +kernel) rfl
theorem dX1_pay_19 : decode cX1_pay 19 = .ok (.getfield 15, 3) := zrD zrw_cX1_pay_0 (i := 19) (by decide +kernel) rfl
theorem dX1_pay_22 : decode cX1_pay 22 = .ok (.iload_n 1, 1) := zrD zrw_cX1_pay_0 (i := 22) (by decide +kernel) rfl
theorem dX1_pay_23 : decode cX1_pay 23 = .ok (.iaload, 1) := zrD zrw_cX1_pay_0 (i := 23) (by decide +kernel) rfl
theorem dX1_pay_24 : decode cX1_pay 24 = .ok (.iconst 1, 1) := zrD zrw_cX1_pay_0 (i := 24) (by decide +kernel) rfl
theorem dX1_pay_25 : decode cX1_pay 25 = .ok (.iadd, 1) := zrD zrw_cX1_pay_0 (i := 25) (by decide +kernel) rfl
theorem dX1_pay_26 : decode cX1_pay 26 = .ok (.invokestatic 46, 3) := zrD zrw_cX1_pay_0 (i := 26) (by decide +kernel) rfl
theorem dX1_pay_29 : decode cX1_pay 29 = .ok (.iastore, 1) := zrD zrw_cX1_pay_0 (i := 29) (by decide +kernel) rfl
theorem dX1_pay_30 : decode cX1_pay 30 = .ok (.return_, 1) := zrD zrw_cX1_pay_0 (i := 30) (by decide +kernel) rfl
def zrk_cX2_init_0 : ByteArray := .mk #[42, 183, 0, 3, 42, 16, 20]
theorem zrw_cX2_init_0 : zrW 0 cX2_init zrk_cX2_init_0 := by unfold zrW; decide +kernel
theorem dX2_init_0 : decode cX2_init 0 = .ok (.aload_n 0, 1) := zrD zrw_cX2_init_0 (i := 0) (by decide +kernel) rfl
theorem dX2_init_1 : decode cX2_init 1 = .ok (.invokespecial 3, 3) := zrD zrw_cX2_init_0 (i := 1) (by decide +kernel) rfl
theorem dX2_init_4 : decode cX2_init 4 = .ok (.aload_n 0, 1) := zrD zrw_cX2_init_0 (i := 4) (by decide +kernel) rfl
theorem dX2_init_5 : decode cX2_init 5 = .ok (.bipush 20, 2) := zrD zrw_cX2_init_0 (i := 5) (by decide +kernel) rfl
theorem dX2_init_7 : decode cX2_init 7 = .ok (.newarray .int, 2) := by decide +kernel
def zrk_cX2_init_9 : ByteArray := .mk #[181, 0, 11, 42, 16, 20]
theorem zrw_cX2_init_9 : zrW 9 cX2_init zrk_cX2_init_9 := by unfold zrW; decide +kernel
theorem dX2_init_9 : decode cX2_init 9 = .ok (.putfield 11, 3) := zrD zrw_cX2_init_9 (i := 0) (by decide +kernel) rfl
theorem dX2_init_12 : decode cX2_init 12 = .ok (.aload_n 0, 1) := zrD zrw_cX2_init_9 (i := 3) (by decide +kernel) rfl
theorem dX2_init_13 : decode cX2_init 13 = .ok (.bipush 20, 2) := zrD zrw_cX2_init_9 (i := 4) (by decide +kernel) rfl
theorem dX2_init_15 : decode cX2_init 15 = .ok (.newarray .int, 2) := by decide +kernel
def zrk_cX2_init_17 : ByteArray := .mk #[181, 0, 15, 42, 16, 20]
theorem zrw_cX2_init_17 : zrW 17 cX2_init zrk_cX2_init_17 := by unfold zrW; decide +kernel
theorem dX2_init_17 : decode cX2_init 17 = .ok (.putfield 15, 3) := zrD zrw_cX2_init_17 (i := 0) (by decide +kernel) rfl
theorem dX2_init_20 : decode cX2_init 20 = .ok (.aload_n 0, 1) := zrD zrw_cX2_init_17 (i := 3) (by decide +kernel) rfl
theorem dX2_init_21 : decode cX2_init 21 = .ok (.bipush 20, 2) := zrD zrw_cX2_init_17 (i := 4) (by decide +kernel) rfl
theorem dX2_init_23 : decode cX2_init 23 = .ok (.newarray .int, 2) := by decide +kernel
def zrk_cX2_init_25 : ByteArray := .mk #[181, 0, 18, 42, 16, 20]
theorem zrw_cX2_init_25 : zrW 25 cX2_init zrk_cX2_init_25 := by unfold zrW; decide +kernel
theorem dX2_init_25 : decode cX2_init 25 = .ok (.putfield 18, 3) := zrD zrw_cX2_init_25 (i := 0) (by decide +kernel) rfl
theorem dX2_init_28 : decode cX2_init 28 = .ok (.aload_n 0, 1) := zrD zrw_cX2_init_25 (i := 3) (by decide +kernel) rfl
theorem dX2_init_29 : decode cX2_init 29 = .ok (.bipush 20, 2) := zrD zrw_cX2_init_25 (i := 4) (by decide +kernel) rfl
theorem dX2_init_31 : decode cX2_init 31 = .ok (.newarray .boolean, 2) := by decide +kernel
def zrk_cX2_init_33 : ByteArray := .mk #[181, 0, 21, 42, 3, 181, 0, 25, 177]
theorem zrw_cX2_init_33 : zrW 33 cX2_init zrk_cX2_init_33 := by unfold zrW; decide +kernel
theorem dX2_init_33 : decode cX2_init 33 = .ok (.putfield 21, 3) := zrD zrw_cX2_init_33 (i := 0) (by decide +kernel) rfl
theorem dX2_init_36 : decode cX2_init 36 = .ok (.aload_n 0, 1) := zrD zrw_cX2_init_33 (i := 3) (by decide +kernel) rfl
theorem dX2_init_37 : decode cX2_init 37 = .ok (.iconst 0, 1) := zrD zrw_cX2_init_33 (i := 4) (by decide +kernel) rfl
theorem dX2_init_38 : decode cX2_init 38 = .ok (.putfield 25, 3) := zrD zrw_cX2_init_33 (i := 5) (by decide +kernel) rfl
theorem dX2_init_41 : decode cX2_init 41 = .ok (.return_, 1) := zrD zrw_cX2_init_33 (i := 8) (by decide +kernel) rfl
def zrk_cX2_add_0 : ByteArray := .mk #[42, 180, 0, 25, 16, 20, 161, 0, 5, 2, 172, 42, 180, 0, 11, 42, 180, 0, 25, 27, 79, 42, 180, 0, 15, 42, 180, 0, 25, 28, 79, 42]
theorem zrw_cX2_add_0 : zrW 0 cX2_add zrk_cX2_add_0 := by unfold zrW; decide +kernel
theorem dX2_add_0 : decode cX2_add 0 = .ok (.aload_n 0, 1) := zrD zrw_cX2_add_0 (i := 0) (by decide +kernel) rfl
theorem dX2_add_1 : decode cX2_add 1 = .ok (.getfield 25, 3) := zrD zrw_cX2_add_0 (i := 1) (by decide +kernel) rfl
theorem dX2_add_4 : decode cX2_add 4 = .ok (.bipush 20, 2) := zrD zrw_cX2_add_0 (i := 4) (by decide +kernel) rfl
theorem dX2_add_6 : decode cX2_add 6 = .ok (.if_icmp .lt 5, 3) := zrD zrw_cX2_add_0 (i := 6) (by decide +kernel) rfl
theorem dX2_add_9 : decode cX2_add 9 = .ok (.iconst (-1), 1) := zrD zrw_cX2_add_0 (i := 9) (by decide +kernel) rfl
theorem dX2_add_10 : decode cX2_add 10 = .ok (.ireturn, 1) := zrD zrw_cX2_add_0 (i := 10) (by decide +kernel) rfl
theorem dX2_add_11 : decode cX2_add 11 = .ok (.aload_n 0, 1) := zrD zrw_cX2_add_0 (i := 11) (by decide +kernel) rfl
theorem dX2_add_12 : decode cX2_add 12 = .ok (.getfield 11, 3) := zrD zrw_cX2_add_0 (i := 12) (by decide +kernel) rfl
theorem dX2_add_15 : decode cX2_add 15 = .ok (.aload_n 0, 1) := zrD zrw_cX2_add_0 (i := 15) (by decide +kernel) rfl
theorem dX2_add_16 : decode cX2_add 16 = .ok (.getfield 25, 3) := zrD zrw_cX2_add_0 (i := 16) (by decide +kernel) rfl
theorem dX2_add_19 : decode cX2_add 19 = .ok (.iload_n 1, 1) := zrD zrw_cX2_add_0 (i := 19) (by decide +kernel) rfl
theorem dX2_add_20 : decode cX2_add 20 = .ok (.iastore, 1) := zrD zrw_cX2_add_0 (i := 20) (by decide +kernel) rfl
theorem dX2_add_21 : decode cX2_add 21 = .ok (.aload_n 0, 1) := zrD zrw_cX2_add_0 (i := 21) (by decide +kernel) rfl
theorem dX2_add_22 : decode cX2_add 22 = .ok (.getfield 15, 3) := zrD zrw_cX2_add_0 (i := 22) (by decide +kernel) rfl
theorem dX2_add_25 : decode cX2_add 25 = .ok (.aload_n 0, 1) := zrD zrw_cX2_add_0 (i := 25) (by decide +kernel) rfl
theorem dX2_add_26 : decode cX2_add 26 = .ok (.getfield 25, 3) := zrD zrw_cX2_add_0 (i := 26) (by decide +kernel) rfl
theorem dX2_add_29 : decode cX2_add 29 = .ok (.iload_n 2, 1) := zrD zrw_cX2_add_0 (i := 29) (by decide +kernel) rfl
theorem dX2_add_30 : decode cX2_add 30 = .ok (.iastore, 1) := zrD zrw_cX2_add_0 (i := 30) (by decide +kernel) rfl
theorem dX2_add_31 : decode cX2_add 31 = .ok (.aload_n 0, 1) := zrD zrw_cX2_add_0 (i := 31) (by decide +kernel) rfl
def zrk_cX2_add_32 : ByteArray := .mk #[180, 0, 18, 42, 180, 0, 25, 29, 79, 42, 180, 0, 21, 42, 180, 0, 25, 21, 4, 84, 42, 89, 180, 0, 25, 4, 96, 181, 0, 25, 42]
theorem zrw_cX2_add_32 : zrW 32 cX2_add zrk_cX2_add_32 := by unfold zrW; decide +kernel
theorem dX2_add_32 : decode cX2_add 32 = .ok (.getfield 18, 3) := zrD zrw_cX2_add_32 (i := 0) (by decide +kernel) rfl
theorem dX2_add_35 : decode cX2_add 35 = .ok (.aload_n 0, 1) := zrD zrw_cX2_add_32 (i := 3) (by decide +kernel) rfl
theorem dX2_add_36 : decode cX2_add 36 = .ok (.getfield 25, 3) := zrD zrw_cX2_add_32 (i := 4) (by decide +kernel) rfl
theorem dX2_add_39 : decode cX2_add 39 = .ok (.iload_n 3, 1) := zrD zrw_cX2_add_32 (i := 7) (by decide +kernel) rfl
theorem dX2_add_40 : decode cX2_add 40 = .ok (.iastore, 1) := zrD zrw_cX2_add_32 (i := 8) (by decide +kernel) rfl
theorem dX2_add_41 : decode cX2_add 41 = .ok (.aload_n 0, 1) := zrD zrw_cX2_add_32 (i := 9) (by decide +kernel) rfl
theorem dX2_add_42 : decode cX2_add 42 = .ok (.getfield 21, 3) := zrD zrw_cX2_add_32 (i := 10) (by decide +kernel) rfl
theorem dX2_add_45 : decode cX2_add 45 = .ok (.aload_n 0, 1) := zrD zrw_cX2_add_32 (i := 13) (by decide +kernel) rfl
theorem dX2_add_46 : decode cX2_add 46 = .ok (.getfield 25, 3) := zrD zrw_cX2_add_32 (i := 14) (by decide +kernel) rfl
theorem dX2_add_49 : decode cX2_add 49 = .ok (.iload 4, 2) := zrD zrw_cX2_add_32 (i := 17) (by decide +kernel) rfl
theorem dX2_add_51 : decode cX2_add 51 = .ok (.bastore, 1) := zrD zrw_cX2_add_32 (i := 19) (by decide +kernel) rfl
theorem dX2_add_52 : decode cX2_add 52 = .ok (.aload_n 0, 1) := zrD zrw_cX2_add_32 (i := 20) (by decide +kernel) rfl
theorem dX2_add_53 : decode cX2_add 53 = .ok (.dup, 1) := zrD zrw_cX2_add_32 (i := 21) (by decide +kernel) rfl
theorem dX2_add_54 : decode cX2_add 54 = .ok (.getfield 25, 3) := zrD zrw_cX2_add_32 (i := 22) (by decide +kernel) rfl
theorem dX2_add_57 : decode cX2_add 57 = .ok (.iconst 1, 1) := zrD zrw_cX2_add_32 (i := 25) (by decide +kernel) rfl
theorem dX2_add_58 : decode cX2_add 58 = .ok (.iadd, 1) := zrD zrw_cX2_add_32 (i := 26) (by decide +kernel) rfl
theorem dX2_add_59 : decode cX2_add 59 = .ok (.putfield 25, 3) := zrD zrw_cX2_add_32 (i := 27) (by decide +kernel) rfl
theorem dX2_add_62 : decode cX2_add 62 = .ok (.aload_n 0, 1) := zrD zrw_cX2_add_32 (i := 30) (by decide +kernel) rfl
def zrk_cX2_add_63 : ByteArray := .mk #[180, 0, 25, 4, 100, 172]
theorem zrw_cX2_add_63 : zrW 63 cX2_add zrk_cX2_add_63 := by unfold zrW; decide +kernel
theorem dX2_add_63 : decode cX2_add 63 = .ok (.getfield 25, 3) := zrD zrw_cX2_add_63 (i := 0) (by decide +kernel) rfl
theorem dX2_add_66 : decode cX2_add 66 = .ok (.iconst 1, 1) := zrD zrw_cX2_add_63 (i := 3) (by decide +kernel) rfl
theorem dX2_add_67 : decode cX2_add 67 = .ok (.isub, 1) := zrD zrw_cX2_add_63 (i := 4) (by decide +kernel) rfl
theorem dX2_add_68 : decode cX2_add 68 = .ok (.ireturn, 1) := zrD zrw_cX2_add_63 (i := 5) (by decide +kernel) rfl
def zrk_cX2_left_0 : ByteArray := .mk #[3, 62, 4, 54, 4, 21, 4, 43, 180, 0, 29, 162, 0, 37, 43, 21, 4, 182, 0, 34, 153, 0, 22, 42, 43, 21, 4, 28, 182, 0, 38]
theorem zrw_cX2_left_0 : zrW 0 cX2_left zrk_cX2_left_0 := by unfold zrW; decide +kernel
theorem dX2_left_0 : decode cX2_left 0 = .ok (.iconst 0, 1) := zrD zrw_cX2_left_0 (i := 0) (by decide +kernel) rfl
theorem dX2_left_1 : decode cX2_left 1 = .ok (.istore_n 3, 1) := zrD zrw_cX2_left_0 (i := 1) (by decide +kernel) rfl
theorem dX2_left_2 : decode cX2_left 2 = .ok (.iconst 1, 1) := zrD zrw_cX2_left_0 (i := 2) (by decide +kernel) rfl
theorem dX2_left_3 : decode cX2_left 3 = .ok (.istore 4, 2) := zrD zrw_cX2_left_0 (i := 3) (by decide +kernel) rfl
theorem dX2_left_5 : decode cX2_left 5 = .ok (.iload 4, 2) := zrD zrw_cX2_left_0 (i := 5) (by decide +kernel) rfl
theorem dX2_left_7 : decode cX2_left 7 = .ok (.aload_n 1, 1) := zrD zrw_cX2_left_0 (i := 7) (by decide +kernel) rfl
theorem dX2_left_8 : decode cX2_left 8 = .ok (.getfield 29, 3) := zrD zrw_cX2_left_0 (i := 8) (by decide +kernel) rfl
theorem dX2_left_11 : decode cX2_left 11 = .ok (.if_icmp .ge 37, 3) := zrD zrw_cX2_left_0 (i := 11) (by decide +kernel) rfl
theorem dX2_left_14 : decode cX2_left 14 = .ok (.aload_n 1, 1) := zrD zrw_cX2_left_0 (i := 14) (by decide +kernel) rfl
theorem dX2_left_15 : decode cX2_left 15 = .ok (.iload 4, 2) := zrD zrw_cX2_left_0 (i := 15) (by decide +kernel) rfl
theorem dX2_left_17 : decode cX2_left 17 = .ok (.invokevirtual 34, 3) := zrD zrw_cX2_left_0 (i := 17) (by decide +kernel) rfl
theorem dX2_left_20 : decode cX2_left 20 = .ok (.ifCond .eq 22, 3) := zrD zrw_cX2_left_0 (i := 20) (by decide +kernel) rfl
theorem dX2_left_23 : decode cX2_left 23 = .ok (.aload_n 0, 1) := zrD zrw_cX2_left_0 (i := 23) (by decide +kernel) rfl
theorem dX2_left_24 : decode cX2_left 24 = .ok (.aload_n 1, 1) := zrD zrw_cX2_left_0 (i := 24) (by decide +kernel) rfl
theorem dX2_left_25 : decode cX2_left 25 = .ok (.iload 4, 2) := zrD zrw_cX2_left_0 (i := 25) (by decide +kernel) rfl
theorem dX2_left_27 : decode cX2_left 27 = .ok (.iload_n 2, 1) := zrD zrw_cX2_left_0 (i := 27) (by decide +kernel) rfl
theorem dX2_left_28 : decode cX2_left 28 = .ok (.invokevirtual 38, 3) := zrD zrw_cX2_left_0 (i := 28) (by decide +kernel) rfl
def zrk_cX2_left_31 : ByteArray := .mk #[153, 0, 11, 29, 21, 4, 184, 0, 42, 128, 62, 132, 4, 1, 167, 255, 216, 29, 172]
theorem zrw_cX2_left_31 : zrW 31 cX2_left zrk_cX2_left_31 := by unfold zrW; decide +kernel
theorem dX2_left_31 : decode cX2_left 31 = .ok (.ifCond .eq 11, 3) := zrD zrw_cX2_left_31 (i := 0) (by decide +kernel) rfl
theorem dX2_left_34 : decode cX2_left 34 = .ok (.iload_n 3, 1) := zrD zrw_cX2_left_31 (i := 3) (by decide +kernel) rfl
theorem dX2_left_35 : decode cX2_left 35 = .ok (.iload 4, 2) := zrD zrw_cX2_left_31 (i := 4) (by decide +kernel) rfl
theorem dX2_left_37 : decode cX2_left 37 = .ok (.invokestatic 42, 3) := zrD zrw_cX2_left_31 (i := 6) (by decide +kernel) rfl
theorem dX2_left_40 : decode cX2_left 40 = .ok (.ior, 1) := zrD zrw_cX2_left_31 (i := 9) (by decide +kernel) rfl
theorem dX2_left_41 : decode cX2_left 41 = .ok (.istore_n 3, 1) := zrD zrw_cX2_left_31 (i := 10) (by decide +kernel) rfl
theorem dX2_left_42 : decode cX2_left 42 = .ok (.iinc 4 1, 3) := zrD zrw_cX2_left_31 (i := 11) (by decide +kernel) rfl
theorem dX2_left_45 : decode cX2_left 45 = .ok (.goto (-40), 3) := zrD zrw_cX2_left_31 (i := 14) (by decide +kernel) rfl
theorem dX2_left_48 : decode cX2_left 48 = .ok (.iload_n 3, 1) := zrD zrw_cX2_left_31 (i := 17) (by decide +kernel) rfl
theorem dX2_left_49 : decode cX2_left 49 = .ok (.ireturn, 1) := zrD zrw_cX2_left_31 (i := 18) (by decide +kernel) rfl
def zrk_cX2_isSo_0 : ByteArray := .mk #[4, 54, 4, 3, 54, 5, 21, 5, 29, 162, 0, 111, 21, 5, 42, 180, 0, 25, 162, 0, 102, 43, 180, 0, 46, 28, 46, 43, 180, 0, 46, 42]
theorem zrw_cX2_isSo_0 : zrW 0 cX2_isSo zrk_cX2_isSo_0 := by unfold zrW; decide +kernel
theorem dX2_isSo_0 : decode cX2_isSo 0 = .ok (.iconst 1, 1) := zrD zrw_cX2_isSo_0 (i := 0) (by decide +kernel) rfl
theorem dX2_isSo_1 : decode cX2_isSo 1 = .ok (.istore 4, 2) := zrD zrw_cX2_isSo_0 (i := 1) (by decide +kernel) rfl
theorem dX2_isSo_3 : decode cX2_isSo 3 = .ok (.iconst 0, 1) := zrD zrw_cX2_isSo_0 (i := 3) (by decide +kernel) rfl
theorem dX2_isSo_4 : decode cX2_isSo 4 = .ok (.istore 5, 2) := zrD zrw_cX2_isSo_0 (i := 4) (by decide +kernel) rfl
theorem dX2_isSo_6 : decode cX2_isSo 6 = .ok (.iload 5, 2) := zrD zrw_cX2_isSo_0 (i := 6) (by decide +kernel) rfl
theorem dX2_isSo_8 : decode cX2_isSo 8 = .ok (.iload_n 3, 1) := zrD zrw_cX2_isSo_0 (i := 8) (by decide +kernel) rfl
theorem dX2_isSo_9 : decode cX2_isSo 9 = .ok (.if_icmp .ge 111, 3) := zrD zrw_cX2_isSo_0 (i := 9) (by decide +kernel) rfl
theorem dX2_isSo_12 : decode cX2_isSo 12 = .ok (.iload 5, 2) := zrD zrw_cX2_isSo_0 (i := 12) (by decide +kernel) rfl
theorem dX2_isSo_14 : decode cX2_isSo 14 = .ok (.aload_n 0, 1) := zrD zrw_cX2_isSo_0 (i := 14) (by decide +kernel) rfl
theorem dX2_isSo_15 : decode cX2_isSo 15 = .ok (.getfield 25, 3) := zrD zrw_cX2_isSo_0 (i := 15) (by decide +kernel) rfl
theorem dX2_isSo_18 : decode cX2_isSo 18 = .ok (.if_icmp .ge 102, 3) := zrD zrw_cX2_isSo_0 (i := 18) (by decide +kernel) rfl
theorem dX2_isSo_21 : decode cX2_isSo 21 = .ok (.aload_n 1, 1) := zrD zrw_cX2_isSo_0 (i := 21) (by decide +kernel) rfl
theorem dX2_isSo_22 : decode cX2_isSo 22 = .ok (.getfield 46, 3) := zrD zrw_cX2_isSo_0 (i := 22) (by decide +kernel) rfl
theorem dX2_isSo_25 : decode cX2_isSo 25 = .ok (.iload_n 2, 1) := zrD zrw_cX2_isSo_0 (i := 25) (by decide +kernel) rfl
theorem dX2_isSo_26 : decode cX2_isSo 26 = .ok (.iaload, 1) := zrD zrw_cX2_isSo_0 (i := 26) (by decide +kernel) rfl
theorem dX2_isSo_27 : decode cX2_isSo 27 = .ok (.aload_n 1, 1) := zrD zrw_cX2_isSo_0 (i := 27) (by decide +kernel) rfl
theorem dX2_isSo_28 : decode cX2_isSo 28 = .ok (.getfield 46, 3) := zrD zrw_cX2_isSo_0 (i := 28) (by decide +kernel) rfl
theorem dX2_isSo_31 : decode cX2_isSo 31 = .ok (.aload_n 0, 1) := zrD zrw_cX2_isSo_0 (i := 31) (by decide +kernel) rfl
def zrk_cX2_isSo_32 : ByteArray := .mk #[180, 0, 11, 21, 5, 46, 46, 100, 54, 6, 43, 180, 0, 49, 28, 46, 42, 180, 0, 11, 21, 5, 46, 184, 0, 52, 153, 0, 29, 21, 6, 42]
theorem zrw_cX2_isSo_32 : zrW 32 cX2_isSo zrk_cX2_isSo_32 := by unfold zrW; decide +kernel
theorem dX2_isSo_32 : decode cX2_isSo 32 = .ok (.getfield 11, 3) := zrD zrw_cX2_isSo_32 (i := 0) (by decide +kernel) rfl
theorem dX2_isSo_35 : decode cX2_isSo 35 = .ok (.iload 5, 2) := zrD zrw_cX2_isSo_32 (i := 3) (by decide +kernel) rfl
theorem dX2_isSo_37 : decode cX2_isSo 37 = .ok (.iaload, 1) := zrD zrw_cX2_isSo_32 (i := 5) (by decide +kernel) rfl
theorem dX2_isSo_38 : decode cX2_isSo 38 = .ok (.iaload, 1) := zrD zrw_cX2_isSo_32 (i := 6) (by decide +kernel) rfl
theorem dX2_isSo_39 : decode cX2_isSo 39 = .ok (.isub, 1) := zrD zrw_cX2_isSo_32 (i := 7) (by decide +kernel) rfl
theorem dX2_isSo_40 : decode cX2_isSo 40 = .ok (.istore 6, 2) := zrD zrw_cX2_isSo_32 (i := 8) (by decide +kernel) rfl
theorem dX2_isSo_42 : decode cX2_isSo 42 = .ok (.aload_n 1, 1) := zrD zrw_cX2_isSo_32 (i := 10) (by decide +kernel) rfl
theorem dX2_isSo_43 : decode cX2_isSo 43 = .ok (.getfield 49, 3) := zrD zrw_cX2_isSo_32 (i := 11) (by decide +kernel) rfl
theorem dX2_isSo_46 : decode cX2_isSo 46 = .ok (.iload_n 2, 1) := zrD zrw_cX2_isSo_32 (i := 14) (by decide +kernel) rfl
theorem dX2_isSo_47 : decode cX2_isSo 47 = .ok (.iaload, 1) := zrD zrw_cX2_isSo_32 (i := 15) (by decide +kernel) rfl
theorem dX2_isSo_48 : decode cX2_isSo 48 = .ok (.aload_n 0, 1) := zrD zrw_cX2_isSo_32 (i := 16) (by decide +kernel) rfl
theorem dX2_isSo_49 : decode cX2_isSo 49 = .ok (.getfield 11, 3) := zrD zrw_cX2_isSo_32 (i := 17) (by decide +kernel) rfl
theorem dX2_isSo_52 : decode cX2_isSo 52 = .ok (.iload 5, 2) := zrD zrw_cX2_isSo_32 (i := 20) (by decide +kernel) rfl
theorem dX2_isSo_54 : decode cX2_isSo 54 = .ok (.iaload, 1) := zrD zrw_cX2_isSo_32 (i := 22) (by decide +kernel) rfl
theorem dX2_isSo_55 : decode cX2_isSo 55 = .ok (.invokestatic 52, 3) := zrD zrw_cX2_isSo_32 (i := 23) (by decide +kernel) rfl
theorem dX2_isSo_58 : decode cX2_isSo 58 = .ok (.ifCond .eq 29, 3) := zrD zrw_cX2_isSo_32 (i := 26) (by decide +kernel) rfl
theorem dX2_isSo_61 : decode cX2_isSo 61 = .ok (.iload 6, 2) := zrD zrw_cX2_isSo_32 (i := 29) (by decide +kernel) rfl
theorem dX2_isSo_63 : decode cX2_isSo 63 = .ok (.aload_n 0, 1) := zrD zrw_cX2_isSo_32 (i := 31) (by decide +kernel) rfl
def zrk_cX2_isSo_64 : ByteArray := .mk #[180, 0, 15, 21, 5, 46, 42, 180, 0, 18, 21, 5, 46, 184, 0, 56, 153, 0, 7, 4, 167, 0, 4, 3, 54, 7, 21, 4, 153, 0, 19]
theorem zrw_cX2_isSo_64 : zrW 64 cX2_isSo zrk_cX2_isSo_64 := by unfold zrW; decide +kernel
theorem dX2_isSo_64 : decode cX2_isSo 64 = .ok (.getfield 15, 3) := zrD zrw_cX2_isSo_64 (i := 0) (by decide +kernel) rfl
theorem dX2_isSo_67 : decode cX2_isSo 67 = .ok (.iload 5, 2) := zrD zrw_cX2_isSo_64 (i := 3) (by decide +kernel) rfl
theorem dX2_isSo_69 : decode cX2_isSo 69 = .ok (.iaload, 1) := zrD zrw_cX2_isSo_64 (i := 5) (by decide +kernel) rfl
theorem dX2_isSo_70 : decode cX2_isSo 70 = .ok (.aload_n 0, 1) := zrD zrw_cX2_isSo_64 (i := 6) (by decide +kernel) rfl
theorem dX2_isSo_71 : decode cX2_isSo 71 = .ok (.getfield 18, 3) := zrD zrw_cX2_isSo_64 (i := 7) (by decide +kernel) rfl
theorem dX2_isSo_74 : decode cX2_isSo 74 = .ok (.iload 5, 2) := zrD zrw_cX2_isSo_64 (i := 10) (by decide +kernel) rfl
theorem dX2_isSo_76 : decode cX2_isSo 76 = .ok (.iaload, 1) := zrD zrw_cX2_isSo_64 (i := 12) (by decide +kernel) rfl
theorem dX2_isSo_77 : decode cX2_isSo 77 = .ok (.invokestatic 56, 3) := zrD zrw_cX2_isSo_64 (i := 13) (by decide +kernel) rfl
theorem dX2_isSo_80 : decode cX2_isSo 80 = .ok (.ifCond .eq 7, 3) := zrD zrw_cX2_isSo_64 (i := 16) (by decide +kernel) rfl
theorem dX2_isSo_83 : decode cX2_isSo 83 = .ok (.iconst 1, 1) := zrD zrw_cX2_isSo_64 (i := 19) (by decide +kernel) rfl
theorem dX2_isSo_84 : decode cX2_isSo 84 = .ok (.goto 4, 3) := zrD zrw_cX2_isSo_64 (i := 20) (by decide +kernel) rfl
theorem dX2_isSo_87 : decode cX2_isSo 87 = .ok (.iconst 0, 1) := zrD zrw_cX2_isSo_64 (i := 23) (by decide +kernel) rfl
theorem dX2_isSo_88 : decode cX2_isSo 88 = .ok (.istore 7, 2) := zrD zrw_cX2_isSo_64 (i := 24) (by decide +kernel) rfl
theorem dX2_isSo_90 : decode cX2_isSo 90 = .ok (.iload 4, 2) := zrD zrw_cX2_isSo_64 (i := 26) (by decide +kernel) rfl
theorem dX2_isSo_92 : decode cX2_isSo 92 = .ok (.ifCond .eq 19, 3) := zrD zrw_cX2_isSo_64 (i := 28) (by decide +kernel) rfl
def zrk_cX2_isSo_95 : ByteArray := .mk #[21, 7, 42, 180, 0, 21, 21, 5, 51, 160, 0, 7, 4, 167, 0, 4, 3, 54, 4, 132, 5, 1, 167, 255, 145, 21, 4, 172]
theorem zrw_cX2_isSo_95 : zrW 95 cX2_isSo zrk_cX2_isSo_95 := by unfold zrW; decide +kernel
theorem dX2_isSo_95 : decode cX2_isSo 95 = .ok (.iload 7, 2) := zrD zrw_cX2_isSo_95 (i := 0) (by decide +kernel) rfl
theorem dX2_isSo_97 : decode cX2_isSo 97 = .ok (.aload_n 0, 1) := zrD zrw_cX2_isSo_95 (i := 2) (by decide +kernel) rfl
theorem dX2_isSo_98 : decode cX2_isSo 98 = .ok (.getfield 21, 3) := zrD zrw_cX2_isSo_95 (i := 3) (by decide +kernel) rfl
theorem dX2_isSo_101 : decode cX2_isSo 101 = .ok (.iload 5, 2) := zrD zrw_cX2_isSo_95 (i := 6) (by decide +kernel) rfl
theorem dX2_isSo_103 : decode cX2_isSo 103 = .ok (.baload, 1) := zrD zrw_cX2_isSo_95 (i := 8) (by decide +kernel) rfl
theorem dX2_isSo_104 : decode cX2_isSo 104 = .ok (.if_icmp .ne 7, 3) := zrD zrw_cX2_isSo_95 (i := 9) (by decide +kernel) rfl
theorem dX2_isSo_107 : decode cX2_isSo 107 = .ok (.iconst 1, 1) := zrD zrw_cX2_isSo_95 (i := 12) (by decide +kernel) rfl
theorem dX2_isSo_108 : decode cX2_isSo 108 = .ok (.goto 4, 3) := zrD zrw_cX2_isSo_95 (i := 13) (by decide +kernel) rfl
theorem dX2_isSo_111 : decode cX2_isSo 111 = .ok (.iconst 0, 1) := zrD zrw_cX2_isSo_95 (i := 16) (by decide +kernel) rfl
theorem dX2_isSo_112 : decode cX2_isSo 112 = .ok (.istore 4, 2) := zrD zrw_cX2_isSo_95 (i := 17) (by decide +kernel) rfl
theorem dX2_isSo_114 : decode cX2_isSo 114 = .ok (.iinc 5 1, 3) := zrD zrw_cX2_isSo_95 (i := 19) (by decide +kernel) rfl
theorem dX2_isSo_117 : decode cX2_isSo 117 = .ok (.goto (-111), 3) := zrD zrw_cX2_isSo_95 (i := 22) (by decide +kernel) rfl
theorem dX2_isSo_120 : decode cX2_isSo 120 = .ok (.iload 4, 2) := zrD zrw_cX2_isSo_95 (i := 25) (by decide +kernel) rfl
theorem dX2_isSo_122 : decode cX2_isSo 122 = .ok (.ireturn, 1) := zrD zrw_cX2_isSo_95 (i := 27) (by decide +kernel) rfl
def zrk_cX3_init_0 : ByteArray := .mk #[42, 183, 0, 3, 42, 187, 0, 9, 89, 183, 0, 11, 181, 0, 12, 42, 1, 181, 0, 18, 42, 3, 181, 0, 22, 42, 16, 34, 181, 0, 26, 42]
theorem zrw_cX3_init_0 : zrW 0 cX3_init zrk_cX3_init_0 := by unfold zrW; decide +kernel
theorem dX3_init_0 : decode cX3_init 0 = .ok (.aload_n 0, 1) := zrD zrw_cX3_init_0 (i := 0) (by decide +kernel) rfl
theorem dX3_init_1 : decode cX3_init 1 = .ok (.invokespecial 3, 3) := zrD zrw_cX3_init_0 (i := 1) (by decide +kernel) rfl
theorem dX3_init_4 : decode cX3_init 4 = .ok (.aload_n 0, 1) := zrD zrw_cX3_init_0 (i := 4) (by decide +kernel) rfl
theorem dX3_init_5 : decode cX3_init 5 = .ok (.new 9, 3) := zrD zrw_cX3_init_0 (i := 5) (by decide +kernel) rfl
theorem dX3_init_8 : decode cX3_init 8 = .ok (.dup, 1) := zrD zrw_cX3_init_0 (i := 8) (by decide +kernel) rfl
theorem dX3_init_9 : decode cX3_init 9 = .ok (.invokespecial 11, 3) := zrD zrw_cX3_init_0 (i := 9) (by decide +kernel) rfl
theorem dX3_init_12 : decode cX3_init 12 = .ok (.putfield 12, 3) := zrD zrw_cX3_init_0 (i := 12) (by decide +kernel) rfl
theorem dX3_init_15 : decode cX3_init 15 = .ok (.aload_n 0, 1) := zrD zrw_cX3_init_0 (i := 15) (by decide +kernel) rfl
theorem dX3_init_16 : decode cX3_init 16 = .ok (.aconst_null, 1) := zrD zrw_cX3_init_0 (i := 16) (by decide +kernel) rfl
theorem dX3_init_17 : decode cX3_init 17 = .ok (.putfield 18, 3) := zrD zrw_cX3_init_0 (i := 17) (by decide +kernel) rfl
theorem dX3_init_20 : decode cX3_init 20 = .ok (.aload_n 0, 1) := zrD zrw_cX3_init_0 (i := 20) (by decide +kernel) rfl
theorem dX3_init_21 : decode cX3_init 21 = .ok (.iconst 0, 1) := zrD zrw_cX3_init_0 (i := 21) (by decide +kernel) rfl
theorem dX3_init_22 : decode cX3_init 22 = .ok (.putfield 22, 3) := zrD zrw_cX3_init_0 (i := 22) (by decide +kernel) rfl
theorem dX3_init_25 : decode cX3_init 25 = .ok (.aload_n 0, 1) := zrD zrw_cX3_init_0 (i := 25) (by decide +kernel) rfl
theorem dX3_init_26 : decode cX3_init 26 = .ok (.bipush 34, 2) := zrD zrw_cX3_init_0 (i := 26) (by decide +kernel) rfl
theorem dX3_init_28 : decode cX3_init 28 = .ok (.putfield 26, 3) := zrD zrw_cX3_init_0 (i := 28) (by decide +kernel) rfl
theorem dX3_init_31 : decode cX3_init 31 = .ok (.aload_n 0, 1) := zrD zrw_cX3_init_0 (i := 31) (by decide +kernel) rfl
def zrk_cX3_init_32 : ByteArray := .mk #[9, 181, 0, 29, 42, 2, 181, 0, 33, 42, 3, 181, 0, 36, 42, 3, 181, 0, 40, 42, 3, 181, 0, 43, 42, 2, 181, 0, 46, 42, 3]
theorem zrw_cX3_init_32 : zrW 32 cX3_init zrk_cX3_init_32 := by unfold zrW; decide +kernel
theorem dX3_init_32 : decode cX3_init 32 = .ok (.lconst 0, 1) := zrD zrw_cX3_init_32 (i := 0) (by decide +kernel) rfl
theorem dX3_init_33 : decode cX3_init 33 = .ok (.putfield 29, 3) := zrD zrw_cX3_init_32 (i := 1) (by decide +kernel) rfl
theorem dX3_init_36 : decode cX3_init 36 = .ok (.aload_n 0, 1) := zrD zrw_cX3_init_32 (i := 4) (by decide +kernel) rfl
theorem dX3_init_37 : decode cX3_init 37 = .ok (.iconst (-1), 1) := zrD zrw_cX3_init_32 (i := 5) (by decide +kernel) rfl
theorem dX3_init_38 : decode cX3_init 38 = .ok (.putfield 33, 3) := zrD zrw_cX3_init_32 (i := 6) (by decide +kernel) rfl
theorem dX3_init_41 : decode cX3_init 41 = .ok (.aload_n 0, 1) := zrD zrw_cX3_init_32 (i := 9) (by decide +kernel) rfl
theorem dX3_init_42 : decode cX3_init 42 = .ok (.iconst 0, 1) := zrD zrw_cX3_init_32 (i := 10) (by decide +kernel) rfl
theorem dX3_init_43 : decode cX3_init 43 = .ok (.putfield 36, 3) := zrD zrw_cX3_init_32 (i := 11) (by decide +kernel) rfl
theorem dX3_init_46 : decode cX3_init 46 = .ok (.aload_n 0, 1) := zrD zrw_cX3_init_32 (i := 14) (by decide +kernel) rfl
theorem dX3_init_47 : decode cX3_init 47 = .ok (.iconst 0, 1) := zrD zrw_cX3_init_32 (i := 15) (by decide +kernel) rfl
theorem dX3_init_48 : decode cX3_init 48 = .ok (.putfield 40, 3) := zrD zrw_cX3_init_32 (i := 16) (by decide +kernel) rfl
theorem dX3_init_51 : decode cX3_init 51 = .ok (.aload_n 0, 1) := zrD zrw_cX3_init_32 (i := 19) (by decide +kernel) rfl
theorem dX3_init_52 : decode cX3_init 52 = .ok (.iconst 0, 1) := zrD zrw_cX3_init_32 (i := 20) (by decide +kernel) rfl
theorem dX3_init_53 : decode cX3_init 53 = .ok (.putfield 43, 3) := zrD zrw_cX3_init_32 (i := 21) (by decide +kernel) rfl
theorem dX3_init_56 : decode cX3_init 56 = .ok (.aload_n 0, 1) := zrD zrw_cX3_init_32 (i := 24) (by decide +kernel) rfl
theorem dX3_init_57 : decode cX3_init 57 = .ok (.iconst (-1), 1) := zrD zrw_cX3_init_32 (i := 25) (by decide +kernel) rfl
theorem dX3_init_58 : decode cX3_init 58 = .ok (.putfield 46, 3) := zrD zrw_cX3_init_32 (i := 26) (by decide +kernel) rfl
theorem dX3_init_61 : decode cX3_init 61 = .ok (.aload_n 0, 1) := zrD zrw_cX3_init_32 (i := 29) (by decide +kernel) rfl
theorem dX3_init_62 : decode cX3_init 62 = .ok (.iconst 0, 1) := zrD zrw_cX3_init_32 (i := 30) (by decide +kernel) rfl
def zrk_cX3_init_63 : ByteArray := .mk #[181, 0, 49, 42, 2, 181, 0, 52, 177]
theorem zrw_cX3_init_63 : zrW 63 cX3_init zrk_cX3_init_63 := by unfold zrW; decide +kernel
theorem dX3_init_63 : decode cX3_init 63 = .ok (.putfield 49, 3) := zrD zrw_cX3_init_63 (i := 0) (by decide +kernel) rfl
theorem dX3_init_66 : decode cX3_init 66 = .ok (.aload_n 0, 1) := zrD zrw_cX3_init_63 (i := 3) (by decide +kernel) rfl
theorem dX3_init_67 : decode cX3_init 67 = .ok (.iconst (-1), 1) := zrD zrw_cX3_init_63 (i := 4) (by decide +kernel) rfl
theorem dX3_init_68 : decode cX3_init 68 = .ok (.putfield 52, 3) := zrD zrw_cX3_init_63 (i := 5) (by decide +kernel) rfl
theorem dX3_init_71 : decode cX3_init 71 = .ok (.return_, 1) := zrD zrw_cX3_init_63 (i := 8) (by decide +kernel) rfl
def zrk_cX3_parse_0 : ByteArray := .mk #[42, 180, 0, 12, 43, 28, 182, 0, 55, 42, 45, 181, 0, 18, 42, 180, 0, 18, 182, 0, 59, 42, 3, 181, 0, 36, 42, 3, 181, 0, 40, 42]
theorem zrw_cX3_parse_0 : zrW 0 cX3_parse zrk_cX3_parse_0 := by unfold zrW; decide +kernel
theorem dX3_parse_0 : decode cX3_parse 0 = .ok (.aload_n 0, 1) := zrD zrw_cX3_parse_0 (i := 0) (by decide +kernel) rfl
theorem dX3_parse_1 : decode cX3_parse 1 = .ok (.getfield 12, 3) := zrD zrw_cX3_parse_0 (i := 1) (by decide +kernel) rfl
theorem dX3_parse_4 : decode cX3_parse 4 = .ok (.aload_n 1, 1) := zrD zrw_cX3_parse_0 (i := 4) (by decide +kernel) rfl
theorem dX3_parse_5 : decode cX3_parse 5 = .ok (.iload_n 2, 1) := zrD zrw_cX3_parse_0 (i := 5) (by decide +kernel) rfl
theorem dX3_parse_6 : decode cX3_parse 6 = .ok (.invokevirtual 55, 3) := zrD zrw_cX3_parse_0 (i := 6) (by decide +kernel) rfl
theorem dX3_parse_9 : decode cX3_parse 9 = .ok (.aload_n 0, 1) := zrD zrw_cX3_parse_0 (i := 9) (by decide +kernel) rfl
theorem dX3_parse_10 : decode cX3_parse 10 = .ok (.aload_n 3, 1) := zrD zrw_cX3_parse_0 (i := 10) (by decide +kernel) rfl
theorem dX3_parse_11 : decode cX3_parse 11 = .ok (.putfield 18, 3) := zrD zrw_cX3_parse_0 (i := 11) (by decide +kernel) rfl
theorem dX3_parse_14 : decode cX3_parse 14 = .ok (.aload_n 0, 1) := zrD zrw_cX3_parse_0 (i := 14) (by decide +kernel) rfl
theorem dX3_parse_15 : decode cX3_parse 15 = .ok (.getfield 18, 3) := zrD zrw_cX3_parse_0 (i := 15) (by decide +kernel) rfl
theorem dX3_parse_18 : decode cX3_parse 18 = .ok (.invokevirtual 59, 3) := zrD zrw_cX3_parse_0 (i := 18) (by decide +kernel) rfl
theorem dX3_parse_21 : decode cX3_parse 21 = .ok (.aload_n 0, 1) := zrD zrw_cX3_parse_0 (i := 21) (by decide +kernel) rfl
theorem dX3_parse_22 : decode cX3_parse 22 = .ok (.iconst 0, 1) := zrD zrw_cX3_parse_0 (i := 22) (by decide +kernel) rfl
theorem dX3_parse_23 : decode cX3_parse 23 = .ok (.putfield 36, 3) := zrD zrw_cX3_parse_0 (i := 23) (by decide +kernel) rfl
theorem dX3_parse_26 : decode cX3_parse 26 = .ok (.aload_n 0, 1) := zrD zrw_cX3_parse_0 (i := 26) (by decide +kernel) rfl
theorem dX3_parse_27 : decode cX3_parse 27 = .ok (.iconst 0, 1) := zrD zrw_cX3_parse_0 (i := 27) (by decide +kernel) rfl
theorem dX3_parse_28 : decode cX3_parse 28 = .ok (.putfield 40, 3) := zrD zrw_cX3_parse_0 (i := 28) (by decide +kernel) rfl
theorem dX3_parse_31 : decode cX3_parse 31 = .ok (.aload_n 0, 1) := zrD zrw_cX3_parse_0 (i := 31) (by decide +kernel) rfl
def zrk_cX3_parse_32 : ByteArray := .mk #[3, 181, 0, 43, 42, 2, 181, 0, 46, 42, 3, 181, 0, 49, 42, 2, 181, 0, 52, 42, 3, 182, 0, 64, 3, 54, 4, 21, 4, 17, 1, 144]
theorem zrw_cX3_parse_32 : zrW 32 cX3_parse zrk_cX3_parse_32 := by unfold zrW; decide +kernel
theorem dX3_parse_32 : decode cX3_parse 32 = .ok (.iconst 0, 1) := zrD zrw_cX3_parse_32 (i := 0) (by decide +kernel) rfl
theorem dX3_parse_33 : decode cX3_parse 33 = .ok (.putfield 43, 3) := zrD zrw_cX3_parse_32 (i := 1) (by decide +kernel) rfl
theorem dX3_parse_36 : decode cX3_parse 36 = .ok (.aload_n 0, 1) := zrD zrw_cX3_parse_32 (i := 4) (by decide +kernel) rfl
theorem dX3_parse_37 : decode cX3_parse 37 = .ok (.iconst (-1), 1) := zrD zrw_cX3_parse_32 (i := 5) (by decide +kernel) rfl
theorem dX3_parse_38 : decode cX3_parse 38 = .ok (.putfield 46, 3) := zrD zrw_cX3_parse_32 (i := 6) (by decide +kernel) rfl
theorem dX3_parse_41 : decode cX3_parse 41 = .ok (.aload_n 0, 1) := zrD zrw_cX3_parse_32 (i := 9) (by decide +kernel) rfl
theorem dX3_parse_42 : decode cX3_parse 42 = .ok (.iconst 0, 1) := zrD zrw_cX3_parse_32 (i := 10) (by decide +kernel) rfl
theorem dX3_parse_43 : decode cX3_parse 43 = .ok (.putfield 49, 3) := zrD zrw_cX3_parse_32 (i := 11) (by decide +kernel) rfl
theorem dX3_parse_46 : decode cX3_parse 46 = .ok (.aload_n 0, 1) := zrD zrw_cX3_parse_32 (i := 14) (by decide +kernel) rfl
theorem dX3_parse_47 : decode cX3_parse 47 = .ok (.iconst (-1), 1) := zrD zrw_cX3_parse_32 (i := 15) (by decide +kernel) rfl
theorem dX3_parse_48 : decode cX3_parse 48 = .ok (.putfield 52, 3) := zrD zrw_cX3_parse_32 (i := 16) (by decide +kernel) rfl
theorem dX3_parse_51 : decode cX3_parse 51 = .ok (.aload_n 0, 1) := zrD zrw_cX3_parse_32 (i := 19) (by decide +kernel) rfl
theorem dX3_parse_52 : decode cX3_parse 52 = .ok (.iconst 0, 1) := zrD zrw_cX3_parse_32 (i := 20) (by decide +kernel) rfl
theorem dX3_parse_53 : decode cX3_parse 53 = .ok (.invokevirtual 64, 3) := zrD zrw_cX3_parse_32 (i := 21) (by decide +kernel) rfl
theorem dX3_parse_56 : decode cX3_parse 56 = .ok (.iconst 0, 1) := zrD zrw_cX3_parse_32 (i := 24) (by decide +kernel) rfl
theorem dX3_parse_57 : decode cX3_parse 57 = .ok (.istore 4, 2) := zrD zrw_cX3_parse_32 (i := 25) (by decide +kernel) rfl
theorem dX3_parse_59 : decode cX3_parse 59 = .ok (.iload 4, 2) := zrD zrw_cX3_parse_32 (i := 27) (by decide +kernel) rfl
theorem dX3_parse_61 : decode cX3_parse 61 = .ok (.sipush 400, 3) := zrD zrw_cX3_parse_32 (i := 29) (by decide +kernel) rfl
def zrk_cX3_parse_64 : ByteArray := .mk #[163, 0, 29, 42, 180, 0, 43, 154, 0, 22, 42, 180, 0, 26, 16, 33, 159, 0, 13, 42, 182, 0, 68, 132, 4, 1, 167, 255, 225, 42]
theorem zrw_cX3_parse_64 : zrW 64 cX3_parse zrk_cX3_parse_64 := by unfold zrW; decide +kernel
theorem dX3_parse_64 : decode cX3_parse 64 = .ok (.if_icmp .gt 29, 3) := zrD zrw_cX3_parse_64 (i := 0) (by decide +kernel) rfl
theorem dX3_parse_67 : decode cX3_parse 67 = .ok (.aload_n 0, 1) := zrD zrw_cX3_parse_64 (i := 3) (by decide +kernel) rfl
theorem dX3_parse_68 : decode cX3_parse 68 = .ok (.getfield 43, 3) := zrD zrw_cX3_parse_64 (i := 4) (by decide +kernel) rfl
theorem dX3_parse_71 : decode cX3_parse 71 = .ok (.ifCond .ne 22, 3) := zrD zrw_cX3_parse_64 (i := 7) (by decide +kernel) rfl
theorem dX3_parse_74 : decode cX3_parse 74 = .ok (.aload_n 0, 1) := zrD zrw_cX3_parse_64 (i := 10) (by decide +kernel) rfl
theorem dX3_parse_75 : decode cX3_parse 75 = .ok (.getfield 26, 3) := zrD zrw_cX3_parse_64 (i := 11) (by decide +kernel) rfl
theorem dX3_parse_78 : decode cX3_parse 78 = .ok (.bipush 33, 2) := zrD zrw_cX3_parse_64 (i := 14) (by decide +kernel) rfl
theorem dX3_parse_80 : decode cX3_parse 80 = .ok (.if_icmp .eq 13, 3) := zrD zrw_cX3_parse_64 (i := 16) (by decide +kernel) rfl
theorem dX3_parse_83 : decode cX3_parse 83 = .ok (.aload_n 0, 1) := zrD zrw_cX3_parse_64 (i := 19) (by decide +kernel) rfl
theorem dX3_parse_84 : decode cX3_parse 84 = .ok (.invokevirtual 68, 3) := zrD zrw_cX3_parse_64 (i := 20) (by decide +kernel) rfl
theorem dX3_parse_87 : decode cX3_parse 87 = .ok (.iinc 4 1, 3) := zrD zrw_cX3_parse_64 (i := 23) (by decide +kernel) rfl
theorem dX3_parse_90 : decode cX3_parse 90 = .ok (.goto (-31), 3) := zrD zrw_cX3_parse_64 (i := 26) (by decide +kernel) rfl
theorem dX3_parse_93 : decode cX3_parse 93 = .ok (.aload_n 0, 1) := zrD zrw_cX3_parse_64 (i := 29) (by decide +kernel) rfl
def zrk_cX3_parse_94 : ByteArray := .mk #[180, 0, 43, 154, 0, 19, 42, 42, 180, 0, 49, 181, 0, 43, 42, 42, 180, 0, 52, 181, 0, 46, 42, 180, 0, 18, 42, 180, 0, 36]
theorem zrw_cX3_parse_94 : zrW 94 cX3_parse zrk_cX3_parse_94 := by unfold zrW; decide +kernel
theorem dX3_parse_94 : decode cX3_parse 94 = .ok (.getfield 43, 3) := zrD zrw_cX3_parse_94 (i := 0) (by decide +kernel) rfl
theorem dX3_parse_97 : decode cX3_parse 97 = .ok (.ifCond .ne 19, 3) := zrD zrw_cX3_parse_94 (i := 3) (by decide +kernel) rfl
theorem dX3_parse_100 : decode cX3_parse 100 = .ok (.aload_n 0, 1) := zrD zrw_cX3_parse_94 (i := 6) (by decide +kernel) rfl
theorem dX3_parse_101 : decode cX3_parse 101 = .ok (.aload_n 0, 1) := zrD zrw_cX3_parse_94 (i := 7) (by decide +kernel) rfl
theorem dX3_parse_102 : decode cX3_parse 102 = .ok (.getfield 49, 3) := zrD zrw_cX3_parse_94 (i := 8) (by decide +kernel) rfl
theorem dX3_parse_105 : decode cX3_parse 105 = .ok (.putfield 43, 3) := zrD zrw_cX3_parse_94 (i := 11) (by decide +kernel) rfl
theorem dX3_parse_108 : decode cX3_parse 108 = .ok (.aload_n 0, 1) := zrD zrw_cX3_parse_94 (i := 14) (by decide +kernel) rfl
theorem dX3_parse_109 : decode cX3_parse 109 = .ok (.aload_n 0, 1) := zrD zrw_cX3_parse_94 (i := 15) (by decide +kernel) rfl
theorem dX3_parse_110 : decode cX3_parse 110 = .ok (.getfield 52, 3) := zrD zrw_cX3_parse_94 (i := 16) (by decide +kernel) rfl
theorem dX3_parse_113 : decode cX3_parse 113 = .ok (.putfield 46, 3) := zrD zrw_cX3_parse_94 (i := 19) (by decide +kernel) rfl
theorem dX3_parse_116 : decode cX3_parse 116 = .ok (.aload_n 0, 1) := zrD zrw_cX3_parse_94 (i := 22) (by decide +kernel) rfl
theorem dX3_parse_117 : decode cX3_parse 117 = .ok (.getfield 18, 3) := zrD zrw_cX3_parse_94 (i := 23) (by decide +kernel) rfl
theorem dX3_parse_120 : decode cX3_parse 120 = .ok (.aload_n 0, 1) := zrD zrw_cX3_parse_94 (i := 26) (by decide +kernel) rfl
theorem dX3_parse_121 : decode cX3_parse 121 = .ok (.getfield 36, 3) := zrD zrw_cX3_parse_94 (i := 27) (by decide +kernel) rfl
def zrk_cX3_parse_124 : ByteArray := .mk #[153, 0, 12, 4, 42, 180, 0, 40, 96, 167, 0, 4, 3, 181, 0, 71, 42, 180, 0, 43, 172]
theorem zrw_cX3_parse_124 : zrW 124 cX3_parse zrk_cX3_parse_124 := by unfold zrW; decide +kernel
theorem dX3_parse_124 : decode cX3_parse 124 = .ok (.ifCond .eq 12, 3) := zrD zrw_cX3_parse_124 (i := 0) (by decide +kernel) rfl
theorem dX3_parse_127 : decode cX3_parse 127 = .ok (.iconst 1, 1) := zrD zrw_cX3_parse_124 (i := 3) (by decide +kernel) rfl
theorem dX3_parse_128 : decode cX3_parse 128 = .ok (.aload_n 0, 1) := zrD zrw_cX3_parse_124 (i := 4) (by decide +kernel) rfl
theorem dX3_parse_129 : decode cX3_parse 129 = .ok (.getfield 40, 3) := zrD zrw_cX3_parse_124 (i := 5) (by decide +kernel) rfl
theorem dX3_parse_132 : decode cX3_parse 132 = .ok (.iadd, 1) := zrD zrw_cX3_parse_124 (i := 8) (by decide +kernel) rfl
theorem dX3_parse_133 : decode cX3_parse 133 = .ok (.goto 4, 3) := zrD zrw_cX3_parse_124 (i := 9) (by decide +kernel) rfl
theorem dX3_parse_136 : decode cX3_parse 136 = .ok (.iconst 0, 1) := zrD zrw_cX3_parse_124 (i := 12) (by decide +kernel) rfl
theorem dX3_parse_137 : decode cX3_parse 137 = .ok (.putfield 71, 3) := zrD zrw_cX3_parse_124 (i := 13) (by decide +kernel) rfl
theorem dX3_parse_140 : decode cX3_parse 140 = .ok (.aload_n 0, 1) := zrD zrw_cX3_parse_124 (i := 16) (by decide +kernel) rfl
theorem dX3_parse_141 : decode cX3_parse 141 = .ok (.getfield 43, 3) := zrD zrw_cX3_parse_124 (i := 17) (by decide +kernel) rfl
theorem dX3_parse_144 : decode cX3_parse 144 = .ok (.ireturn, 1) := zrD zrw_cX3_parse_124 (i := 20) (by decide +kernel) rfl
def zrk_cX3_telling_0 : ByteArray := .mk #[42, 180, 0, 26, 154, 0, 10, 42, 182, 0, 74, 167, 0, 166, 42, 180, 0, 26, 4, 160, 0, 10, 42, 182, 0, 77, 167, 0, 151, 42]
theorem zrw_cX3_telling_0 : zrW 0 cX3_telling zrk_cX3_telling_0 := by unfold zrW; decide +kernel
theorem dX3_telling_0 : decode cX3_telling 0 = .ok (.aload_n 0, 1) := zrD zrw_cX3_telling_0 (i := 0) (by decide +kernel) rfl
theorem dX3_telling_1 : decode cX3_telling 1 = .ok (.getfield 26, 3) := zrD zrw_cX3_telling_0 (i := 1) (by decide +kernel) rfl
theorem dX3_telling_4 : decode cX3_telling 4 = .ok (.ifCond .ne 10, 3) := zrD zrw_cX3_telling_0 (i := 4) (by decide +kernel) rfl
theorem dX3_telling_7 : decode cX3_telling 7 = .ok (.aload_n 0, 1) := zrD zrw_cX3_telling_0 (i := 7) (by decide +kernel) rfl
theorem dX3_telling_8 : decode cX3_telling 8 = .ok (.invokevirtual 74, 3) := zrD zrw_cX3_telling_0 (i := 8) (by decide +kernel) rfl
theorem dX3_telling_11 : decode cX3_telling 11 = .ok (.goto 166, 3) := zrD zrw_cX3_telling_0 (i := 11) (by decide +kernel) rfl
theorem dX3_telling_14 : decode cX3_telling 14 = .ok (.aload_n 0, 1) := zrD zrw_cX3_telling_0 (i := 14) (by decide +kernel) rfl
theorem dX3_telling_15 : decode cX3_telling 15 = .ok (.getfield 26, 3) := zrD zrw_cX3_telling_0 (i := 15) (by decide +kernel) rfl
theorem dX3_telling_18 : decode cX3_telling 18 = .ok (.iconst 1, 1) := zrD zrw_cX3_telling_0 (i := 18) (by decide +kernel) rfl
theorem dX3_telling_19 : decode cX3_telling 19 = .ok (.if_icmp .ne 10, 3) := zrD zrw_cX3_telling_0 (i := 19) (by decide +kernel) rfl
theorem dX3_telling_22 : decode cX3_telling 22 = .ok (.aload_n 0, 1) := zrD zrw_cX3_telling_0 (i := 22) (by decide +kernel) rfl
theorem dX3_telling_23 : decode cX3_telling 23 = .ok (.invokevirtual 77, 3) := zrD zrw_cX3_telling_0 (i := 23) (by decide +kernel) rfl
theorem dX3_telling_26 : decode cX3_telling 26 = .ok (.goto 151, 3) := zrD zrw_cX3_telling_0 (i := 26) (by decide +kernel) rfl
theorem dX3_telling_29 : decode cX3_telling 29 = .ok (.aload_n 0, 1) := zrD zrw_cX3_telling_0 (i := 29) (by decide +kernel) rfl
def zrk_cX3_telling_30 : ByteArray := .mk #[180, 0, 26, 5, 16, 6, 184, 0, 80, 153, 0, 16, 42, 42, 180, 0, 26, 5, 100, 182, 0, 84, 167, 0, 125, 42, 180, 0, 26, 16, 7]
theorem zrw_cX3_telling_30 : zrW 30 cX3_telling zrk_cX3_telling_30 := by unfold zrW; decide +kernel
theorem dX3_telling_30 : decode cX3_telling 30 = .ok (.getfield 26, 3) := zrD zrw_cX3_telling_30 (i := 0) (by decide +kernel) rfl
theorem dX3_telling_33 : decode cX3_telling 33 = .ok (.iconst 2, 1) := zrD zrw_cX3_telling_30 (i := 3) (by decide +kernel) rfl
theorem dX3_telling_34 : decode cX3_telling 34 = .ok (.bipush 6, 2) := zrD zrw_cX3_telling_30 (i := 4) (by decide +kernel) rfl
theorem dX3_telling_36 : decode cX3_telling 36 = .ok (.invokestatic 80, 3) := zrD zrw_cX3_telling_30 (i := 6) (by decide +kernel) rfl
theorem dX3_telling_39 : decode cX3_telling 39 = .ok (.ifCond .eq 16, 3) := zrD zrw_cX3_telling_30 (i := 9) (by decide +kernel) rfl
theorem dX3_telling_42 : decode cX3_telling 42 = .ok (.aload_n 0, 1) := zrD zrw_cX3_telling_30 (i := 12) (by decide +kernel) rfl
theorem dX3_telling_43 : decode cX3_telling 43 = .ok (.aload_n 0, 1) := zrD zrw_cX3_telling_30 (i := 13) (by decide +kernel) rfl
theorem dX3_telling_44 : decode cX3_telling 44 = .ok (.getfield 26, 3) := zrD zrw_cX3_telling_30 (i := 14) (by decide +kernel) rfl
theorem dX3_telling_47 : decode cX3_telling 47 = .ok (.iconst 2, 1) := zrD zrw_cX3_telling_30 (i := 17) (by decide +kernel) rfl
theorem dX3_telling_48 : decode cX3_telling 48 = .ok (.isub, 1) := zrD zrw_cX3_telling_30 (i := 18) (by decide +kernel) rfl
theorem dX3_telling_49 : decode cX3_telling 49 = .ok (.invokevirtual 84, 3) := zrD zrw_cX3_telling_30 (i := 19) (by decide +kernel) rfl
theorem dX3_telling_52 : decode cX3_telling 52 = .ok (.goto 125, 3) := zrD zrw_cX3_telling_30 (i := 22) (by decide +kernel) rfl
theorem dX3_telling_55 : decode cX3_telling 55 = .ok (.aload_n 0, 1) := zrD zrw_cX3_telling_30 (i := 25) (by decide +kernel) rfl
theorem dX3_telling_56 : decode cX3_telling 56 = .ok (.getfield 26, 3) := zrD zrw_cX3_telling_30 (i := 26) (by decide +kernel) rfl
theorem dX3_telling_59 : decode cX3_telling 59 = .ok (.bipush 7, 2) := zrD zrw_cX3_telling_30 (i := 29) (by decide +kernel) rfl
def zrk_cX3_telling_61 : ByteArray := .mk #[160, 0, 42, 42, 42, 180, 0, 26, 182, 0, 87, 42, 180, 0, 18, 42, 3, 16, 100, 182, 0, 90, 181, 0, 94, 42, 180, 0, 18, 42, 3]
theorem zrw_cX3_telling_61 : zrW 61 cX3_telling zrk_cX3_telling_61 := by unfold zrW; decide +kernel
theorem dX3_telling_61 : decode cX3_telling 61 = .ok (.if_icmp .ne 42, 3) := zrD zrw_cX3_telling_61 (i := 0) (by decide +kernel) rfl
theorem dX3_telling_64 : decode cX3_telling 64 = .ok (.aload_n 0, 1) := zrD zrw_cX3_telling_61 (i := 3) (by decide +kernel) rfl
theorem dX3_telling_65 : decode cX3_telling 65 = .ok (.aload_n 0, 1) := zrD zrw_cX3_telling_61 (i := 4) (by decide +kernel) rfl
theorem dX3_telling_66 : decode cX3_telling 66 = .ok (.getfield 26, 3) := zrD zrw_cX3_telling_61 (i := 5) (by decide +kernel) rfl
theorem dX3_telling_69 : decode cX3_telling 69 = .ok (.invokevirtual 87, 3) := zrD zrw_cX3_telling_61 (i := 8) (by decide +kernel) rfl
theorem dX3_telling_72 : decode cX3_telling 72 = .ok (.aload_n 0, 1) := zrD zrw_cX3_telling_61 (i := 11) (by decide +kernel) rfl
theorem dX3_telling_73 : decode cX3_telling 73 = .ok (.getfield 18, 3) := zrD zrw_cX3_telling_61 (i := 12) (by decide +kernel) rfl
theorem dX3_telling_76 : decode cX3_telling 76 = .ok (.aload_n 0, 1) := zrD zrw_cX3_telling_61 (i := 15) (by decide +kernel) rfl
theorem dX3_telling_77 : decode cX3_telling 77 = .ok (.iconst 0, 1) := zrD zrw_cX3_telling_61 (i := 16) (by decide +kernel) rfl
theorem dX3_telling_78 : decode cX3_telling 78 = .ok (.bipush 100, 2) := zrD zrw_cX3_telling_61 (i := 17) (by decide +kernel) rfl
theorem dX3_telling_80 : decode cX3_telling 80 = .ok (.invokevirtual 90, 3) := zrD zrw_cX3_telling_61 (i := 19) (by decide +kernel) rfl
theorem dX3_telling_83 : decode cX3_telling 83 = .ok (.putfield 94, 3) := zrD zrw_cX3_telling_61 (i := 22) (by decide +kernel) rfl
theorem dX3_telling_86 : decode cX3_telling 86 = .ok (.aload_n 0, 1) := zrD zrw_cX3_telling_61 (i := 25) (by decide +kernel) rfl
theorem dX3_telling_87 : decode cX3_telling 87 = .ok (.getfield 18, 3) := zrD zrw_cX3_telling_61 (i := 26) (by decide +kernel) rfl
theorem dX3_telling_90 : decode cX3_telling 90 = .ok (.aload_n 0, 1) := zrD zrw_cX3_telling_61 (i := 29) (by decide +kernel) rfl
theorem dX3_telling_91 : decode cX3_telling 91 = .ok (.iconst 0, 1) := zrD zrw_cX3_telling_61 (i := 30) (by decide +kernel) rfl
def zrk_cX3_telling_92 : ByteArray := .mk #[16, 99, 182, 0, 90, 181, 0, 97, 167, 0, 77, 42, 180, 0, 26, 16, 8, 160, 0, 28, 42, 42, 180, 0, 26, 182, 0, 87, 42, 180, 0, 18]
theorem zrw_cX3_telling_92 : zrW 92 cX3_telling zrk_cX3_telling_92 := by unfold zrW; decide +kernel
theorem dX3_telling_92 : decode cX3_telling 92 = .ok (.bipush 99, 2) := zrD zrw_cX3_telling_92 (i := 0) (by decide +kernel) rfl
theorem dX3_telling_94 : decode cX3_telling 94 = .ok (.invokevirtual 90, 3) := zrD zrw_cX3_telling_92 (i := 2) (by decide +kernel) rfl
theorem dX3_telling_97 : decode cX3_telling 97 = .ok (.putfield 97, 3) := zrD zrw_cX3_telling_92 (i := 5) (by decide +kernel) rfl
theorem dX3_telling_100 : decode cX3_telling 100 = .ok (.goto 77, 3) := zrD zrw_cX3_telling_92 (i := 8) (by decide +kernel) rfl
theorem dX3_telling_103 : decode cX3_telling 103 = .ok (.aload_n 0, 1) := zrD zrw_cX3_telling_92 (i := 11) (by decide +kernel) rfl
theorem dX3_telling_104 : decode cX3_telling 104 = .ok (.getfield 26, 3) := zrD zrw_cX3_telling_92 (i := 12) (by decide +kernel) rfl
theorem dX3_telling_107 : decode cX3_telling 107 = .ok (.bipush 8, 2) := zrD zrw_cX3_telling_92 (i := 15) (by decide +kernel) rfl
theorem dX3_telling_109 : decode cX3_telling 109 = .ok (.if_icmp .ne 28, 3) := zrD zrw_cX3_telling_92 (i := 17) (by decide +kernel) rfl
theorem dX3_telling_112 : decode cX3_telling 112 = .ok (.aload_n 0, 1) := zrD zrw_cX3_telling_92 (i := 20) (by decide +kernel) rfl
theorem dX3_telling_113 : decode cX3_telling 113 = .ok (.aload_n 0, 1) := zrD zrw_cX3_telling_92 (i := 21) (by decide +kernel) rfl
theorem dX3_telling_114 : decode cX3_telling 114 = .ok (.getfield 26, 3) := zrD zrw_cX3_telling_92 (i := 22) (by decide +kernel) rfl
theorem dX3_telling_117 : decode cX3_telling 117 = .ok (.invokevirtual 87, 3) := zrD zrw_cX3_telling_92 (i := 25) (by decide +kernel) rfl
theorem dX3_telling_120 : decode cX3_telling 120 = .ok (.aload_n 0, 1) := zrD zrw_cX3_telling_92 (i := 28) (by decide +kernel) rfl
theorem dX3_telling_121 : decode cX3_telling 121 = .ok (.getfield 18, 3) := zrD zrw_cX3_telling_92 (i := 29) (by decide +kernel) rfl
def zrk_cX3_telling_124 : ByteArray := .mk #[42, 3, 16, 99, 182, 0, 90, 181, 0, 100, 167, 0, 43, 42, 180, 0, 26, 16, 9, 160, 0, 29, 42, 42, 180, 0, 26, 182, 0, 87, 42]
theorem zrw_cX3_telling_124 : zrW 124 cX3_telling zrk_cX3_telling_124 := by unfold zrW; decide +kernel
theorem dX3_telling_124 : decode cX3_telling 124 = .ok (.aload_n 0, 1) := zrD zrw_cX3_telling_124 (i := 0) (by decide +kernel) rfl
theorem dX3_telling_125 : decode cX3_telling 125 = .ok (.iconst 0, 1) := zrD zrw_cX3_telling_124 (i := 1) (by decide +kernel) rfl
theorem dX3_telling_126 : decode cX3_telling 126 = .ok (.bipush 99, 2) := zrD zrw_cX3_telling_124 (i := 2) (by decide +kernel) rfl
theorem dX3_telling_128 : decode cX3_telling 128 = .ok (.invokevirtual 90, 3) := zrD zrw_cX3_telling_124 (i := 4) (by decide +kernel) rfl
theorem dX3_telling_131 : decode cX3_telling 131 = .ok (.putfield 100, 3) := zrD zrw_cX3_telling_124 (i := 7) (by decide +kernel) rfl
theorem dX3_telling_134 : decode cX3_telling 134 = .ok (.goto 43, 3) := zrD zrw_cX3_telling_124 (i := 10) (by decide +kernel) rfl
theorem dX3_telling_137 : decode cX3_telling 137 = .ok (.aload_n 0, 1) := zrD zrw_cX3_telling_124 (i := 13) (by decide +kernel) rfl
theorem dX3_telling_138 : decode cX3_telling 138 = .ok (.getfield 26, 3) := zrD zrw_cX3_telling_124 (i := 14) (by decide +kernel) rfl
theorem dX3_telling_141 : decode cX3_telling 141 = .ok (.bipush 9, 2) := zrD zrw_cX3_telling_124 (i := 17) (by decide +kernel) rfl
theorem dX3_telling_143 : decode cX3_telling 143 = .ok (.if_icmp .ne 29, 3) := zrD zrw_cX3_telling_124 (i := 19) (by decide +kernel) rfl
theorem dX3_telling_146 : decode cX3_telling 146 = .ok (.aload_n 0, 1) := zrD zrw_cX3_telling_124 (i := 22) (by decide +kernel) rfl
theorem dX3_telling_147 : decode cX3_telling 147 = .ok (.aload_n 0, 1) := zrD zrw_cX3_telling_124 (i := 23) (by decide +kernel) rfl
theorem dX3_telling_148 : decode cX3_telling 148 = .ok (.getfield 26, 3) := zrD zrw_cX3_telling_124 (i := 24) (by decide +kernel) rfl
theorem dX3_telling_151 : decode cX3_telling 151 = .ok (.invokevirtual 87, 3) := zrD zrw_cX3_telling_124 (i := 27) (by decide +kernel) rfl
theorem dX3_telling_154 : decode cX3_telling 154 = .ok (.aload_n 0, 1) := zrD zrw_cX3_telling_124 (i := 30) (by decide +kernel) rfl
def zrk_cX3_telling_155 : ByteArray := .mk #[180, 0, 18, 42, 3, 17, 39, 15, 182, 0, 90, 181, 0, 103, 167, 0, 8, 42, 4, 182, 0, 106, 42, 16, 24, 182, 0, 87, 177]
theorem zrw_cX3_telling_155 : zrW 155 cX3_telling zrk_cX3_telling_155 := by unfold zrW; decide +kernel
theorem dX3_telling_155 : decode cX3_telling 155 = .ok (.getfield 18, 3) := zrD zrw_cX3_telling_155 (i := 0) (by decide +kernel) rfl
theorem dX3_telling_158 : decode cX3_telling 158 = .ok (.aload_n 0, 1) := zrD zrw_cX3_telling_155 (i := 3) (by decide +kernel) rfl
theorem dX3_telling_159 : decode cX3_telling 159 = .ok (.iconst 0, 1) := zrD zrw_cX3_telling_155 (i := 4) (by decide +kernel) rfl
theorem dX3_telling_160 : decode cX3_telling 160 = .ok (.sipush 9999, 3) := zrD zrw_cX3_telling_155 (i := 5) (by decide +kernel) rfl
theorem dX3_telling_163 : decode cX3_telling 163 = .ok (.invokevirtual 90, 3) := zrD zrw_cX3_telling_155 (i := 8) (by decide +kernel) rfl
theorem dX3_telling_166 : decode cX3_telling 166 = .ok (.putfield 103, 3) := zrD zrw_cX3_telling_155 (i := 11) (by decide +kernel) rfl
theorem dX3_telling_169 : decode cX3_telling 169 = .ok (.goto 8, 3) := zrD zrw_cX3_telling_155 (i := 14) (by decide +kernel) rfl
theorem dX3_telling_172 : decode cX3_telling 172 = .ok (.aload_n 0, 1) := zrD zrw_cX3_telling_155 (i := 17) (by decide +kernel) rfl
theorem dX3_telling_173 : decode cX3_telling 173 = .ok (.iconst 1, 1) := zrD zrw_cX3_telling_155 (i := 18) (by decide +kernel) rfl
theorem dX3_telling_174 : decode cX3_telling 174 = .ok (.invokevirtual 106, 3) := zrD zrw_cX3_telling_155 (i := 19) (by decide +kernel) rfl
theorem dX3_telling_177 : decode cX3_telling 177 = .ok (.aload_n 0, 1) := zrD zrw_cX3_telling_155 (i := 22) (by decide +kernel) rfl
theorem dX3_telling_178 : decode cX3_telling 178 = .ok (.bipush 24, 2) := zrD zrw_cX3_telling_155 (i := 23) (by decide +kernel) rfl
theorem dX3_telling_180 : decode cX3_telling 180 = .ok (.invokevirtual 87, 3) := zrD zrw_cX3_telling_155 (i := 25) (by decide +kernel) rfl
theorem dX3_telling_183 : decode cX3_telling 183 = .ok (.return_, 1) := zrD zrw_cX3_telling_155 (i := 28) (by decide +kernel) rfl
def zrk_cX3_mouth_0 : ByteArray := .mk #[42, 180, 0, 36, 153, 0, 8, 42, 5, 182, 0, 106, 42, 3, 182, 0, 87, 42, 182, 0, 109, 64, 42, 180, 0, 43, 154, 0, 30, 42, 4]
theorem zrw_cX3_mouth_0 : zrW 0 cX3_mouth zrk_cX3_mouth_0 := by unfold zrW; decide +kernel
theorem dX3_mouth_0 : decode cX3_mouth 0 = .ok (.aload_n 0, 1) := zrD zrw_cX3_mouth_0 (i := 0) (by decide +kernel) rfl
theorem dX3_mouth_1 : decode cX3_mouth 1 = .ok (.getfield 36, 3) := zrD zrw_cX3_mouth_0 (i := 1) (by decide +kernel) rfl
theorem dX3_mouth_4 : decode cX3_mouth 4 = .ok (.ifCond .eq 8, 3) := zrD zrw_cX3_mouth_0 (i := 4) (by decide +kernel) rfl
theorem dX3_mouth_7 : decode cX3_mouth 7 = .ok (.aload_n 0, 1) := zrD zrw_cX3_mouth_0 (i := 7) (by decide +kernel) rfl
theorem dX3_mouth_8 : decode cX3_mouth 8 = .ok (.iconst 2, 1) := zrD zrw_cX3_mouth_0 (i := 8) (by decide +kernel) rfl
theorem dX3_mouth_9 : decode cX3_mouth 9 = .ok (.invokevirtual 106, 3) := zrD zrw_cX3_mouth_0 (i := 9) (by decide +kernel) rfl
theorem dX3_mouth_12 : decode cX3_mouth 12 = .ok (.aload_n 0, 1) := zrD zrw_cX3_mouth_0 (i := 12) (by decide +kernel) rfl
theorem dX3_mouth_13 : decode cX3_mouth 13 = .ok (.iconst 0, 1) := zrD zrw_cX3_mouth_0 (i := 13) (by decide +kernel) rfl
theorem dX3_mouth_14 : decode cX3_mouth 14 = .ok (.invokevirtual 87, 3) := zrD zrw_cX3_mouth_0 (i := 14) (by decide +kernel) rfl
theorem dX3_mouth_17 : decode cX3_mouth 17 = .ok (.aload_n 0, 1) := zrD zrw_cX3_mouth_0 (i := 17) (by decide +kernel) rfl
theorem dX3_mouth_18 : decode cX3_mouth 18 = .ok (.invokevirtual 109, 3) := zrD zrw_cX3_mouth_0 (i := 18) (by decide +kernel) rfl
theorem dX3_mouth_21 : decode cX3_mouth 21 = .ok (.lstore_n 1, 1) := zrD zrw_cX3_mouth_0 (i := 21) (by decide +kernel) rfl
theorem dX3_mouth_22 : decode cX3_mouth 22 = .ok (.aload_n 0, 1) := zrD zrw_cX3_mouth_0 (i := 22) (by decide +kernel) rfl
theorem dX3_mouth_23 : decode cX3_mouth 23 = .ok (.getfield 43, 3) := zrD zrw_cX3_mouth_0 (i := 23) (by decide +kernel) rfl
theorem dX3_mouth_26 : decode cX3_mouth 26 = .ok (.ifCond .ne 30, 3) := zrD zrw_cX3_mouth_0 (i := 26) (by decide +kernel) rfl
theorem dX3_mouth_29 : decode cX3_mouth 29 = .ok (.aload_n 0, 1) := zrD zrw_cX3_mouth_0 (i := 29) (by decide +kernel) rfl
theorem dX3_mouth_30 : decode cX3_mouth 30 = .ok (.iconst 1, 1) := zrD zrw_cX3_mouth_0 (i := 30) (by decide +kernel) rfl
def zrk_cX3_mouth_31 : ByteArray := .mk #[181, 0, 36, 42, 180, 0, 18, 180, 0, 113, 3, 31, 80, 42, 180, 0, 18, 3, 3, 3, 3, 3, 182, 0, 117, 177]
theorem zrw_cX3_mouth_31 : zrW 31 cX3_mouth zrk_cX3_mouth_31 := by unfold zrW; decide +kernel
theorem dX3_mouth_31 : decode cX3_mouth 31 = .ok (.putfield 36, 3) := zrD zrw_cX3_mouth_31 (i := 0) (by decide +kernel) rfl
theorem dX3_mouth_34 : decode cX3_mouth 34 = .ok (.aload_n 0, 1) := zrD zrw_cX3_mouth_31 (i := 3) (by decide +kernel) rfl
theorem dX3_mouth_35 : decode cX3_mouth 35 = .ok (.getfield 18, 3) := zrD zrw_cX3_mouth_31 (i := 4) (by decide +kernel) rfl
theorem dX3_mouth_38 : decode cX3_mouth 38 = .ok (.getfield 113, 3) := zrD zrw_cX3_mouth_31 (i := 7) (by decide +kernel) rfl
theorem dX3_mouth_41 : decode cX3_mouth 41 = .ok (.iconst 0, 1) := zrD zrw_cX3_mouth_31 (i := 10) (by decide +kernel) rfl
theorem dX3_mouth_42 : decode cX3_mouth 42 = .ok (.lload_n 1, 1) := zrD zrw_cX3_mouth_31 (i := 11) (by decide +kernel) rfl
theorem dX3_mouth_43 : decode cX3_mouth 43 = .ok (.lastore, 1) := zrD zrw_cX3_mouth_31 (i := 12) (by decide +kernel) rfl
theorem dX3_mouth_44 : decode cX3_mouth 44 = .ok (.aload_n 0, 1) := zrD zrw_cX3_mouth_31 (i := 13) (by decide +kernel) rfl
theorem dX3_mouth_45 : decode cX3_mouth 45 = .ok (.getfield 18, 3) := zrD zrw_cX3_mouth_31 (i := 14) (by decide +kernel) rfl
theorem dX3_mouth_48 : decode cX3_mouth 48 = .ok (.iconst 0, 1) := zrD zrw_cX3_mouth_31 (i := 17) (by decide +kernel) rfl
theorem dX3_mouth_49 : decode cX3_mouth 49 = .ok (.iconst 0, 1) := zrD zrw_cX3_mouth_31 (i := 18) (by decide +kernel) rfl
theorem dX3_mouth_50 : decode cX3_mouth 50 = .ok (.iconst 0, 1) := zrD zrw_cX3_mouth_31 (i := 19) (by decide +kernel) rfl
theorem dX3_mouth_51 : decode cX3_mouth 51 = .ok (.iconst 0, 1) := zrD zrw_cX3_mouth_31 (i := 20) (by decide +kernel) rfl
theorem dX3_mouth_52 : decode cX3_mouth 52 = .ok (.iconst 0, 1) := zrD zrw_cX3_mouth_31 (i := 21) (by decide +kernel) rfl
theorem dX3_mouth_53 : decode cX3_mouth 53 = .ok (.invokevirtual 117, 3) := zrD zrw_cX3_mouth_31 (i := 22) (by decide +kernel) rfl
theorem dX3_mouth_56 : decode cX3_mouth 56 = .ok (.return_, 1) := zrD zrw_cX3_mouth_31 (i := 25) (by decide +kernel) rfl
def zrk_cX3_newPlace_0 : ByteArray := .mk #[42, 180, 0, 40, 16, 11, 161, 0, 8, 42, 5, 182, 0, 106, 42, 4, 182, 0, 87, 42, 182, 0, 109, 64, 42, 182, 0, 121, 62, 42, 4]
theorem zrw_cX3_newPlace_0 : zrW 0 cX3_newPlace zrk_cX3_newPlace_0 := by unfold zrW; decide +kernel
theorem dX3_newPlace_0 : decode cX3_newPlace 0 = .ok (.aload_n 0, 1) := zrD zrw_cX3_newPlace_0 (i := 0) (by decide +kernel) rfl
theorem dX3_newPlace_1 : decode cX3_newPlace 1 = .ok (.getfield 40, 3) := zrD zrw_cX3_newPlace_0 (i := 1) (by decide +kernel) rfl
theorem dX3_newPlace_4 : decode cX3_newPlace 4 = .ok (.bipush 11, 2) := zrD zrw_cX3_newPlace_0 (i := 4) (by decide +kernel) rfl
theorem dX3_newPlace_6 : decode cX3_newPlace 6 = .ok (.if_icmp .lt 8, 3) := zrD zrw_cX3_newPlace_0 (i := 6) (by decide +kernel) rfl
theorem dX3_newPlace_9 : decode cX3_newPlace 9 = .ok (.aload_n 0, 1) := zrD zrw_cX3_newPlace_0 (i := 9) (by decide +kernel) rfl
theorem dX3_newPlace_10 : decode cX3_newPlace 10 = .ok (.iconst 2, 1) := zrD zrw_cX3_newPlace_0 (i := 10) (by decide +kernel) rfl
theorem dX3_newPlace_11 : decode cX3_newPlace 11 = .ok (.invokevirtual 106, 3) := zrD zrw_cX3_newPlace_0 (i := 11) (by decide +kernel) rfl
theorem dX3_newPlace_14 : decode cX3_newPlace 14 = .ok (.aload_n 0, 1) := zrD zrw_cX3_newPlace_0 (i := 14) (by decide +kernel) rfl
theorem dX3_newPlace_15 : decode cX3_newPlace 15 = .ok (.iconst 1, 1) := zrD zrw_cX3_newPlace_0 (i := 15) (by decide +kernel) rfl
theorem dX3_newPlace_16 : decode cX3_newPlace 16 = .ok (.invokevirtual 87, 3) := zrD zrw_cX3_newPlace_0 (i := 16) (by decide +kernel) rfl
theorem dX3_newPlace_19 : decode cX3_newPlace 19 = .ok (.aload_n 0, 1) := zrD zrw_cX3_newPlace_0 (i := 19) (by decide +kernel) rfl
theorem dX3_newPlace_20 : decode cX3_newPlace 20 = .ok (.invokevirtual 109, 3) := zrD zrw_cX3_newPlace_0 (i := 20) (by decide +kernel) rfl
theorem dX3_newPlace_23 : decode cX3_newPlace 23 = .ok (.lstore_n 1, 1) := zrD zrw_cX3_newPlace_0 (i := 23) (by decide +kernel) rfl
theorem dX3_newPlace_24 : decode cX3_newPlace 24 = .ok (.aload_n 0, 1) := zrD zrw_cX3_newPlace_0 (i := 24) (by decide +kernel) rfl
theorem dX3_newPlace_25 : decode cX3_newPlace 25 = .ok (.invokevirtual 121, 3) := zrD zrw_cX3_newPlace_0 (i := 25) (by decide +kernel) rfl
theorem dX3_newPlace_28 : decode cX3_newPlace 28 = .ok (.istore_n 3, 1) := zrD zrw_cX3_newPlace_0 (i := 28) (by decide +kernel) rfl
theorem dX3_newPlace_29 : decode cX3_newPlace 29 = .ok (.aload_n 0, 1) := zrD zrw_cX3_newPlace_0 (i := 29) (by decide +kernel) rfl
theorem dX3_newPlace_30 : decode cX3_newPlace 30 = .ok (.iconst 1, 1) := zrD zrw_cX3_newPlace_0 (i := 30) (by decide +kernel) rfl
def zrk_cX3_newPlace_31 : ByteArray := .mk #[16, 99, 182, 0, 90, 54, 4, 42, 3, 16, 99, 182, 0, 90, 54, 5, 42, 3, 16, 99, 182, 0, 90, 54, 6, 42, 180, 0, 43, 154, 0, 53]
theorem zrw_cX3_newPlace_31 : zrW 31 cX3_newPlace zrk_cX3_newPlace_31 := by unfold zrW; decide +kernel
theorem dX3_newPlace_31 : decode cX3_newPlace 31 = .ok (.bipush 99, 2) := zrD zrw_cX3_newPlace_31 (i := 0) (by decide +kernel) rfl
theorem dX3_newPlace_33 : decode cX3_newPlace 33 = .ok (.invokevirtual 90, 3) := zrD zrw_cX3_newPlace_31 (i := 2) (by decide +kernel) rfl
theorem dX3_newPlace_36 : decode cX3_newPlace 36 = .ok (.istore 4, 2) := zrD zrw_cX3_newPlace_31 (i := 5) (by decide +kernel) rfl
theorem dX3_newPlace_38 : decode cX3_newPlace 38 = .ok (.aload_n 0, 1) := zrD zrw_cX3_newPlace_31 (i := 7) (by decide +kernel) rfl
theorem dX3_newPlace_39 : decode cX3_newPlace 39 = .ok (.iconst 0, 1) := zrD zrw_cX3_newPlace_31 (i := 8) (by decide +kernel) rfl
theorem dX3_newPlace_40 : decode cX3_newPlace 40 = .ok (.bipush 99, 2) := zrD zrw_cX3_newPlace_31 (i := 9) (by decide +kernel) rfl
theorem dX3_newPlace_42 : decode cX3_newPlace 42 = .ok (.invokevirtual 90, 3) := zrD zrw_cX3_newPlace_31 (i := 11) (by decide +kernel) rfl
theorem dX3_newPlace_45 : decode cX3_newPlace 45 = .ok (.istore 5, 2) := zrD zrw_cX3_newPlace_31 (i := 14) (by decide +kernel) rfl
theorem dX3_newPlace_47 : decode cX3_newPlace 47 = .ok (.aload_n 0, 1) := zrD zrw_cX3_newPlace_31 (i := 16) (by decide +kernel) rfl
theorem dX3_newPlace_48 : decode cX3_newPlace 48 = .ok (.iconst 0, 1) := zrD zrw_cX3_newPlace_31 (i := 17) (by decide +kernel) rfl
theorem dX3_newPlace_49 : decode cX3_newPlace 49 = .ok (.bipush 99, 2) := zrD zrw_cX3_newPlace_31 (i := 18) (by decide +kernel) rfl
theorem dX3_newPlace_51 : decode cX3_newPlace 51 = .ok (.invokevirtual 90, 3) := zrD zrw_cX3_newPlace_31 (i := 20) (by decide +kernel) rfl
theorem dX3_newPlace_54 : decode cX3_newPlace 54 = .ok (.istore 6, 2) := zrD zrw_cX3_newPlace_31 (i := 23) (by decide +kernel) rfl
theorem dX3_newPlace_56 : decode cX3_newPlace 56 = .ok (.aload_n 0, 1) := zrD zrw_cX3_newPlace_31 (i := 25) (by decide +kernel) rfl
theorem dX3_newPlace_57 : decode cX3_newPlace 57 = .ok (.getfield 43, 3) := zrD zrw_cX3_newPlace_31 (i := 26) (by decide +kernel) rfl
theorem dX3_newPlace_60 : decode cX3_newPlace 60 = .ok (.ifCond .ne 53, 3) := zrD zrw_cX3_newPlace_31 (i := 29) (by decide +kernel) rfl
def zrk_cX3_newPlace_63 : ByteArray := .mk #[42, 180, 0, 40, 16, 11, 162, 0, 44, 42, 89, 180, 0, 40, 4, 96, 181, 0, 40, 42, 180, 0, 18, 180, 0, 113, 42, 180, 0, 40, 31, 80]
theorem zrw_cX3_newPlace_63 : zrW 63 cX3_newPlace zrk_cX3_newPlace_63 := by unfold zrW; decide +kernel
theorem dX3_newPlace_63 : decode cX3_newPlace 63 = .ok (.aload_n 0, 1) := zrD zrw_cX3_newPlace_63 (i := 0) (by decide +kernel) rfl
theorem dX3_newPlace_64 : decode cX3_newPlace 64 = .ok (.getfield 40, 3) := zrD zrw_cX3_newPlace_63 (i := 1) (by decide +kernel) rfl
theorem dX3_newPlace_67 : decode cX3_newPlace 67 = .ok (.bipush 11, 2) := zrD zrw_cX3_newPlace_63 (i := 4) (by decide +kernel) rfl
theorem dX3_newPlace_69 : decode cX3_newPlace 69 = .ok (.if_icmp .ge 44, 3) := zrD zrw_cX3_newPlace_63 (i := 6) (by decide +kernel) rfl
theorem dX3_newPlace_72 : decode cX3_newPlace 72 = .ok (.aload_n 0, 1) := zrD zrw_cX3_newPlace_63 (i := 9) (by decide +kernel) rfl
theorem dX3_newPlace_73 : decode cX3_newPlace 73 = .ok (.dup, 1) := zrD zrw_cX3_newPlace_63 (i := 10) (by decide +kernel) rfl
theorem dX3_newPlace_74 : decode cX3_newPlace 74 = .ok (.getfield 40, 3) := zrD zrw_cX3_newPlace_63 (i := 11) (by decide +kernel) rfl
theorem dX3_newPlace_77 : decode cX3_newPlace 77 = .ok (.iconst 1, 1) := zrD zrw_cX3_newPlace_63 (i := 14) (by decide +kernel) rfl
theorem dX3_newPlace_78 : decode cX3_newPlace 78 = .ok (.iadd, 1) := zrD zrw_cX3_newPlace_63 (i := 15) (by decide +kernel) rfl
theorem dX3_newPlace_79 : decode cX3_newPlace 79 = .ok (.putfield 40, 3) := zrD zrw_cX3_newPlace_63 (i := 16) (by decide +kernel) rfl
theorem dX3_newPlace_82 : decode cX3_newPlace 82 = .ok (.aload_n 0, 1) := zrD zrw_cX3_newPlace_63 (i := 19) (by decide +kernel) rfl
theorem dX3_newPlace_83 : decode cX3_newPlace 83 = .ok (.getfield 18, 3) := zrD zrw_cX3_newPlace_63 (i := 20) (by decide +kernel) rfl
theorem dX3_newPlace_86 : decode cX3_newPlace 86 = .ok (.getfield 113, 3) := zrD zrw_cX3_newPlace_63 (i := 23) (by decide +kernel) rfl
theorem dX3_newPlace_89 : decode cX3_newPlace 89 = .ok (.aload_n 0, 1) := zrD zrw_cX3_newPlace_63 (i := 26) (by decide +kernel) rfl
theorem dX3_newPlace_90 : decode cX3_newPlace 90 = .ok (.getfield 40, 3) := zrD zrw_cX3_newPlace_63 (i := 27) (by decide +kernel) rfl
theorem dX3_newPlace_93 : decode cX3_newPlace 93 = .ok (.lload_n 1, 1) := zrD zrw_cX3_newPlace_63 (i := 30) (by decide +kernel) rfl
theorem dX3_newPlace_94 : decode cX3_newPlace 94 = .ok (.lastore, 1) := zrD zrw_cX3_newPlace_63 (i := 31) (by decide +kernel) rfl
def zrk_cX3_newPlace_95 : ByteArray := .mk #[42, 180, 0, 18, 42, 180, 0, 40, 29, 21, 4, 21, 5, 21, 6, 182, 0, 117, 177]
theorem zrw_cX3_newPlace_95 : zrW 95 cX3_newPlace zrk_cX3_newPlace_95 := by unfold zrW; decide +kernel
theorem dX3_newPlace_95 : decode cX3_newPlace 95 = .ok (.aload_n 0, 1) := zrD zrw_cX3_newPlace_95 (i := 0) (by decide +kernel) rfl
theorem dX3_newPlace_96 : decode cX3_newPlace 96 = .ok (.getfield 18, 3) := zrD zrw_cX3_newPlace_95 (i := 1) (by decide +kernel) rfl
theorem dX3_newPlace_99 : decode cX3_newPlace 99 = .ok (.aload_n 0, 1) := zrD zrw_cX3_newPlace_95 (i := 4) (by decide +kernel) rfl
theorem dX3_newPlace_100 : decode cX3_newPlace 100 = .ok (.getfield 40, 3) := zrD zrw_cX3_newPlace_95 (i := 5) (by decide +kernel) rfl
theorem dX3_newPlace_103 : decode cX3_newPlace 103 = .ok (.iload_n 3, 1) := zrD zrw_cX3_newPlace_95 (i := 8) (by decide +kernel) rfl
theorem dX3_newPlace_104 : decode cX3_newPlace 104 = .ok (.iload 4, 2) := zrD zrw_cX3_newPlace_95 (i := 9) (by decide +kernel) rfl
theorem dX3_newPlace_106 : decode cX3_newPlace 106 = .ok (.iload 5, 2) := zrD zrw_cX3_newPlace_95 (i := 11) (by decide +kernel) rfl
theorem dX3_newPlace_108 : decode cX3_newPlace 108 = .ok (.iload 6, 2) := zrD zrw_cX3_newPlace_95 (i := 13) (by decide +kernel) rfl
theorem dX3_newPlace_110 : decode cX3_newPlace 110 = .ok (.invokevirtual 117, 3) := zrD zrw_cX3_newPlace_95 (i := 15) (by decide +kernel) rfl
theorem dX3_newPlace_113 : decode cX3_newPlace 113 = .ok (.return_, 1) := zrD zrw_cX3_newPlace_95 (i := 18) (by decide +kernel) rfl
def zrk_cX3_newName_0 : ByteArray := .mk #[42, 180, 0, 29, 64, 42, 180, 0, 26, 16, 22, 160, 0, 17, 42, 31, 182, 0, 125, 2, 159, 0, 8, 42, 6, 182, 0, 129, 42, 16, 22]
theorem zrw_cX3_newName_0 : zrW 0 cX3_newName zrk_cX3_newName_0 := by unfold zrW; decide +kernel
theorem dX3_newName_0 : decode cX3_newName 0 = .ok (.aload_n 0, 1) := zrD zrw_cX3_newName_0 (i := 0) (by decide +kernel) rfl
theorem dX3_newName_1 : decode cX3_newName 1 = .ok (.getfield 29, 3) := zrD zrw_cX3_newName_0 (i := 1) (by decide +kernel) rfl
theorem dX3_newName_4 : decode cX3_newName 4 = .ok (.lstore_n 1, 1) := zrD zrw_cX3_newName_0 (i := 4) (by decide +kernel) rfl
theorem dX3_newName_5 : decode cX3_newName 5 = .ok (.aload_n 0, 1) := zrD zrw_cX3_newName_0 (i := 5) (by decide +kernel) rfl
theorem dX3_newName_6 : decode cX3_newName 6 = .ok (.getfield 26, 3) := zrD zrw_cX3_newName_0 (i := 6) (by decide +kernel) rfl
theorem dX3_newName_9 : decode cX3_newName 9 = .ok (.bipush 22, 2) := zrD zrw_cX3_newName_0 (i := 9) (by decide +kernel) rfl
theorem dX3_newName_11 : decode cX3_newName 11 = .ok (.if_icmp .ne 17, 3) := zrD zrw_cX3_newName_0 (i := 11) (by decide +kernel) rfl
theorem dX3_newName_14 : decode cX3_newName 14 = .ok (.aload_n 0, 1) := zrD zrw_cX3_newName_0 (i := 14) (by decide +kernel) rfl
theorem dX3_newName_15 : decode cX3_newName 15 = .ok (.lload_n 1, 1) := zrD zrw_cX3_newName_0 (i := 15) (by decide +kernel) rfl
theorem dX3_newName_16 : decode cX3_newName 16 = .ok (.invokevirtual 125, 3) := zrD zrw_cX3_newName_0 (i := 16) (by decide +kernel) rfl
theorem dX3_newName_19 : decode cX3_newName 19 = .ok (.iconst (-1), 1) := zrD zrw_cX3_newName_0 (i := 19) (by decide +kernel) rfl
theorem dX3_newName_20 : decode cX3_newName 20 = .ok (.if_icmp .eq 8, 3) := zrD zrw_cX3_newName_0 (i := 20) (by decide +kernel) rfl
theorem dX3_newName_23 : decode cX3_newName 23 = .ok (.aload_n 0, 1) := zrD zrw_cX3_newName_0 (i := 23) (by decide +kernel) rfl
theorem dX3_newName_24 : decode cX3_newName 24 = .ok (.iconst 3, 1) := zrD zrw_cX3_newName_0 (i := 24) (by decide +kernel) rfl
theorem dX3_newName_25 : decode cX3_newName 25 = .ok (.invokevirtual 129, 3) := zrD zrw_cX3_newName_0 (i := 25) (by decide +kernel) rfl
theorem dX3_newName_28 : decode cX3_newName 28 = .ok (.aload_n 0, 1) := zrD zrw_cX3_newName_0 (i := 28) (by decide +kernel) rfl
theorem dX3_newName_29 : decode cX3_newName 29 = .ok (.bipush 22, 2) := zrD zrw_cX3_newName_0 (i := 29) (by decide +kernel) rfl
def zrk_cX3_newName_31 : ByteArray := .mk #[182, 0, 87, 31, 173]
theorem zrw_cX3_newName_31 : zrW 31 cX3_newName zrk_cX3_newName_31 := by unfold zrW; decide +kernel
theorem dX3_newName_31 : decode cX3_newName 31 = .ok (.invokevirtual 87, 3) := zrD zrw_cX3_newName_31 (i := 0) (by decide +kernel) rfl
theorem dX3_newName_34 : decode cX3_newName 34 = .ok (.lload_n 1, 1) := zrD zrw_cX3_newName_31 (i := 3) (by decide +kernel) rfl
theorem dX3_newName_35 : decode cX3_newName 35 = .ok (.lreturn, 1) := zrD zrw_cX3_newName_31 (i := 4) (by decide +kernel) rfl
def zrk_cX3_knownName_0 : ByteArray := .mk #[42, 42, 180, 0, 29, 182, 0, 125, 60, 42, 180, 0, 26, 16, 22, 160, 0, 13, 27, 2, 160, 0, 8, 42, 7, 182, 0, 129, 42, 16, 22]
theorem zrw_cX3_knownName_0 : zrW 0 cX3_knownName zrk_cX3_knownName_0 := by unfold zrW; decide +kernel
theorem dX3_knownName_0 : decode cX3_knownName 0 = .ok (.aload_n 0, 1) := zrD zrw_cX3_knownName_0 (i := 0) (by decide +kernel) rfl
theorem dX3_knownName_1 : decode cX3_knownName 1 = .ok (.aload_n 0, 1) := zrD zrw_cX3_knownName_0 (i := 1) (by decide +kernel) rfl
theorem dX3_knownName_2 : decode cX3_knownName 2 = .ok (.getfield 29, 3) := zrD zrw_cX3_knownName_0 (i := 2) (by decide +kernel) rfl
theorem dX3_knownName_5 : decode cX3_knownName 5 = .ok (.invokevirtual 125, 3) := zrD zrw_cX3_knownName_0 (i := 5) (by decide +kernel) rfl
theorem dX3_knownName_8 : decode cX3_knownName 8 = .ok (.istore_n 1, 1) := zrD zrw_cX3_knownName_0 (i := 8) (by decide +kernel) rfl
theorem dX3_knownName_9 : decode cX3_knownName 9 = .ok (.aload_n 0, 1) := zrD zrw_cX3_knownName_0 (i := 9) (by decide +kernel) rfl
theorem dX3_knownName_10 : decode cX3_knownName 10 = .ok (.getfield 26, 3) := zrD zrw_cX3_knownName_0 (i := 10) (by decide +kernel) rfl
theorem dX3_knownName_13 : decode cX3_knownName 13 = .ok (.bipush 22, 2) := zrD zrw_cX3_knownName_0 (i := 13) (by decide +kernel) rfl
theorem dX3_knownName_15 : decode cX3_knownName 15 = .ok (.if_icmp .ne 13, 3) := zrD zrw_cX3_knownName_0 (i := 15) (by decide +kernel) rfl
theorem dX3_knownName_18 : decode cX3_knownName 18 = .ok (.iload_n 1, 1) := zrD zrw_cX3_knownName_0 (i := 18) (by decide +kernel) rfl
theorem dX3_knownName_19 : decode cX3_knownName 19 = .ok (.iconst (-1), 1) := zrD zrw_cX3_knownName_0 (i := 19) (by decide +kernel) rfl
theorem dX3_knownName_20 : decode cX3_knownName 20 = .ok (.if_icmp .ne 8, 3) := zrD zrw_cX3_knownName_0 (i := 20) (by decide +kernel) rfl
theorem dX3_knownName_23 : decode cX3_knownName 23 = .ok (.aload_n 0, 1) := zrD zrw_cX3_knownName_0 (i := 23) (by decide +kernel) rfl
theorem dX3_knownName_24 : decode cX3_knownName 24 = .ok (.iconst 4, 1) := zrD zrw_cX3_knownName_0 (i := 24) (by decide +kernel) rfl
theorem dX3_knownName_25 : decode cX3_knownName 25 = .ok (.invokevirtual 129, 3) := zrD zrw_cX3_knownName_0 (i := 25) (by decide +kernel) rfl
theorem dX3_knownName_28 : decode cX3_knownName 28 = .ok (.aload_n 0, 1) := zrD zrw_cX3_knownName_0 (i := 28) (by decide +kernel) rfl
theorem dX3_knownName_29 : decode cX3_knownName 29 = .ok (.bipush 22, 2) := zrD zrw_cX3_knownName_0 (i := 29) (by decide +kernel) rfl
def zrk_cX3_knownName_31 : ByteArray := .mk #[182, 0, 87, 3, 27, 184, 0, 132, 172]
theorem zrw_cX3_knownName_31 : zrW 31 cX3_knownName zrk_cX3_knownName_31 := by unfold zrW; decide +kernel
theorem dX3_knownName_31 : decode cX3_knownName 31 = .ok (.invokevirtual 87, 3) := zrD zrw_cX3_knownName_31 (i := 0) (by decide +kernel) rfl
theorem dX3_knownName_34 : decode cX3_knownName 34 = .ok (.iconst 0, 1) := zrD zrw_cX3_knownName_31 (i := 3) (by decide +kernel) rfl
theorem dX3_knownName_35 : decode cX3_knownName 35 = .ok (.iload_n 1, 1) := zrD zrw_cX3_knownName_31 (i := 4) (by decide +kernel) rfl
theorem dX3_knownName_36 : decode cX3_knownName 36 = .ok (.invokestatic 132, 3) := zrD zrw_cX3_knownName_31 (i := 5) (by decide +kernel) rfl
theorem dX3_knownName_39 : decode cX3_knownName 39 = .ok (.ireturn, 1) := zrD zrw_cX3_knownName_31 (i := 8) (by decide +kernel) rfl
def zrk_cX3_placeNamed_0 : ByteArray := .mk #[42, 180, 0, 36, 153, 0, 7, 3, 167, 0, 4, 4, 62, 29, 42, 180, 0, 40, 163, 0, 31, 29, 16, 12, 162, 0, 25, 42, 180, 0, 18]
theorem zrw_cX3_placeNamed_0 : zrW 0 cX3_placeNamed zrk_cX3_placeNamed_0 := by unfold zrW; decide +kernel
theorem dX3_placeNamed_0 : decode cX3_placeNamed 0 = .ok (.aload_n 0, 1) := zrD zrw_cX3_placeNamed_0 (i := 0) (by decide +kernel) rfl
theorem dX3_placeNamed_1 : decode cX3_placeNamed 1 = .ok (.getfield 36, 3) := zrD zrw_cX3_placeNamed_0 (i := 1) (by decide +kernel) rfl
theorem dX3_placeNamed_4 : decode cX3_placeNamed 4 = .ok (.ifCond .eq 7, 3) := zrD zrw_cX3_placeNamed_0 (i := 4) (by decide +kernel) rfl
theorem dX3_placeNamed_7 : decode cX3_placeNamed 7 = .ok (.iconst 0, 1) := zrD zrw_cX3_placeNamed_0 (i := 7) (by decide +kernel) rfl
theorem dX3_placeNamed_8 : decode cX3_placeNamed 8 = .ok (.goto 4, 3) := zrD zrw_cX3_placeNamed_0 (i := 8) (by decide +kernel) rfl
theorem dX3_placeNamed_11 : decode cX3_placeNamed 11 = .ok (.iconst 1, 1) := zrD zrw_cX3_placeNamed_0 (i := 11) (by decide +kernel) rfl
theorem dX3_placeNamed_12 : decode cX3_placeNamed 12 = .ok (.istore_n 3, 1) := zrD zrw_cX3_placeNamed_0 (i := 12) (by decide +kernel) rfl
theorem dX3_placeNamed_13 : decode cX3_placeNamed 13 = .ok (.iload_n 3, 1) := zrD zrw_cX3_placeNamed_0 (i := 13) (by decide +kernel) rfl
theorem dX3_placeNamed_14 : decode cX3_placeNamed 14 = .ok (.aload_n 0, 1) := zrD zrw_cX3_placeNamed_0 (i := 14) (by decide +kernel) rfl
theorem dX3_placeNamed_15 : decode cX3_placeNamed 15 = .ok (.getfield 40, 3) := zrD zrw_cX3_placeNamed_0 (i := 15) (by decide +kernel) rfl
theorem dX3_placeNamed_18 : decode cX3_placeNamed 18 = .ok (.if_icmp .gt 31, 3) := zrD zrw_cX3_placeNamed_0 (i := 18) (by decide +kernel) rfl
theorem dX3_placeNamed_21 : decode cX3_placeNamed 21 = .ok (.iload_n 3, 1) := zrD zrw_cX3_placeNamed_0 (i := 21) (by decide +kernel) rfl
theorem dX3_placeNamed_22 : decode cX3_placeNamed 22 = .ok (.bipush 12, 2) := zrD zrw_cX3_placeNamed_0 (i := 22) (by decide +kernel) rfl
theorem dX3_placeNamed_24 : decode cX3_placeNamed 24 = .ok (.if_icmp .ge 25, 3) := zrD zrw_cX3_placeNamed_0 (i := 24) (by decide +kernel) rfl
theorem dX3_placeNamed_27 : decode cX3_placeNamed 27 = .ok (.aload_n 0, 1) := zrD zrw_cX3_placeNamed_0 (i := 27) (by decide +kernel) rfl
theorem dX3_placeNamed_28 : decode cX3_placeNamed 28 = .ok (.getfield 18, 3) := zrD zrw_cX3_placeNamed_0 (i := 28) (by decide +kernel) rfl
def zrk_cX3_placeNamed_31 : ByteArray := .mk #[180, 0, 113, 29, 47, 31, 148, 154, 0, 5, 29, 172, 132, 3, 1, 167, 255, 223, 2, 172]
theorem zrw_cX3_placeNamed_31 : zrW 31 cX3_placeNamed zrk_cX3_placeNamed_31 := by unfold zrW; decide +kernel
theorem dX3_placeNamed_31 : decode cX3_placeNamed 31 = .ok (.getfield 113, 3) := zrD zrw_cX3_placeNamed_31 (i := 0) (by decide +kernel) rfl
theorem dX3_placeNamed_34 : decode cX3_placeNamed 34 = .ok (.iload_n 3, 1) := zrD zrw_cX3_placeNamed_31 (i := 3) (by decide +kernel) rfl
theorem dX3_placeNamed_35 : decode cX3_placeNamed 35 = .ok (.laload, 1) := zrD zrw_cX3_placeNamed_31 (i := 4) (by decide +kernel) rfl
theorem dX3_placeNamed_36 : decode cX3_placeNamed 36 = .ok (.lload_n 1, 1) := zrD zrw_cX3_placeNamed_31 (i := 5) (by decide +kernel) rfl
theorem dX3_placeNamed_37 : decode cX3_placeNamed 37 = .ok (.lcmp, 1) := zrD zrw_cX3_placeNamed_31 (i := 6) (by decide +kernel) rfl
theorem dX3_placeNamed_38 : decode cX3_placeNamed 38 = .ok (.ifCond .ne 5, 3) := zrD zrw_cX3_placeNamed_31 (i := 7) (by decide +kernel) rfl
theorem dX3_placeNamed_41 : decode cX3_placeNamed 41 = .ok (.iload_n 3, 1) := zrD zrw_cX3_placeNamed_31 (i := 10) (by decide +kernel) rfl
theorem dX3_placeNamed_42 : decode cX3_placeNamed 42 = .ok (.ireturn, 1) := zrD zrw_cX3_placeNamed_31 (i := 11) (by decide +kernel) rfl
theorem dX3_placeNamed_43 : decode cX3_placeNamed 43 = .ok (.iinc 3 1, 3) := zrD zrw_cX3_placeNamed_31 (i := 12) (by decide +kernel) rfl
theorem dX3_placeNamed_46 : decode cX3_placeNamed 46 = .ok (.goto (-33), 3) := zrD zrw_cX3_placeNamed_31 (i := 15) (by decide +kernel) rfl
theorem dX3_placeNamed_49 : decode cX3_placeNamed 49 = .ok (.iconst (-1), 1) := zrD zrw_cX3_placeNamed_31 (i := 18) (by decide +kernel) rfl
theorem dX3_placeNamed_50 : decode cX3_placeNamed 50 = .ok (.ireturn, 1) := zrD zrw_cX3_placeNamed_31 (i := 19) (by decide +kernel) rfl
def zrk_cX3_number_0 : ByteArray := .mk #[42, 180, 0, 29, 136, 62, 42, 180, 0, 26, 16, 23, 160, 0, 17, 29, 27, 28, 184, 0, 80, 154, 0, 8, 42, 8, 182, 0, 129, 42, 16, 23]
theorem zrw_cX3_number_0 : zrW 0 cX3_number zrk_cX3_number_0 := by unfold zrW; decide +kernel
theorem dX3_number_0 : decode cX3_number 0 = .ok (.aload_n 0, 1) := zrD zrw_cX3_number_0 (i := 0) (by decide +kernel) rfl
theorem dX3_number_1 : decode cX3_number 1 = .ok (.getfield 29, 3) := zrD zrw_cX3_number_0 (i := 1) (by decide +kernel) rfl
theorem dX3_number_4 : decode cX3_number 4 = .ok (.l2i, 1) := zrD zrw_cX3_number_0 (i := 4) (by decide +kernel) rfl
theorem dX3_number_5 : decode cX3_number 5 = .ok (.istore_n 3, 1) := zrD zrw_cX3_number_0 (i := 5) (by decide +kernel) rfl
theorem dX3_number_6 : decode cX3_number 6 = .ok (.aload_n 0, 1) := zrD zrw_cX3_number_0 (i := 6) (by decide +kernel) rfl
theorem dX3_number_7 : decode cX3_number 7 = .ok (.getfield 26, 3) := zrD zrw_cX3_number_0 (i := 7) (by decide +kernel) rfl
theorem dX3_number_10 : decode cX3_number 10 = .ok (.bipush 23, 2) := zrD zrw_cX3_number_0 (i := 10) (by decide +kernel) rfl
theorem dX3_number_12 : decode cX3_number 12 = .ok (.if_icmp .ne 17, 3) := zrD zrw_cX3_number_0 (i := 12) (by decide +kernel) rfl
theorem dX3_number_15 : decode cX3_number 15 = .ok (.iload_n 3, 1) := zrD zrw_cX3_number_0 (i := 15) (by decide +kernel) rfl
theorem dX3_number_16 : decode cX3_number 16 = .ok (.iload_n 1, 1) := zrD zrw_cX3_number_0 (i := 16) (by decide +kernel) rfl
theorem dX3_number_17 : decode cX3_number 17 = .ok (.iload_n 2, 1) := zrD zrw_cX3_number_0 (i := 17) (by decide +kernel) rfl
theorem dX3_number_18 : decode cX3_number 18 = .ok (.invokestatic 80, 3) := zrD zrw_cX3_number_0 (i := 18) (by decide +kernel) rfl
theorem dX3_number_21 : decode cX3_number 21 = .ok (.ifCond .ne 8, 3) := zrD zrw_cX3_number_0 (i := 21) (by decide +kernel) rfl
theorem dX3_number_24 : decode cX3_number 24 = .ok (.aload_n 0, 1) := zrD zrw_cX3_number_0 (i := 24) (by decide +kernel) rfl
theorem dX3_number_25 : decode cX3_number 25 = .ok (.iconst 5, 1) := zrD zrw_cX3_number_0 (i := 25) (by decide +kernel) rfl
theorem dX3_number_26 : decode cX3_number 26 = .ok (.invokevirtual 129, 3) := zrD zrw_cX3_number_0 (i := 26) (by decide +kernel) rfl
theorem dX3_number_29 : decode cX3_number 29 = .ok (.aload_n 0, 1) := zrD zrw_cX3_number_0 (i := 29) (by decide +kernel) rfl
theorem dX3_number_30 : decode cX3_number 30 = .ok (.bipush 23, 2) := zrD zrw_cX3_number_0 (i := 30) (by decide +kernel) rfl
def zrk_cX3_number_32 : ByteArray := .mk #[182, 0, 87, 29, 172]
theorem zrw_cX3_number_32 : zrW 32 cX3_number zrk_cX3_number_32 := by unfold zrW; decide +kernel
theorem dX3_number_32 : decode cX3_number 32 = .ok (.invokevirtual 87, 3) := zrD zrw_cX3_number_32 (i := 0) (by decide +kernel) rfl
theorem dX3_number_35 : decode cX3_number 35 = .ok (.iload_n 3, 1) := zrD zrw_cX3_number_32 (i := 3) (by decide +kernel) rfl
theorem dX3_number_36 : decode cX3_number 36 = .ok (.ireturn, 1) := zrD zrw_cX3_number_32 (i := 4) (by decide +kernel) rfl
def zrk_cX3_law_0 : ByteArray := .mk #[42, 5, 27, 96, 182, 0, 87, 42, 16, 25, 182, 0, 87, 42, 180, 0, 18, 180, 0, 137, 61, 3, 62, 29, 7, 163, 0, 112, 42, 180, 0, 26]
theorem zrw_cX3_law_0 : zrW 0 cX3_law zrk_cX3_law_0 := by unfold zrW; decide +kernel
theorem dX3_law_0 : decode cX3_law 0 = .ok (.aload_n 0, 1) := zrD zrw_cX3_law_0 (i := 0) (by decide +kernel) rfl
theorem dX3_law_1 : decode cX3_law 1 = .ok (.iconst 2, 1) := zrD zrw_cX3_law_0 (i := 1) (by decide +kernel) rfl
theorem dX3_law_2 : decode cX3_law 2 = .ok (.iload_n 1, 1) := zrD zrw_cX3_law_0 (i := 2) (by decide +kernel) rfl
theorem dX3_law_3 : decode cX3_law 3 = .ok (.iadd, 1) := zrD zrw_cX3_law_0 (i := 3) (by decide +kernel) rfl
theorem dX3_law_4 : decode cX3_law 4 = .ok (.invokevirtual 87, 3) := zrD zrw_cX3_law_0 (i := 4) (by decide +kernel) rfl
theorem dX3_law_7 : decode cX3_law 7 = .ok (.aload_n 0, 1) := zrD zrw_cX3_law_0 (i := 7) (by decide +kernel) rfl
theorem dX3_law_8 : decode cX3_law 8 = .ok (.bipush 25, 2) := zrD zrw_cX3_law_0 (i := 8) (by decide +kernel) rfl
theorem dX3_law_10 : decode cX3_law 10 = .ok (.invokevirtual 87, 3) := zrD zrw_cX3_law_0 (i := 10) (by decide +kernel) rfl
theorem dX3_law_13 : decode cX3_law 13 = .ok (.aload_n 0, 1) := zrD zrw_cX3_law_0 (i := 13) (by decide +kernel) rfl
theorem dX3_law_14 : decode cX3_law 14 = .ok (.getfield 18, 3) := zrD zrw_cX3_law_0 (i := 14) (by decide +kernel) rfl
theorem dX3_law_17 : decode cX3_law 17 = .ok (.getfield 137, 3) := zrD zrw_cX3_law_0 (i := 17) (by decide +kernel) rfl
theorem dX3_law_20 : decode cX3_law 20 = .ok (.istore_n 2, 1) := zrD zrw_cX3_law_0 (i := 20) (by decide +kernel) rfl
theorem dX3_law_21 : decode cX3_law 21 = .ok (.iconst 0, 1) := zrD zrw_cX3_law_0 (i := 21) (by decide +kernel) rfl
theorem dX3_law_22 : decode cX3_law 22 = .ok (.istore_n 3, 1) := zrD zrw_cX3_law_0 (i := 22) (by decide +kernel) rfl
theorem dX3_law_23 : decode cX3_law 23 = .ok (.iload_n 3, 1) := zrD zrw_cX3_law_0 (i := 23) (by decide +kernel) rfl
theorem dX3_law_24 : decode cX3_law 24 = .ok (.iconst 4, 1) := zrD zrw_cX3_law_0 (i := 24) (by decide +kernel) rfl
theorem dX3_law_25 : decode cX3_law 25 = .ok (.if_icmp .gt 112, 3) := zrD zrw_cX3_law_0 (i := 25) (by decide +kernel) rfl
theorem dX3_law_28 : decode cX3_law 28 = .ok (.aload_n 0, 1) := zrD zrw_cX3_law_0 (i := 28) (by decide +kernel) rfl
theorem dX3_law_29 : decode cX3_law 29 = .ok (.getfield 26, 3) := zrD zrw_cX3_law_0 (i := 29) (by decide +kernel) rfl
def zrk_cX3_law_32 : ByteArray := .mk #[16, 10, 160, 0, 103, 29, 7, 160, 0, 8, 42, 5, 182, 0, 106, 42, 16, 10, 182, 0, 87, 42, 3, 182, 0, 140, 42, 16, 30, 182, 0, 87]
theorem zrw_cX3_law_32 : zrW 32 cX3_law zrk_cX3_law_32 := by unfold zrW; decide +kernel
theorem dX3_law_32 : decode cX3_law 32 = .ok (.bipush 10, 2) := zrD zrw_cX3_law_32 (i := 0) (by decide +kernel) rfl
theorem dX3_law_34 : decode cX3_law 34 = .ok (.if_icmp .ne 103, 3) := zrD zrw_cX3_law_32 (i := 2) (by decide +kernel) rfl
theorem dX3_law_37 : decode cX3_law 37 = .ok (.iload_n 3, 1) := zrD zrw_cX3_law_32 (i := 5) (by decide +kernel) rfl
theorem dX3_law_38 : decode cX3_law 38 = .ok (.iconst 4, 1) := zrD zrw_cX3_law_32 (i := 6) (by decide +kernel) rfl
theorem dX3_law_39 : decode cX3_law 39 = .ok (.if_icmp .ne 8, 3) := zrD zrw_cX3_law_32 (i := 7) (by decide +kernel) rfl
theorem dX3_law_42 : decode cX3_law 42 = .ok (.aload_n 0, 1) := zrD zrw_cX3_law_32 (i := 10) (by decide +kernel) rfl
theorem dX3_law_43 : decode cX3_law 43 = .ok (.iconst 2, 1) := zrD zrw_cX3_law_32 (i := 11) (by decide +kernel) rfl
theorem dX3_law_44 : decode cX3_law 44 = .ok (.invokevirtual 106, 3) := zrD zrw_cX3_law_32 (i := 12) (by decide +kernel) rfl
theorem dX3_law_47 : decode cX3_law 47 = .ok (.aload_n 0, 1) := zrD zrw_cX3_law_32 (i := 15) (by decide +kernel) rfl
theorem dX3_law_48 : decode cX3_law 48 = .ok (.bipush 10, 2) := zrD zrw_cX3_law_32 (i := 16) (by decide +kernel) rfl
theorem dX3_law_50 : decode cX3_law 50 = .ok (.invokevirtual 87, 3) := zrD zrw_cX3_law_32 (i := 18) (by decide +kernel) rfl
theorem dX3_law_53 : decode cX3_law 53 = .ok (.aload_n 0, 1) := zrD zrw_cX3_law_32 (i := 21) (by decide +kernel) rfl
theorem dX3_law_54 : decode cX3_law 54 = .ok (.iconst 0, 1) := zrD zrw_cX3_law_32 (i := 22) (by decide +kernel) rfl
theorem dX3_law_55 : decode cX3_law 55 = .ok (.invokevirtual 140, 3) := zrD zrw_cX3_law_32 (i := 23) (by decide +kernel) rfl
theorem dX3_law_58 : decode cX3_law 58 = .ok (.aload_n 0, 1) := zrD zrw_cX3_law_32 (i := 26) (by decide +kernel) rfl
theorem dX3_law_59 : decode cX3_law 59 = .ok (.bipush 30, 2) := zrD zrw_cX3_law_32 (i := 27) (by decide +kernel) rfl
theorem dX3_law_61 : decode cX3_law 61 = .ok (.invokevirtual 87, 3) := zrD zrw_cX3_law_32 (i := 29) (by decide +kernel) rfl
def zrk_cX3_law_64 : ByteArray := .mk #[42, 3, 182, 0, 140, 42, 16, 11, 182, 0, 87, 42, 180, 0, 18, 180, 0, 137, 54, 4, 42, 180, 0, 18, 16, 6, 3, 182, 0, 145, 42, 3]
theorem zrw_cX3_law_64 : zrW 64 cX3_law zrk_cX3_law_64 := by unfold zrW; decide +kernel
theorem dX3_law_64 : decode cX3_law 64 = .ok (.aload_n 0, 1) := zrD zrw_cX3_law_64 (i := 0) (by decide +kernel) rfl
theorem dX3_law_65 : decode cX3_law 65 = .ok (.iconst 0, 1) := zrD zrw_cX3_law_64 (i := 1) (by decide +kernel) rfl
theorem dX3_law_66 : decode cX3_law 66 = .ok (.invokevirtual 140, 3) := zrD zrw_cX3_law_64 (i := 2) (by decide +kernel) rfl
theorem dX3_law_69 : decode cX3_law 69 = .ok (.aload_n 0, 1) := zrD zrw_cX3_law_64 (i := 5) (by decide +kernel) rfl
theorem dX3_law_70 : decode cX3_law 70 = .ok (.bipush 11, 2) := zrD zrw_cX3_law_64 (i := 6) (by decide +kernel) rfl
theorem dX3_law_72 : decode cX3_law 72 = .ok (.invokevirtual 87, 3) := zrD zrw_cX3_law_64 (i := 8) (by decide +kernel) rfl
theorem dX3_law_75 : decode cX3_law 75 = .ok (.aload_n 0, 1) := zrD zrw_cX3_law_64 (i := 11) (by decide +kernel) rfl
theorem dX3_law_76 : decode cX3_law 76 = .ok (.getfield 18, 3) := zrD zrw_cX3_law_64 (i := 12) (by decide +kernel) rfl
theorem dX3_law_79 : decode cX3_law 79 = .ok (.getfield 137, 3) := zrD zrw_cX3_law_64 (i := 15) (by decide +kernel) rfl
theorem dX3_law_82 : decode cX3_law 82 = .ok (.istore 4, 2) := zrD zrw_cX3_law_64 (i := 18) (by decide +kernel) rfl
theorem dX3_law_84 : decode cX3_law 84 = .ok (.aload_n 0, 1) := zrD zrw_cX3_law_64 (i := 20) (by decide +kernel) rfl
theorem dX3_law_85 : decode cX3_law 85 = .ok (.getfield 18, 3) := zrD zrw_cX3_law_64 (i := 21) (by decide +kernel) rfl
theorem dX3_law_88 : decode cX3_law 88 = .ok (.bipush 6, 2) := zrD zrw_cX3_law_64 (i := 24) (by decide +kernel) rfl
theorem dX3_law_90 : decode cX3_law 90 = .ok (.iconst 0, 1) := zrD zrw_cX3_law_64 (i := 26) (by decide +kernel) rfl
theorem dX3_law_91 : decode cX3_law 91 = .ok (.invokevirtual 145, 3) := zrD zrw_cX3_law_64 (i := 27) (by decide +kernel) rfl
theorem dX3_law_94 : decode cX3_law 94 = .ok (.aload_n 0, 1) := zrD zrw_cX3_law_64 (i := 30) (by decide +kernel) rfl
theorem dX3_law_95 : decode cX3_law 95 = .ok (.iconst 0, 1) := zrD zrw_cX3_law_64 (i := 31) (by decide +kernel) rfl
def zrk_cX3_law_96 : ByteArray := .mk #[182, 0, 140, 42, 16, 12, 182, 0, 87, 42, 180, 0, 18, 16, 7, 3, 182, 0, 145, 42, 180, 0, 18, 21, 4, 42, 180, 0, 18, 180, 0, 137]
theorem zrw_cX3_law_96 : zrW 96 cX3_law zrk_cX3_law_96 := by unfold zrW; decide +kernel
theorem dX3_law_96 : decode cX3_law 96 = .ok (.invokevirtual 140, 3) := zrD zrw_cX3_law_96 (i := 0) (by decide +kernel) rfl
theorem dX3_law_99 : decode cX3_law 99 = .ok (.aload_n 0, 1) := zrD zrw_cX3_law_96 (i := 3) (by decide +kernel) rfl
theorem dX3_law_100 : decode cX3_law 100 = .ok (.bipush 12, 2) := zrD zrw_cX3_law_96 (i := 4) (by decide +kernel) rfl
theorem dX3_law_102 : decode cX3_law 102 = .ok (.invokevirtual 87, 3) := zrD zrw_cX3_law_96 (i := 6) (by decide +kernel) rfl
theorem dX3_law_105 : decode cX3_law 105 = .ok (.aload_n 0, 1) := zrD zrw_cX3_law_96 (i := 9) (by decide +kernel) rfl
theorem dX3_law_106 : decode cX3_law 106 = .ok (.getfield 18, 3) := zrD zrw_cX3_law_96 (i := 10) (by decide +kernel) rfl
theorem dX3_law_109 : decode cX3_law 109 = .ok (.bipush 7, 2) := zrD zrw_cX3_law_96 (i := 13) (by decide +kernel) rfl
theorem dX3_law_111 : decode cX3_law 111 = .ok (.iconst 0, 1) := zrD zrw_cX3_law_96 (i := 15) (by decide +kernel) rfl
theorem dX3_law_112 : decode cX3_law 112 = .ok (.invokevirtual 145, 3) := zrD zrw_cX3_law_96 (i := 16) (by decide +kernel) rfl
theorem dX3_law_115 : decode cX3_law 115 = .ok (.aload_n 0, 1) := zrD zrw_cX3_law_96 (i := 19) (by decide +kernel) rfl
theorem dX3_law_116 : decode cX3_law 116 = .ok (.getfield 18, 3) := zrD zrw_cX3_law_96 (i := 20) (by decide +kernel) rfl
theorem dX3_law_119 : decode cX3_law 119 = .ok (.iload 4, 2) := zrD zrw_cX3_law_96 (i := 23) (by decide +kernel) rfl
theorem dX3_law_121 : decode cX3_law 121 = .ok (.aload_n 0, 1) := zrD zrw_cX3_law_96 (i := 25) (by decide +kernel) rfl
theorem dX3_law_122 : decode cX3_law 122 = .ok (.getfield 18, 3) := zrD zrw_cX3_law_96 (i := 26) (by decide +kernel) rfl
theorem dX3_law_125 : decode cX3_law 125 = .ok (.getfield 137, 3) := zrD zrw_cX3_law_96 (i := 29) (by decide +kernel) rfl
def zrk_cX3_law_128 : ByteArray := .mk #[182, 0, 149, 132, 3, 1, 167, 255, 145, 42, 3, 182, 0, 140, 42, 180, 0, 18, 16, 7, 3, 182, 0, 145, 42, 180, 0, 18, 180, 0, 152, 27]
theorem zrw_cX3_law_128 : zrW 128 cX3_law zrk_cX3_law_128 := by unfold zrW; decide +kernel
theorem dX3_law_128 : decode cX3_law 128 = .ok (.invokevirtual 149, 3) := zrD zrw_cX3_law_128 (i := 0) (by decide +kernel) rfl
theorem dX3_law_131 : decode cX3_law 131 = .ok (.iinc 3 1, 3) := zrD zrw_cX3_law_128 (i := 3) (by decide +kernel) rfl
theorem dX3_law_134 : decode cX3_law 134 = .ok (.goto (-111), 3) := zrD zrw_cX3_law_128 (i := 6) (by decide +kernel) rfl
theorem dX3_law_137 : decode cX3_law 137 = .ok (.aload_n 0, 1) := zrD zrw_cX3_law_128 (i := 9) (by decide +kernel) rfl
theorem dX3_law_138 : decode cX3_law 138 = .ok (.iconst 0, 1) := zrD zrw_cX3_law_128 (i := 10) (by decide +kernel) rfl
theorem dX3_law_139 : decode cX3_law 139 = .ok (.invokevirtual 140, 3) := zrD zrw_cX3_law_128 (i := 11) (by decide +kernel) rfl
theorem dX3_law_142 : decode cX3_law 142 = .ok (.aload_n 0, 1) := zrD zrw_cX3_law_128 (i := 14) (by decide +kernel) rfl
theorem dX3_law_143 : decode cX3_law 143 = .ok (.getfield 18, 3) := zrD zrw_cX3_law_128 (i := 15) (by decide +kernel) rfl
theorem dX3_law_146 : decode cX3_law 146 = .ok (.bipush 7, 2) := zrD zrw_cX3_law_128 (i := 18) (by decide +kernel) rfl
theorem dX3_law_148 : decode cX3_law 148 = .ok (.iconst 0, 1) := zrD zrw_cX3_law_128 (i := 20) (by decide +kernel) rfl
theorem dX3_law_149 : decode cX3_law 149 = .ok (.invokevirtual 145, 3) := zrD zrw_cX3_law_128 (i := 21) (by decide +kernel) rfl
theorem dX3_law_152 : decode cX3_law 152 = .ok (.aload_n 0, 1) := zrD zrw_cX3_law_128 (i := 24) (by decide +kernel) rfl
theorem dX3_law_153 : decode cX3_law 153 = .ok (.getfield 18, 3) := zrD zrw_cX3_law_128 (i := 25) (by decide +kernel) rfl
theorem dX3_law_156 : decode cX3_law 156 = .ok (.getfield 152, 3) := zrD zrw_cX3_law_128 (i := 28) (by decide +kernel) rfl
theorem dX3_law_159 : decode cX3_law 159 = .ok (.iload_n 1, 1) := zrD zrw_cX3_law_128 (i := 31) (by decide +kernel) rfl
def zrk_cX3_law_160 : ByteArray := .mk #[28, 79, 177]
theorem zrw_cX3_law_160 : zrW 160 cX3_law zrk_cX3_law_160 := by unfold zrW; decide +kernel
theorem dX3_law_160 : decode cX3_law 160 = .ok (.iload_n 2, 1) := zrD zrw_cX3_law_160 (i := 0) (by decide +kernel) rfl
theorem dX3_law_161 : decode cX3_law 161 = .ok (.iastore, 1) := zrD zrw_cX3_law_160 (i := 1) (by decide +kernel) rfl
theorem dX3_law_162 : decode cX3_law 162 = .ok (.return_, 1) := zrD zrw_cX3_law_160 (i := 2) (by decide +kernel) rfl
def zrk_cX3_sum_0 : ByteArray := .mk #[42, 27, 182, 0, 156, 3, 61, 28, 17, 1, 144, 163, 0, 57, 42, 180, 0, 26, 16, 26, 16, 27, 184, 0, 80, 153, 0, 43, 42, 180, 0, 26]
theorem zrw_cX3_sum_0 : zrW 0 cX3_sum zrk_cX3_sum_0 := by unfold zrW; decide +kernel
theorem dX3_sum_0 : decode cX3_sum 0 = .ok (.aload_n 0, 1) := zrD zrw_cX3_sum_0 (i := 0) (by decide +kernel) rfl
theorem dX3_sum_1 : decode cX3_sum 1 = .ok (.iload_n 1, 1) := zrD zrw_cX3_sum_0 (i := 1) (by decide +kernel) rfl
theorem dX3_sum_2 : decode cX3_sum 2 = .ok (.invokevirtual 156, 3) := zrD zrw_cX3_sum_0 (i := 2) (by decide +kernel) rfl
theorem dX3_sum_5 : decode cX3_sum 5 = .ok (.iconst 0, 1) := zrD zrw_cX3_sum_0 (i := 5) (by decide +kernel) rfl
theorem dX3_sum_6 : decode cX3_sum 6 = .ok (.istore_n 2, 1) := zrD zrw_cX3_sum_0 (i := 6) (by decide +kernel) rfl
theorem dX3_sum_7 : decode cX3_sum 7 = .ok (.iload_n 2, 1) := zrD zrw_cX3_sum_0 (i := 7) (by decide +kernel) rfl
theorem dX3_sum_8 : decode cX3_sum 8 = .ok (.sipush 400, 3) := zrD zrw_cX3_sum_0 (i := 8) (by decide +kernel) rfl
theorem dX3_sum_11 : decode cX3_sum 11 = .ok (.if_icmp .gt 57, 3) := zrD zrw_cX3_sum_0 (i := 11) (by decide +kernel) rfl
theorem dX3_sum_14 : decode cX3_sum 14 = .ok (.aload_n 0, 1) := zrD zrw_cX3_sum_0 (i := 14) (by decide +kernel) rfl
theorem dX3_sum_15 : decode cX3_sum 15 = .ok (.getfield 26, 3) := zrD zrw_cX3_sum_0 (i := 15) (by decide +kernel) rfl
theorem dX3_sum_18 : decode cX3_sum 18 = .ok (.bipush 26, 2) := zrD zrw_cX3_sum_0 (i := 18) (by decide +kernel) rfl
theorem dX3_sum_20 : decode cX3_sum 20 = .ok (.bipush 27, 2) := zrD zrw_cX3_sum_0 (i := 20) (by decide +kernel) rfl
theorem dX3_sum_22 : decode cX3_sum 22 = .ok (.invokestatic 80, 3) := zrD zrw_cX3_sum_0 (i := 22) (by decide +kernel) rfl
theorem dX3_sum_25 : decode cX3_sum 25 = .ok (.ifCond .eq 43, 3) := zrD zrw_cX3_sum_0 (i := 25) (by decide +kernel) rfl
theorem dX3_sum_28 : decode cX3_sum 28 = .ok (.aload_n 0, 1) := zrD zrw_cX3_sum_0 (i := 28) (by decide +kernel) rfl
theorem dX3_sum_29 : decode cX3_sum 29 = .ok (.getfield 26, 3) := zrD zrw_cX3_sum_0 (i := 29) (by decide +kernel) rfl
def zrk_cX3_sum_32 : ByteArray := .mk #[62, 42, 29, 182, 0, 87, 42, 27, 182, 0, 156, 42, 180, 0, 18, 29, 16, 26, 160, 0, 7, 5, 167, 0, 4, 6, 3, 182, 0, 145]
theorem zrw_cX3_sum_32 : zrW 32 cX3_sum zrk_cX3_sum_32 := by unfold zrW; decide +kernel
theorem dX3_sum_32 : decode cX3_sum 32 = .ok (.istore_n 3, 1) := zrD zrw_cX3_sum_32 (i := 0) (by decide +kernel) rfl
theorem dX3_sum_33 : decode cX3_sum 33 = .ok (.aload_n 0, 1) := zrD zrw_cX3_sum_32 (i := 1) (by decide +kernel) rfl
theorem dX3_sum_34 : decode cX3_sum 34 = .ok (.iload_n 3, 1) := zrD zrw_cX3_sum_32 (i := 2) (by decide +kernel) rfl
theorem dX3_sum_35 : decode cX3_sum 35 = .ok (.invokevirtual 87, 3) := zrD zrw_cX3_sum_32 (i := 3) (by decide +kernel) rfl
theorem dX3_sum_38 : decode cX3_sum 38 = .ok (.aload_n 0, 1) := zrD zrw_cX3_sum_32 (i := 6) (by decide +kernel) rfl
theorem dX3_sum_39 : decode cX3_sum 39 = .ok (.iload_n 1, 1) := zrD zrw_cX3_sum_32 (i := 7) (by decide +kernel) rfl
theorem dX3_sum_40 : decode cX3_sum 40 = .ok (.invokevirtual 156, 3) := zrD zrw_cX3_sum_32 (i := 8) (by decide +kernel) rfl
theorem dX3_sum_43 : decode cX3_sum 43 = .ok (.aload_n 0, 1) := zrD zrw_cX3_sum_32 (i := 11) (by decide +kernel) rfl
theorem dX3_sum_44 : decode cX3_sum 44 = .ok (.getfield 18, 3) := zrD zrw_cX3_sum_32 (i := 12) (by decide +kernel) rfl
theorem dX3_sum_47 : decode cX3_sum 47 = .ok (.iload_n 3, 1) := zrD zrw_cX3_sum_32 (i := 15) (by decide +kernel) rfl
theorem dX3_sum_48 : decode cX3_sum 48 = .ok (.bipush 26, 2) := zrD zrw_cX3_sum_32 (i := 16) (by decide +kernel) rfl
theorem dX3_sum_50 : decode cX3_sum 50 = .ok (.if_icmp .ne 7, 3) := zrD zrw_cX3_sum_32 (i := 18) (by decide +kernel) rfl
theorem dX3_sum_53 : decode cX3_sum 53 = .ok (.iconst 2, 1) := zrD zrw_cX3_sum_32 (i := 21) (by decide +kernel) rfl
theorem dX3_sum_54 : decode cX3_sum 54 = .ok (.goto 4, 3) := zrD zrw_cX3_sum_32 (i := 22) (by decide +kernel) rfl
theorem dX3_sum_57 : decode cX3_sum 57 = .ok (.iconst 3, 1) := zrD zrw_cX3_sum_32 (i := 25) (by decide +kernel) rfl
theorem dX3_sum_58 : decode cX3_sum 58 = .ok (.iconst 0, 1) := zrD zrw_cX3_sum_32 (i := 26) (by decide +kernel) rfl
theorem dX3_sum_59 : decode cX3_sum 59 = .ok (.invokevirtual 145, 3) := zrD zrw_cX3_sum_32 (i := 27) (by decide +kernel) rfl
def zrk_cX3_sum_62 : ByteArray := .mk #[132, 2, 1, 167, 255, 198, 177]
theorem zrw_cX3_sum_62 : zrW 62 cX3_sum zrk_cX3_sum_62 := by unfold zrW; decide +kernel
theorem dX3_sum_62 : decode cX3_sum 62 = .ok (.iinc 2 1, 3) := zrD zrw_cX3_sum_62 (i := 0) (by decide +kernel) rfl
theorem dX3_sum_65 : decode cX3_sum 65 = .ok (.goto (-58), 3) := zrD zrw_cX3_sum_62 (i := 3) (by decide +kernel) rfl
theorem dX3_sum_68 : decode cX3_sum 68 = .ok (.return_, 1) := zrD zrw_cX3_sum_62 (i := 6) (by decide +kernel) rfl
def zrk_cX3_product_0 : ByteArray := .mk #[42, 27, 182, 0, 159, 3, 61, 28, 17, 1, 144, 163, 0, 57, 42, 180, 0, 26, 16, 28, 16, 29, 184, 0, 80, 153, 0, 43, 42, 180, 0, 26]
theorem zrw_cX3_product_0 : zrW 0 cX3_product zrk_cX3_product_0 := by unfold zrW; decide +kernel
theorem dX3_product_0 : decode cX3_product 0 = .ok (.aload_n 0, 1) := zrD zrw_cX3_product_0 (i := 0) (by decide +kernel) rfl
theorem dX3_product_1 : decode cX3_product 1 = .ok (.iload_n 1, 1) := zrD zrw_cX3_product_0 (i := 1) (by decide +kernel) rfl
theorem dX3_product_2 : decode cX3_product 2 = .ok (.invokevirtual 159, 3) := zrD zrw_cX3_product_0 (i := 2) (by decide +kernel) rfl
theorem dX3_product_5 : decode cX3_product 5 = .ok (.iconst 0, 1) := zrD zrw_cX3_product_0 (i := 5) (by decide +kernel) rfl
theorem dX3_product_6 : decode cX3_product 6 = .ok (.istore_n 2, 1) := zrD zrw_cX3_product_0 (i := 6) (by decide +kernel) rfl
theorem dX3_product_7 : decode cX3_product 7 = .ok (.iload_n 2, 1) := zrD zrw_cX3_product_0 (i := 7) (by decide +kernel) rfl
theorem dX3_product_8 : decode cX3_product 8 = .ok (.sipush 400, 3) := zrD zrw_cX3_product_0 (i := 8) (by decide +kernel) rfl
theorem dX3_product_11 : decode cX3_product 11 = .ok (.if_icmp .gt 57, 3) := zrD zrw_cX3_product_0 (i := 11) (by decide +kernel) rfl
theorem dX3_product_14 : decode cX3_product 14 = .ok (.aload_n 0, 1) := zrD zrw_cX3_product_0 (i := 14) (by decide +kernel) rfl
theorem dX3_product_15 : decode cX3_product 15 = .ok (.getfield 26, 3) := zrD zrw_cX3_product_0 (i := 15) (by decide +kernel) rfl
theorem dX3_product_18 : decode cX3_product 18 = .ok (.bipush 28, 2) := zrD zrw_cX3_product_0 (i := 18) (by decide +kernel) rfl
theorem dX3_product_20 : decode cX3_product 20 = .ok (.bipush 29, 2) := zrD zrw_cX3_product_0 (i := 20) (by decide +kernel) rfl
theorem dX3_product_22 : decode cX3_product 22 = .ok (.invokestatic 80, 3) := zrD zrw_cX3_product_0 (i := 22) (by decide +kernel) rfl
theorem dX3_product_25 : decode cX3_product 25 = .ok (.ifCond .eq 43, 3) := zrD zrw_cX3_product_0 (i := 25) (by decide +kernel) rfl
theorem dX3_product_28 : decode cX3_product 28 = .ok (.aload_n 0, 1) := zrD zrw_cX3_product_0 (i := 28) (by decide +kernel) rfl
theorem dX3_product_29 : decode cX3_product 29 = .ok (.getfield 26, 3) := zrD zrw_cX3_product_0 (i := 29) (by decide +kernel) rfl
def zrk_cX3_product_32 : ByteArray := .mk #[62, 42, 29, 182, 0, 87, 42, 27, 182, 0, 159, 42, 180, 0, 18, 29, 16, 28, 160, 0, 7, 7, 167, 0, 4, 8, 3, 182, 0, 145]
theorem zrw_cX3_product_32 : zrW 32 cX3_product zrk_cX3_product_32 := by unfold zrW; decide +kernel
theorem dX3_product_32 : decode cX3_product 32 = .ok (.istore_n 3, 1) := zrD zrw_cX3_product_32 (i := 0) (by decide +kernel) rfl
theorem dX3_product_33 : decode cX3_product 33 = .ok (.aload_n 0, 1) := zrD zrw_cX3_product_32 (i := 1) (by decide +kernel) rfl
theorem dX3_product_34 : decode cX3_product 34 = .ok (.iload_n 3, 1) := zrD zrw_cX3_product_32 (i := 2) (by decide +kernel) rfl
theorem dX3_product_35 : decode cX3_product 35 = .ok (.invokevirtual 87, 3) := zrD zrw_cX3_product_32 (i := 3) (by decide +kernel) rfl
theorem dX3_product_38 : decode cX3_product 38 = .ok (.aload_n 0, 1) := zrD zrw_cX3_product_32 (i := 6) (by decide +kernel) rfl
theorem dX3_product_39 : decode cX3_product 39 = .ok (.iload_n 1, 1) := zrD zrw_cX3_product_32 (i := 7) (by decide +kernel) rfl
theorem dX3_product_40 : decode cX3_product 40 = .ok (.invokevirtual 159, 3) := zrD zrw_cX3_product_32 (i := 8) (by decide +kernel) rfl
theorem dX3_product_43 : decode cX3_product 43 = .ok (.aload_n 0, 1) := zrD zrw_cX3_product_32 (i := 11) (by decide +kernel) rfl
theorem dX3_product_44 : decode cX3_product 44 = .ok (.getfield 18, 3) := zrD zrw_cX3_product_32 (i := 12) (by decide +kernel) rfl
theorem dX3_product_47 : decode cX3_product 47 = .ok (.iload_n 3, 1) := zrD zrw_cX3_product_32 (i := 15) (by decide +kernel) rfl
theorem dX3_product_48 : decode cX3_product 48 = .ok (.bipush 28, 2) := zrD zrw_cX3_product_32 (i := 16) (by decide +kernel) rfl
theorem dX3_product_50 : decode cX3_product 50 = .ok (.if_icmp .ne 7, 3) := zrD zrw_cX3_product_32 (i := 18) (by decide +kernel) rfl
theorem dX3_product_53 : decode cX3_product 53 = .ok (.iconst 4, 1) := zrD zrw_cX3_product_32 (i := 21) (by decide +kernel) rfl
theorem dX3_product_54 : decode cX3_product 54 = .ok (.goto 4, 3) := zrD zrw_cX3_product_32 (i := 22) (by decide +kernel) rfl
theorem dX3_product_57 : decode cX3_product 57 = .ok (.iconst 5, 1) := zrD zrw_cX3_product_32 (i := 25) (by decide +kernel) rfl
theorem dX3_product_58 : decode cX3_product 58 = .ok (.iconst 0, 1) := zrD zrw_cX3_product_32 (i := 26) (by decide +kernel) rfl
theorem dX3_product_59 : decode cX3_product 59 = .ok (.invokevirtual 145, 3) := zrD zrw_cX3_product_32 (i := 27) (by decide +kernel) rfl
def zrk_cX3_product_62 : ByteArray := .mk #[132, 2, 1, 167, 255, 198, 177]
theorem zrw_cX3_product_62 : zrW 62 cX3_product zrk_cX3_product_62 := by unfold zrW; decide +kernel
theorem dX3_product_62 : decode cX3_product 62 = .ok (.iinc 2 1, 3) := zrD zrw_cX3_product_62 (i := 0) (by decide +kernel) rfl
theorem dX3_product_65 : decode cX3_product 65 = .ok (.goto (-58), 3) := zrD zrw_cX3_product_62 (i := 3) (by decide +kernel) rfl
theorem dX3_product_68 : decode cX3_product 68 = .ok (.return_, 1) := zrD zrw_cX3_product_62 (i := 6) (by decide +kernel) rfl
def zrk_cX3_unit_0 : ByteArray := .mk #[42, 180, 0, 26, 16, 23, 160, 0, 27, 42, 180, 0, 18, 3, 42, 180, 0, 29, 136, 182, 0, 145, 42, 42, 180, 0, 26, 182, 0, 87]
theorem zrw_cX3_unit_0 : zrW 0 cX3_unit zrk_cX3_unit_0 := by unfold zrW; decide +kernel
theorem dX3_unit_0 : decode cX3_unit 0 = .ok (.aload_n 0, 1) := zrD zrw_cX3_unit_0 (i := 0) (by decide +kernel) rfl
theorem dX3_unit_1 : decode cX3_unit 1 = .ok (.getfield 26, 3) := zrD zrw_cX3_unit_0 (i := 1) (by decide +kernel) rfl
theorem dX3_unit_4 : decode cX3_unit 4 = .ok (.bipush 23, 2) := zrD zrw_cX3_unit_0 (i := 4) (by decide +kernel) rfl
theorem dX3_unit_6 : decode cX3_unit 6 = .ok (.if_icmp .ne 27, 3) := zrD zrw_cX3_unit_0 (i := 6) (by decide +kernel) rfl
theorem dX3_unit_9 : decode cX3_unit 9 = .ok (.aload_n 0, 1) := zrD zrw_cX3_unit_0 (i := 9) (by decide +kernel) rfl
theorem dX3_unit_10 : decode cX3_unit 10 = .ok (.getfield 18, 3) := zrD zrw_cX3_unit_0 (i := 10) (by decide +kernel) rfl
theorem dX3_unit_13 : decode cX3_unit 13 = .ok (.iconst 0, 1) := zrD zrw_cX3_unit_0 (i := 13) (by decide +kernel) rfl
theorem dX3_unit_14 : decode cX3_unit 14 = .ok (.aload_n 0, 1) := zrD zrw_cX3_unit_0 (i := 14) (by decide +kernel) rfl
theorem dX3_unit_15 : decode cX3_unit 15 = .ok (.getfield 29, 3) := zrD zrw_cX3_unit_0 (i := 15) (by decide +kernel) rfl
theorem dX3_unit_18 : decode cX3_unit 18 = .ok (.l2i, 1) := zrD zrw_cX3_unit_0 (i := 18) (by decide +kernel) rfl
theorem dX3_unit_19 : decode cX3_unit 19 = .ok (.invokevirtual 145, 3) := zrD zrw_cX3_unit_0 (i := 19) (by decide +kernel) rfl
theorem dX3_unit_22 : decode cX3_unit 22 = .ok (.aload_n 0, 1) := zrD zrw_cX3_unit_0 (i := 22) (by decide +kernel) rfl
theorem dX3_unit_23 : decode cX3_unit 23 = .ok (.aload_n 0, 1) := zrD zrw_cX3_unit_0 (i := 23) (by decide +kernel) rfl
theorem dX3_unit_24 : decode cX3_unit 24 = .ok (.getfield 26, 3) := zrD zrw_cX3_unit_0 (i := 24) (by decide +kernel) rfl
theorem dX3_unit_27 : decode cX3_unit 27 = .ok (.invokevirtual 87, 3) := zrD zrw_cX3_unit_0 (i := 27) (by decide +kernel) rfl
def zrk_cX3_unit_30 : ByteArray := .mk #[167, 0, 104, 42, 180, 0, 26, 16, 13, 161, 0, 38, 42, 180, 0, 26, 16, 22, 162, 0, 29, 42, 180, 0, 18, 4, 42, 180, 0, 26, 16, 13]
theorem zrw_cX3_unit_30 : zrW 30 cX3_unit zrk_cX3_unit_30 := by unfold zrW; decide +kernel
theorem dX3_unit_30 : decode cX3_unit 30 = .ok (.goto 104, 3) := zrD zrw_cX3_unit_30 (i := 0) (by decide +kernel) rfl
theorem dX3_unit_33 : decode cX3_unit 33 = .ok (.aload_n 0, 1) := zrD zrw_cX3_unit_30 (i := 3) (by decide +kernel) rfl
theorem dX3_unit_34 : decode cX3_unit 34 = .ok (.getfield 26, 3) := zrD zrw_cX3_unit_30 (i := 4) (by decide +kernel) rfl
theorem dX3_unit_37 : decode cX3_unit 37 = .ok (.bipush 13, 2) := zrD zrw_cX3_unit_30 (i := 7) (by decide +kernel) rfl
theorem dX3_unit_39 : decode cX3_unit 39 = .ok (.if_icmp .lt 38, 3) := zrD zrw_cX3_unit_30 (i := 9) (by decide +kernel) rfl
theorem dX3_unit_42 : decode cX3_unit 42 = .ok (.aload_n 0, 1) := zrD zrw_cX3_unit_30 (i := 12) (by decide +kernel) rfl
theorem dX3_unit_43 : decode cX3_unit 43 = .ok (.getfield 26, 3) := zrD zrw_cX3_unit_30 (i := 13) (by decide +kernel) rfl
theorem dX3_unit_46 : decode cX3_unit 46 = .ok (.bipush 22, 2) := zrD zrw_cX3_unit_30 (i := 16) (by decide +kernel) rfl
theorem dX3_unit_48 : decode cX3_unit 48 = .ok (.if_icmp .ge 29, 3) := zrD zrw_cX3_unit_30 (i := 18) (by decide +kernel) rfl
theorem dX3_unit_51 : decode cX3_unit 51 = .ok (.aload_n 0, 1) := zrD zrw_cX3_unit_30 (i := 21) (by decide +kernel) rfl
theorem dX3_unit_52 : decode cX3_unit 52 = .ok (.getfield 18, 3) := zrD zrw_cX3_unit_30 (i := 22) (by decide +kernel) rfl
theorem dX3_unit_55 : decode cX3_unit 55 = .ok (.iconst 1, 1) := zrD zrw_cX3_unit_30 (i := 25) (by decide +kernel) rfl
theorem dX3_unit_56 : decode cX3_unit 56 = .ok (.aload_n 0, 1) := zrD zrw_cX3_unit_30 (i := 26) (by decide +kernel) rfl
theorem dX3_unit_57 : decode cX3_unit 57 = .ok (.getfield 26, 3) := zrD zrw_cX3_unit_30 (i := 27) (by decide +kernel) rfl
theorem dX3_unit_60 : decode cX3_unit 60 = .ok (.bipush 13, 2) := zrD zrw_cX3_unit_30 (i := 30) (by decide +kernel) rfl
def zrk_cX3_unit_62 : ByteArray := .mk #[100, 182, 0, 145, 42, 42, 180, 0, 26, 182, 0, 87, 167, 0, 60, 42, 180, 0, 26, 16, 31, 160, 0, 33, 27, 16, 6, 162, 0, 27, 42, 42]
theorem zrw_cX3_unit_62 : zrW 62 cX3_unit zrk_cX3_unit_62 := by unfold zrW; decide +kernel
theorem dX3_unit_62 : decode cX3_unit 62 = .ok (.isub, 1) := zrD zrw_cX3_unit_62 (i := 0) (by decide +kernel) rfl
theorem dX3_unit_63 : decode cX3_unit 63 = .ok (.invokevirtual 145, 3) := zrD zrw_cX3_unit_62 (i := 1) (by decide +kernel) rfl
theorem dX3_unit_66 : decode cX3_unit 66 = .ok (.aload_n 0, 1) := zrD zrw_cX3_unit_62 (i := 4) (by decide +kernel) rfl
theorem dX3_unit_67 : decode cX3_unit 67 = .ok (.aload_n 0, 1) := zrD zrw_cX3_unit_62 (i := 5) (by decide +kernel) rfl
theorem dX3_unit_68 : decode cX3_unit 68 = .ok (.getfield 26, 3) := zrD zrw_cX3_unit_62 (i := 6) (by decide +kernel) rfl
theorem dX3_unit_71 : decode cX3_unit 71 = .ok (.invokevirtual 87, 3) := zrD zrw_cX3_unit_62 (i := 9) (by decide +kernel) rfl
theorem dX3_unit_74 : decode cX3_unit 74 = .ok (.goto 60, 3) := zrD zrw_cX3_unit_62 (i := 12) (by decide +kernel) rfl
theorem dX3_unit_77 : decode cX3_unit 77 = .ok (.aload_n 0, 1) := zrD zrw_cX3_unit_62 (i := 15) (by decide +kernel) rfl
theorem dX3_unit_78 : decode cX3_unit 78 = .ok (.getfield 26, 3) := zrD zrw_cX3_unit_62 (i := 16) (by decide +kernel) rfl
theorem dX3_unit_81 : decode cX3_unit 81 = .ok (.bipush 31, 2) := zrD zrw_cX3_unit_62 (i := 19) (by decide +kernel) rfl
theorem dX3_unit_83 : decode cX3_unit 83 = .ok (.if_icmp .ne 33, 3) := zrD zrw_cX3_unit_62 (i := 21) (by decide +kernel) rfl
theorem dX3_unit_86 : decode cX3_unit 86 = .ok (.iload_n 1, 1) := zrD zrw_cX3_unit_62 (i := 24) (by decide +kernel) rfl
theorem dX3_unit_87 : decode cX3_unit 87 = .ok (.bipush 6, 2) := zrD zrw_cX3_unit_62 (i := 25) (by decide +kernel) rfl
theorem dX3_unit_89 : decode cX3_unit 89 = .ok (.if_icmp .ge 27, 3) := zrD zrw_cX3_unit_62 (i := 27) (by decide +kernel) rfl
theorem dX3_unit_92 : decode cX3_unit 92 = .ok (.aload_n 0, 1) := zrD zrw_cX3_unit_62 (i := 30) (by decide +kernel) rfl
theorem dX3_unit_93 : decode cX3_unit 93 = .ok (.aload_n 0, 1) := zrD zrw_cX3_unit_62 (i := 31) (by decide +kernel) rfl
def zrk_cX3_unit_94 : ByteArray := .mk #[180, 0, 26, 182, 0, 87, 42, 27, 4, 96, 182, 0, 140, 42, 16, 32, 182, 0, 87, 167, 0, 21, 42, 42, 180, 0, 26, 16, 31, 160, 0, 7]
theorem zrw_cX3_unit_94 : zrW 94 cX3_unit zrk_cX3_unit_94 := by unfold zrW; decide +kernel
theorem dX3_unit_94 : decode cX3_unit 94 = .ok (.getfield 26, 3) := zrD zrw_cX3_unit_94 (i := 0) (by decide +kernel) rfl
theorem dX3_unit_97 : decode cX3_unit 97 = .ok (.invokevirtual 87, 3) := zrD zrw_cX3_unit_94 (i := 3) (by decide +kernel) rfl
theorem dX3_unit_100 : decode cX3_unit 100 = .ok (.aload_n 0, 1) := zrD zrw_cX3_unit_94 (i := 6) (by decide +kernel) rfl
theorem dX3_unit_101 : decode cX3_unit 101 = .ok (.iload_n 1, 1) := zrD zrw_cX3_unit_94 (i := 7) (by decide +kernel) rfl
theorem dX3_unit_102 : decode cX3_unit 102 = .ok (.iconst 1, 1) := zrD zrw_cX3_unit_94 (i := 8) (by decide +kernel) rfl
theorem dX3_unit_103 : decode cX3_unit 103 = .ok (.iadd, 1) := zrD zrw_cX3_unit_94 (i := 9) (by decide +kernel) rfl
theorem dX3_unit_104 : decode cX3_unit 104 = .ok (.invokevirtual 140, 3) := zrD zrw_cX3_unit_94 (i := 10) (by decide +kernel) rfl
theorem dX3_unit_107 : decode cX3_unit 107 = .ok (.aload_n 0, 1) := zrD zrw_cX3_unit_94 (i := 13) (by decide +kernel) rfl
theorem dX3_unit_108 : decode cX3_unit 108 = .ok (.bipush 32, 2) := zrD zrw_cX3_unit_94 (i := 14) (by decide +kernel) rfl
theorem dX3_unit_110 : decode cX3_unit 110 = .ok (.invokevirtual 87, 3) := zrD zrw_cX3_unit_94 (i := 16) (by decide +kernel) rfl
theorem dX3_unit_113 : decode cX3_unit 113 = .ok (.goto 21, 3) := zrD zrw_cX3_unit_94 (i := 19) (by decide +kernel) rfl
theorem dX3_unit_116 : decode cX3_unit 116 = .ok (.aload_n 0, 1) := zrD zrw_cX3_unit_94 (i := 22) (by decide +kernel) rfl
theorem dX3_unit_117 : decode cX3_unit 117 = .ok (.aload_n 0, 1) := zrD zrw_cX3_unit_94 (i := 23) (by decide +kernel) rfl
theorem dX3_unit_118 : decode cX3_unit 118 = .ok (.getfield 26, 3) := zrD zrw_cX3_unit_94 (i := 24) (by decide +kernel) rfl
theorem dX3_unit_121 : decode cX3_unit 121 = .ok (.bipush 31, 2) := zrD zrw_cX3_unit_94 (i := 27) (by decide +kernel) rfl
theorem dX3_unit_123 : decode cX3_unit 123 = .ok (.if_icmp .ne 7, 3) := zrD zrw_cX3_unit_94 (i := 29) (by decide +kernel) rfl
def zrk_cX3_unit_126 : ByteArray := .mk #[5, 167, 0, 4, 4, 182, 0, 106, 177]
theorem zrw_cX3_unit_126 : zrW 126 cX3_unit zrk_cX3_unit_126 := by unfold zrW; decide +kernel
theorem dX3_unit_126 : decode cX3_unit 126 = .ok (.iconst 2, 1) := zrD zrw_cX3_unit_126 (i := 0) (by decide +kernel) rfl
theorem dX3_unit_127 : decode cX3_unit 127 = .ok (.goto 4, 3) := zrD zrw_cX3_unit_126 (i := 1) (by decide +kernel) rfl
theorem dX3_unit_130 : decode cX3_unit 130 = .ok (.iconst 1, 1) := zrD zrw_cX3_unit_126 (i := 4) (by decide +kernel) rfl
theorem dX3_unit_131 : decode cX3_unit 131 = .ok (.invokevirtual 106, 3) := zrD zrw_cX3_unit_126 (i := 5) (by decide +kernel) rfl
theorem dX3_unit_134 : decode cX3_unit 134 = .ok (.return_, 1) := zrD zrw_cX3_unit_126 (i := 8) (by decide +kernel) rfl
def zrk_cX3_take_0 : ByteArray := .mk #[42, 180, 0, 26, 27, 159, 0, 11, 42, 4, 182, 0, 106, 167, 0, 31, 42, 180, 0, 22, 17, 1, 144, 161, 0, 11, 42, 5, 182, 0, 106]
theorem zrw_cX3_take_0 : zrW 0 cX3_take zrk_cX3_take_0 := by unfold zrW; decide +kernel
theorem dX3_take_0 : decode cX3_take 0 = .ok (.aload_n 0, 1) := zrD zrw_cX3_take_0 (i := 0) (by decide +kernel) rfl
theorem dX3_take_1 : decode cX3_take 1 = .ok (.getfield 26, 3) := zrD zrw_cX3_take_0 (i := 1) (by decide +kernel) rfl
theorem dX3_take_4 : decode cX3_take 4 = .ok (.iload_n 1, 1) := zrD zrw_cX3_take_0 (i := 4) (by decide +kernel) rfl
theorem dX3_take_5 : decode cX3_take 5 = .ok (.if_icmp .eq 11, 3) := zrD zrw_cX3_take_0 (i := 5) (by decide +kernel) rfl
theorem dX3_take_8 : decode cX3_take 8 = .ok (.aload_n 0, 1) := zrD zrw_cX3_take_0 (i := 8) (by decide +kernel) rfl
theorem dX3_take_9 : decode cX3_take 9 = .ok (.iconst 1, 1) := zrD zrw_cX3_take_0 (i := 9) (by decide +kernel) rfl
theorem dX3_take_10 : decode cX3_take 10 = .ok (.invokevirtual 106, 3) := zrD zrw_cX3_take_0 (i := 10) (by decide +kernel) rfl
theorem dX3_take_13 : decode cX3_take 13 = .ok (.goto 31, 3) := zrD zrw_cX3_take_0 (i := 13) (by decide +kernel) rfl
theorem dX3_take_16 : decode cX3_take 16 = .ok (.aload_n 0, 1) := zrD zrw_cX3_take_0 (i := 16) (by decide +kernel) rfl
theorem dX3_take_17 : decode cX3_take 17 = .ok (.getfield 22, 3) := zrD zrw_cX3_take_0 (i := 17) (by decide +kernel) rfl
theorem dX3_take_20 : decode cX3_take 20 = .ok (.sipush 400, 3) := zrD zrw_cX3_take_0 (i := 20) (by decide +kernel) rfl
theorem dX3_take_23 : decode cX3_take 23 = .ok (.if_icmp .lt 11, 3) := zrD zrw_cX3_take_0 (i := 23) (by decide +kernel) rfl
theorem dX3_take_26 : decode cX3_take 26 = .ok (.aload_n 0, 1) := zrD zrw_cX3_take_0 (i := 26) (by decide +kernel) rfl
theorem dX3_take_27 : decode cX3_take 27 = .ok (.iconst 2, 1) := zrD zrw_cX3_take_0 (i := 27) (by decide +kernel) rfl
theorem dX3_take_28 : decode cX3_take 28 = .ok (.invokevirtual 106, 3) := zrD zrw_cX3_take_0 (i := 28) (by decide +kernel) rfl
def zrk_cX3_take_31 : ByteArray := .mk #[167, 0, 13, 42, 42, 180, 0, 22, 4, 96, 182, 0, 64, 177]
theorem zrw_cX3_take_31 : zrW 31 cX3_take zrk_cX3_take_31 := by unfold zrW; decide +kernel
theorem dX3_take_31 : decode cX3_take 31 = .ok (.goto 13, 3) := zrD zrw_cX3_take_31 (i := 0) (by decide +kernel) rfl
theorem dX3_take_34 : decode cX3_take 34 = .ok (.aload_n 0, 1) := zrD zrw_cX3_take_31 (i := 3) (by decide +kernel) rfl
theorem dX3_take_35 : decode cX3_take 35 = .ok (.aload_n 0, 1) := zrD zrw_cX3_take_31 (i := 4) (by decide +kernel) rfl
theorem dX3_take_36 : decode cX3_take 36 = .ok (.getfield 22, 3) := zrD zrw_cX3_take_31 (i := 5) (by decide +kernel) rfl
theorem dX3_take_39 : decode cX3_take 39 = .ok (.iconst 1, 1) := zrD zrw_cX3_take_31 (i := 8) (by decide +kernel) rfl
theorem dX3_take_40 : decode cX3_take 40 = .ok (.iadd, 1) := zrD zrw_cX3_take_31 (i := 9) (by decide +kernel) rfl
theorem dX3_take_41 : decode cX3_take 41 = .ok (.invokevirtual 64, 3) := zrD zrw_cX3_take_31 (i := 10) (by decide +kernel) rfl
theorem dX3_take_44 : decode cX3_take 44 = .ok (.return_, 1) := zrD zrw_cX3_take_31 (i := 13) (by decide +kernel) rfl
def zrk_cX3_goTo_0 : ByteArray := .mk #[27, 155, 0, 18, 27, 42, 180, 0, 12, 180, 0, 162, 162, 0, 7, 4, 167, 0, 4, 3, 61, 42, 27, 181, 0, 22, 42, 28, 153, 0, 15, 42]
theorem zrw_cX3_goTo_0 : zrW 0 cX3_goTo zrk_cX3_goTo_0 := by unfold zrW; decide +kernel
theorem dX3_goTo_0 : decode cX3_goTo 0 = .ok (.iload_n 1, 1) := zrD zrw_cX3_goTo_0 (i := 0) (by decide +kernel) rfl
theorem dX3_goTo_1 : decode cX3_goTo 1 = .ok (.ifCond .lt 18, 3) := zrD zrw_cX3_goTo_0 (i := 1) (by decide +kernel) rfl
theorem dX3_goTo_4 : decode cX3_goTo 4 = .ok (.iload_n 1, 1) := zrD zrw_cX3_goTo_0 (i := 4) (by decide +kernel) rfl
theorem dX3_goTo_5 : decode cX3_goTo 5 = .ok (.aload_n 0, 1) := zrD zrw_cX3_goTo_0 (i := 5) (by decide +kernel) rfl
theorem dX3_goTo_6 : decode cX3_goTo 6 = .ok (.getfield 12, 3) := zrD zrw_cX3_goTo_0 (i := 6) (by decide +kernel) rfl
theorem dX3_goTo_9 : decode cX3_goTo 9 = .ok (.getfield 162, 3) := zrD zrw_cX3_goTo_0 (i := 9) (by decide +kernel) rfl
theorem dX3_goTo_12 : decode cX3_goTo 12 = .ok (.if_icmp .ge 7, 3) := zrD zrw_cX3_goTo_0 (i := 12) (by decide +kernel) rfl
theorem dX3_goTo_15 : decode cX3_goTo 15 = .ok (.iconst 1, 1) := zrD zrw_cX3_goTo_0 (i := 15) (by decide +kernel) rfl
theorem dX3_goTo_16 : decode cX3_goTo 16 = .ok (.goto 4, 3) := zrD zrw_cX3_goTo_0 (i := 16) (by decide +kernel) rfl
theorem dX3_goTo_19 : decode cX3_goTo 19 = .ok (.iconst 0, 1) := zrD zrw_cX3_goTo_0 (i := 19) (by decide +kernel) rfl
theorem dX3_goTo_20 : decode cX3_goTo 20 = .ok (.istore_n 2, 1) := zrD zrw_cX3_goTo_0 (i := 20) (by decide +kernel) rfl
theorem dX3_goTo_21 : decode cX3_goTo 21 = .ok (.aload_n 0, 1) := zrD zrw_cX3_goTo_0 (i := 21) (by decide +kernel) rfl
theorem dX3_goTo_22 : decode cX3_goTo 22 = .ok (.iload_n 1, 1) := zrD zrw_cX3_goTo_0 (i := 22) (by decide +kernel) rfl
theorem dX3_goTo_23 : decode cX3_goTo 23 = .ok (.putfield 22, 3) := zrD zrw_cX3_goTo_0 (i := 23) (by decide +kernel) rfl
theorem dX3_goTo_26 : decode cX3_goTo 26 = .ok (.aload_n 0, 1) := zrD zrw_cX3_goTo_0 (i := 26) (by decide +kernel) rfl
theorem dX3_goTo_27 : decode cX3_goTo 27 = .ok (.iload_n 2, 1) := zrD zrw_cX3_goTo_0 (i := 27) (by decide +kernel) rfl
theorem dX3_goTo_28 : decode cX3_goTo 28 = .ok (.ifCond .eq 15, 3) := zrD zrw_cX3_goTo_0 (i := 28) (by decide +kernel) rfl
theorem dX3_goTo_31 : decode cX3_goTo 31 = .ok (.aload_n 0, 1) := zrD zrw_cX3_goTo_0 (i := 31) (by decide +kernel) rfl
def zrk_cX3_goTo_32 : ByteArray := .mk #[180, 0, 12, 180, 0, 163, 27, 46, 167, 0, 5, 16, 34, 181, 0, 26, 42, 28, 153, 0, 15, 42, 180, 0, 12, 180, 0, 166, 27, 47]
theorem zrw_cX3_goTo_32 : zrW 32 cX3_goTo zrk_cX3_goTo_32 := by unfold zrW; decide +kernel
theorem dX3_goTo_32 : decode cX3_goTo 32 = .ok (.getfield 12, 3) := zrD zrw_cX3_goTo_32 (i := 0) (by decide +kernel) rfl
theorem dX3_goTo_35 : decode cX3_goTo 35 = .ok (.getfield 163, 3) := zrD zrw_cX3_goTo_32 (i := 3) (by decide +kernel) rfl
theorem dX3_goTo_38 : decode cX3_goTo 38 = .ok (.iload_n 1, 1) := zrD zrw_cX3_goTo_32 (i := 6) (by decide +kernel) rfl
theorem dX3_goTo_39 : decode cX3_goTo 39 = .ok (.iaload, 1) := zrD zrw_cX3_goTo_32 (i := 7) (by decide +kernel) rfl
theorem dX3_goTo_40 : decode cX3_goTo 40 = .ok (.goto 5, 3) := zrD zrw_cX3_goTo_32 (i := 8) (by decide +kernel) rfl
theorem dX3_goTo_43 : decode cX3_goTo 43 = .ok (.bipush 34, 2) := zrD zrw_cX3_goTo_32 (i := 11) (by decide +kernel) rfl
theorem dX3_goTo_45 : decode cX3_goTo 45 = .ok (.putfield 26, 3) := zrD zrw_cX3_goTo_32 (i := 13) (by decide +kernel) rfl
theorem dX3_goTo_48 : decode cX3_goTo 48 = .ok (.aload_n 0, 1) := zrD zrw_cX3_goTo_32 (i := 16) (by decide +kernel) rfl
theorem dX3_goTo_49 : decode cX3_goTo 49 = .ok (.iload_n 2, 1) := zrD zrw_cX3_goTo_32 (i := 17) (by decide +kernel) rfl
theorem dX3_goTo_50 : decode cX3_goTo 50 = .ok (.ifCond .eq 15, 3) := zrD zrw_cX3_goTo_32 (i := 18) (by decide +kernel) rfl
theorem dX3_goTo_53 : decode cX3_goTo 53 = .ok (.aload_n 0, 1) := zrD zrw_cX3_goTo_32 (i := 21) (by decide +kernel) rfl
theorem dX3_goTo_54 : decode cX3_goTo 54 = .ok (.getfield 12, 3) := zrD zrw_cX3_goTo_32 (i := 22) (by decide +kernel) rfl
theorem dX3_goTo_57 : decode cX3_goTo 57 = .ok (.getfield 166, 3) := zrD zrw_cX3_goTo_32 (i := 25) (by decide +kernel) rfl
theorem dX3_goTo_60 : decode cX3_goTo 60 = .ok (.iload_n 1, 1) := zrD zrw_cX3_goTo_32 (i := 28) (by decide +kernel) rfl
theorem dX3_goTo_61 : decode cX3_goTo 61 = .ok (.laload, 1) := zrD zrw_cX3_goTo_32 (i := 29) (by decide +kernel) rfl
def zrk_cX3_goTo_62 : ByteArray := .mk #[167, 0, 4, 9, 181, 0, 29, 42, 28, 153, 0, 15, 42, 180, 0, 12, 180, 0, 169, 27, 46, 167, 0, 4, 2, 181, 0, 33, 177]
theorem zrw_cX3_goTo_62 : zrW 62 cX3_goTo zrk_cX3_goTo_62 := by unfold zrW; decide +kernel
theorem dX3_goTo_62 : decode cX3_goTo 62 = .ok (.goto 4, 3) := zrD zrw_cX3_goTo_62 (i := 0) (by decide +kernel) rfl
theorem dX3_goTo_65 : decode cX3_goTo 65 = .ok (.lconst 0, 1) := zrD zrw_cX3_goTo_62 (i := 3) (by decide +kernel) rfl
theorem dX3_goTo_66 : decode cX3_goTo 66 = .ok (.putfield 29, 3) := zrD zrw_cX3_goTo_62 (i := 4) (by decide +kernel) rfl
theorem dX3_goTo_69 : decode cX3_goTo 69 = .ok (.aload_n 0, 1) := zrD zrw_cX3_goTo_62 (i := 7) (by decide +kernel) rfl
theorem dX3_goTo_70 : decode cX3_goTo 70 = .ok (.iload_n 2, 1) := zrD zrw_cX3_goTo_62 (i := 8) (by decide +kernel) rfl
theorem dX3_goTo_71 : decode cX3_goTo 71 = .ok (.ifCond .eq 15, 3) := zrD zrw_cX3_goTo_62 (i := 9) (by decide +kernel) rfl
theorem dX3_goTo_74 : decode cX3_goTo 74 = .ok (.aload_n 0, 1) := zrD zrw_cX3_goTo_62 (i := 12) (by decide +kernel) rfl
theorem dX3_goTo_75 : decode cX3_goTo 75 = .ok (.getfield 12, 3) := zrD zrw_cX3_goTo_62 (i := 13) (by decide +kernel) rfl
theorem dX3_goTo_78 : decode cX3_goTo 78 = .ok (.getfield 169, 3) := zrD zrw_cX3_goTo_62 (i := 16) (by decide +kernel) rfl
theorem dX3_goTo_81 : decode cX3_goTo 81 = .ok (.iload_n 1, 1) := zrD zrw_cX3_goTo_62 (i := 19) (by decide +kernel) rfl
theorem dX3_goTo_82 : decode cX3_goTo 82 = .ok (.iaload, 1) := zrD zrw_cX3_goTo_62 (i := 20) (by decide +kernel) rfl
theorem dX3_goTo_83 : decode cX3_goTo 83 = .ok (.goto 4, 3) := zrD zrw_cX3_goTo_62 (i := 21) (by decide +kernel) rfl
theorem dX3_goTo_86 : decode cX3_goTo 86 = .ok (.iconst (-1), 1) := zrD zrw_cX3_goTo_62 (i := 24) (by decide +kernel) rfl
theorem dX3_goTo_87 : decode cX3_goTo 87 = .ok (.putfield 33, 3) := zrD zrw_cX3_goTo_62 (i := 25) (by decide +kernel) rfl
theorem dX3_goTo_90 : decode cX3_goTo 90 = .ok (.return_, 1) := zrD zrw_cX3_goTo_62 (i := 28) (by decide +kernel) rfl
def zrk_cX3_fail_0 : ByteArray := .mk #[42, 180, 0, 43, 154, 0, 22, 42, 27, 181, 0, 43, 42, 42, 180, 0, 33, 181, 0, 46, 42, 16, 34, 181, 0, 26, 177]
theorem zrw_cX3_fail_0 : zrW 0 cX3_fail zrk_cX3_fail_0 := by unfold zrW; decide +kernel
theorem dX3_fail_0 : decode cX3_fail 0 = .ok (.aload_n 0, 1) := zrD zrw_cX3_fail_0 (i := 0) (by decide +kernel) rfl
theorem dX3_fail_1 : decode cX3_fail 1 = .ok (.getfield 43, 3) := zrD zrw_cX3_fail_0 (i := 1) (by decide +kernel) rfl
theorem dX3_fail_4 : decode cX3_fail 4 = .ok (.ifCond .ne 22, 3) := zrD zrw_cX3_fail_0 (i := 4) (by decide +kernel) rfl
theorem dX3_fail_7 : decode cX3_fail 7 = .ok (.aload_n 0, 1) := zrD zrw_cX3_fail_0 (i := 7) (by decide +kernel) rfl
theorem dX3_fail_8 : decode cX3_fail 8 = .ok (.iload_n 1, 1) := zrD zrw_cX3_fail_0 (i := 8) (by decide +kernel) rfl
theorem dX3_fail_9 : decode cX3_fail 9 = .ok (.putfield 43, 3) := zrD zrw_cX3_fail_0 (i := 9) (by decide +kernel) rfl
theorem dX3_fail_12 : decode cX3_fail 12 = .ok (.aload_n 0, 1) := zrD zrw_cX3_fail_0 (i := 12) (by decide +kernel) rfl
theorem dX3_fail_13 : decode cX3_fail 13 = .ok (.aload_n 0, 1) := zrD zrw_cX3_fail_0 (i := 13) (by decide +kernel) rfl
theorem dX3_fail_14 : decode cX3_fail 14 = .ok (.getfield 33, 3) := zrD zrw_cX3_fail_0 (i := 14) (by decide +kernel) rfl
theorem dX3_fail_17 : decode cX3_fail 17 = .ok (.putfield 46, 3) := zrD zrw_cX3_fail_0 (i := 17) (by decide +kernel) rfl
theorem dX3_fail_20 : decode cX3_fail 20 = .ok (.aload_n 0, 1) := zrD zrw_cX3_fail_0 (i := 20) (by decide +kernel) rfl
theorem dX3_fail_21 : decode cX3_fail 21 = .ok (.bipush 34, 2) := zrD zrw_cX3_fail_0 (i := 21) (by decide +kernel) rfl
theorem dX3_fail_23 : decode cX3_fail 23 = .ok (.putfield 26, 3) := zrD zrw_cX3_fail_0 (i := 23) (by decide +kernel) rfl
theorem dX3_fail_26 : decode cX3_fail 26 = .ok (.return_, 1) := zrD zrw_cX3_fail_0 (i := 26) (by decide +kernel) rfl
def zrk_cX3_failLate_0 : ByteArray := .mk #[42, 180, 0, 49, 154, 0, 16, 42, 27, 181, 0, 49, 42, 42, 180, 0, 33, 181, 0, 52, 177]
theorem zrw_cX3_failLate_0 : zrW 0 cX3_failLate zrk_cX3_failLate_0 := by unfold zrW; decide +kernel
theorem dX3_failLate_0 : decode cX3_failLate 0 = .ok (.aload_n 0, 1) := zrD zrw_cX3_failLate_0 (i := 0) (by decide +kernel) rfl
theorem dX3_failLate_1 : decode cX3_failLate 1 = .ok (.getfield 49, 3) := zrD zrw_cX3_failLate_0 (i := 1) (by decide +kernel) rfl
theorem dX3_failLate_4 : decode cX3_failLate 4 = .ok (.ifCond .ne 16, 3) := zrD zrw_cX3_failLate_0 (i := 4) (by decide +kernel) rfl
theorem dX3_failLate_7 : decode cX3_failLate 7 = .ok (.aload_n 0, 1) := zrD zrw_cX3_failLate_0 (i := 7) (by decide +kernel) rfl
theorem dX3_failLate_8 : decode cX3_failLate 8 = .ok (.iload_n 1, 1) := zrD zrw_cX3_failLate_0 (i := 8) (by decide +kernel) rfl
theorem dX3_failLate_9 : decode cX3_failLate 9 = .ok (.putfield 49, 3) := zrD zrw_cX3_failLate_0 (i := 9) (by decide +kernel) rfl
theorem dX3_failLate_12 : decode cX3_failLate 12 = .ok (.aload_n 0, 1) := zrD zrw_cX3_failLate_0 (i := 12) (by decide +kernel) rfl
theorem dX3_failLate_13 : decode cX3_failLate 13 = .ok (.aload_n 0, 1) := zrD zrw_cX3_failLate_0 (i := 13) (by decide +kernel) rfl
theorem dX3_failLate_14 : decode cX3_failLate 14 = .ok (.getfield 33, 3) := zrD zrw_cX3_failLate_0 (i := 14) (by decide +kernel) rfl
theorem dX3_failLate_17 : decode cX3_failLate 17 = .ok (.putfield 52, 3) := zrD zrw_cX3_failLate_0 (i := 17) (by decide +kernel) rfl
theorem dX3_failLate_20 : decode cX3_failLate 20 = .ok (.return_, 1) := zrD zrw_cX3_failLate_0 (i := 20) (by decide +kernel) rfl
def zrk_cX4_init_0 : ByteArray := .mk #[42, 183, 0, 1, 42, 16, 40, 189, 0, 9, 181, 0, 11, 42, 3, 181, 0, 15, 42, 3, 181, 0, 19, 3, 60, 27, 16, 40, 162, 0, 22, 42]
theorem zrw_cX4_init_0 : zrW 0 cX4_init zrk_cX4_init_0 := by unfold zrW; decide +kernel
theorem dX4_init_0 : decode cX4_init 0 = .ok (.aload_n 0, 1) := zrD zrw_cX4_init_0 (i := 0) (by decide +kernel) rfl
theorem dX4_init_1 : decode cX4_init 1 = .ok (.invokespecial 1, 3) := zrD zrw_cX4_init_0 (i := 1) (by decide +kernel) rfl
theorem dX4_init_4 : decode cX4_init 4 = .ok (.aload_n 0, 1) := zrD zrw_cX4_init_0 (i := 4) (by decide +kernel) rfl
theorem dX4_init_5 : decode cX4_init 5 = .ok (.bipush 40, 2) := zrD zrw_cX4_init_0 (i := 5) (by decide +kernel) rfl
theorem dX4_init_7 : decode cX4_init 7 = .ok (.anewarray 9, 3) := zrD zrw_cX4_init_0 (i := 7) (by decide +kernel) rfl
theorem dX4_init_10 : decode cX4_init 10 = .ok (.putfield 11, 3) := zrD zrw_cX4_init_0 (i := 10) (by decide +kernel) rfl
theorem dX4_init_13 : decode cX4_init 13 = .ok (.aload_n 0, 1) := zrD zrw_cX4_init_0 (i := 13) (by decide +kernel) rfl
theorem dX4_init_14 : decode cX4_init 14 = .ok (.iconst 0, 1) := zrD zrw_cX4_init_0 (i := 14) (by decide +kernel) rfl
theorem dX4_init_15 : decode cX4_init 15 = .ok (.putfield 15, 3) := zrD zrw_cX4_init_0 (i := 15) (by decide +kernel) rfl
theorem dX4_init_18 : decode cX4_init 18 = .ok (.aload_n 0, 1) := zrD zrw_cX4_init_0 (i := 18) (by decide +kernel) rfl
theorem dX4_init_19 : decode cX4_init 19 = .ok (.iconst 0, 1) := zrD zrw_cX4_init_0 (i := 19) (by decide +kernel) rfl
theorem dX4_init_20 : decode cX4_init 20 = .ok (.putfield 19, 3) := zrD zrw_cX4_init_0 (i := 20) (by decide +kernel) rfl
theorem dX4_init_23 : decode cX4_init 23 = .ok (.iconst 0, 1) := zrD zrw_cX4_init_0 (i := 23) (by decide +kernel) rfl
theorem dX4_init_24 : decode cX4_init 24 = .ok (.istore_n 1, 1) := zrD zrw_cX4_init_0 (i := 24) (by decide +kernel) rfl
theorem dX4_init_25 : decode cX4_init 25 = .ok (.iload_n 1, 1) := zrD zrw_cX4_init_0 (i := 25) (by decide +kernel) rfl
theorem dX4_init_26 : decode cX4_init 26 = .ok (.bipush 40, 2) := zrD zrw_cX4_init_0 (i := 26) (by decide +kernel) rfl
theorem dX4_init_28 : decode cX4_init 28 = .ok (.if_icmp .ge 22, 3) := zrD zrw_cX4_init_0 (i := 28) (by decide +kernel) rfl
theorem dX4_init_31 : decode cX4_init 31 = .ok (.aload_n 0, 1) := zrD zrw_cX4_init_0 (i := 31) (by decide +kernel) rfl
def zrk_cX4_init_32 : ByteArray := .mk #[180, 0, 11, 27, 187, 0, 9, 89, 183, 0, 22, 83, 132, 1, 1, 167, 255, 234, 177]
theorem zrw_cX4_init_32 : zrW 32 cX4_init zrk_cX4_init_32 := by unfold zrW; decide +kernel
theorem dX4_init_32 : decode cX4_init 32 = .ok (.getfield 11, 3) := zrD zrw_cX4_init_32 (i := 0) (by decide +kernel) rfl
theorem dX4_init_35 : decode cX4_init 35 = .ok (.iload_n 1, 1) := zrD zrw_cX4_init_32 (i := 3) (by decide +kernel) rfl
theorem dX4_init_36 : decode cX4_init 36 = .ok (.new 9, 3) := zrD zrw_cX4_init_32 (i := 4) (by decide +kernel) rfl
theorem dX4_init_39 : decode cX4_init 39 = .ok (.dup, 1) := zrD zrw_cX4_init_32 (i := 7) (by decide +kernel) rfl
theorem dX4_init_40 : decode cX4_init 40 = .ok (.invokespecial 22, 3) := zrD zrw_cX4_init_32 (i := 8) (by decide +kernel) rfl
theorem dX4_init_43 : decode cX4_init 43 = .ok (.aastore, 1) := zrD zrw_cX4_init_32 (i := 11) (by decide +kernel) rfl
theorem dX4_init_44 : decode cX4_init 44 = .ok (.iinc 1 1, 3) := zrD zrw_cX4_init_32 (i := 12) (by decide +kernel) rfl
theorem dX4_init_47 : decode cX4_init 47 = .ok (.goto (-22), 3) := zrD zrw_cX4_init_32 (i := 15) (by decide +kernel) rfl
theorem dX4_init_50 : decode cX4_init 50 = .ok (.return_, 1) := zrD zrw_cX4_init_32 (i := 18) (by decide +kernel) rfl
def zrk_cX4_push_0 : ByteArray := .mk #[42, 180, 0, 11, 42, 180, 0, 15, 50, 43, 182, 0, 23, 42, 42, 180, 0, 15, 4, 96, 16, 40, 112, 181, 0, 15, 42, 16, 40, 42]
theorem zrw_cX4_push_0 : zrW 0 cX4_push zrk_cX4_push_0 := by unfold zrW; decide +kernel
theorem dX4_push_0 : decode cX4_push 0 = .ok (.aload_n 0, 1) := zrD zrw_cX4_push_0 (i := 0) (by decide +kernel) rfl
theorem dX4_push_1 : decode cX4_push 1 = .ok (.getfield 11, 3) := zrD zrw_cX4_push_0 (i := 1) (by decide +kernel) rfl
theorem dX4_push_4 : decode cX4_push 4 = .ok (.aload_n 0, 1) := zrD zrw_cX4_push_0 (i := 4) (by decide +kernel) rfl
theorem dX4_push_5 : decode cX4_push 5 = .ok (.getfield 15, 3) := zrD zrw_cX4_push_0 (i := 5) (by decide +kernel) rfl
theorem dX4_push_8 : decode cX4_push 8 = .ok (.aaload, 1) := zrD zrw_cX4_push_0 (i := 8) (by decide +kernel) rfl
theorem dX4_push_9 : decode cX4_push 9 = .ok (.aload_n 1, 1) := zrD zrw_cX4_push_0 (i := 9) (by decide +kernel) rfl
theorem dX4_push_10 : decode cX4_push 10 = .ok (.invokevirtual 23, 3) := zrD zrw_cX4_push_0 (i := 10) (by decide +kernel) rfl
theorem dX4_push_13 : decode cX4_push 13 = .ok (.aload_n 0, 1) := zrD zrw_cX4_push_0 (i := 13) (by decide +kernel) rfl
theorem dX4_push_14 : decode cX4_push 14 = .ok (.aload_n 0, 1) := zrD zrw_cX4_push_0 (i := 14) (by decide +kernel) rfl
theorem dX4_push_15 : decode cX4_push 15 = .ok (.getfield 15, 3) := zrD zrw_cX4_push_0 (i := 15) (by decide +kernel) rfl
theorem dX4_push_18 : decode cX4_push 18 = .ok (.iconst 1, 1) := zrD zrw_cX4_push_0 (i := 18) (by decide +kernel) rfl
theorem dX4_push_19 : decode cX4_push 19 = .ok (.iadd, 1) := zrD zrw_cX4_push_0 (i := 19) (by decide +kernel) rfl
theorem dX4_push_20 : decode cX4_push 20 = .ok (.bipush 40, 2) := zrD zrw_cX4_push_0 (i := 20) (by decide +kernel) rfl
theorem dX4_push_22 : decode cX4_push 22 = .ok (.irem, 1) := zrD zrw_cX4_push_0 (i := 22) (by decide +kernel) rfl
theorem dX4_push_23 : decode cX4_push 23 = .ok (.putfield 15, 3) := zrD zrw_cX4_push_0 (i := 23) (by decide +kernel) rfl
theorem dX4_push_26 : decode cX4_push 26 = .ok (.aload_n 0, 1) := zrD zrw_cX4_push_0 (i := 26) (by decide +kernel) rfl
theorem dX4_push_27 : decode cX4_push 27 = .ok (.bipush 40, 2) := zrD zrw_cX4_push_0 (i := 27) (by decide +kernel) rfl
theorem dX4_push_29 : decode cX4_push 29 = .ok (.aload_n 0, 1) := zrD zrw_cX4_push_0 (i := 29) (by decide +kernel) rfl
def zrk_cX4_push_30 : ByteArray := .mk #[180, 0, 19, 4, 96, 184, 0, 27, 181, 0, 19, 177]
theorem zrw_cX4_push_30 : zrW 30 cX4_push zrk_cX4_push_30 := by unfold zrW; decide +kernel
theorem dX4_push_30 : decode cX4_push 30 = .ok (.getfield 19, 3) := zrD zrw_cX4_push_30 (i := 0) (by decide +kernel) rfl
theorem dX4_push_33 : decode cX4_push 33 = .ok (.iconst 1, 1) := zrD zrw_cX4_push_30 (i := 3) (by decide +kernel) rfl
theorem dX4_push_34 : decode cX4_push 34 = .ok (.iadd, 1) := zrD zrw_cX4_push_30 (i := 4) (by decide +kernel) rfl
theorem dX4_push_35 : decode cX4_push 35 = .ok (.invokestatic 27, 3) := zrD zrw_cX4_push_30 (i := 5) (by decide +kernel) rfl
theorem dX4_push_38 : decode cX4_push 38 = .ok (.putfield 19, 3) := zrD zrw_cX4_push_30 (i := 8) (by decide +kernel) rfl
theorem dX4_push_41 : decode cX4_push 41 = .ok (.return_, 1) := zrD zrw_cX4_push_30 (i := 11) (by decide +kernel) rfl
def zrk_cX4_pop_0 : ByteArray := .mk #[42, 180, 0, 19, 154, 0, 5, 3, 172, 42, 42, 180, 0, 15, 16, 40, 96, 4, 100, 16, 40, 112, 181, 0, 15, 42, 89, 180, 0, 19, 4, 100]
theorem zrw_cX4_pop_0 : zrW 0 cX4_pop zrk_cX4_pop_0 := by unfold zrW; decide +kernel
theorem dX4_pop_0 : decode cX4_pop 0 = .ok (.aload_n 0, 1) := zrD zrw_cX4_pop_0 (i := 0) (by decide +kernel) rfl
theorem dX4_pop_1 : decode cX4_pop 1 = .ok (.getfield 19, 3) := zrD zrw_cX4_pop_0 (i := 1) (by decide +kernel) rfl
theorem dX4_pop_4 : decode cX4_pop 4 = .ok (.ifCond .ne 5, 3) := zrD zrw_cX4_pop_0 (i := 4) (by decide +kernel) rfl
theorem dX4_pop_7 : decode cX4_pop 7 = .ok (.iconst 0, 1) := zrD zrw_cX4_pop_0 (i := 7) (by decide +kernel) rfl
theorem dX4_pop_8 : decode cX4_pop 8 = .ok (.ireturn, 1) := zrD zrw_cX4_pop_0 (i := 8) (by decide +kernel) rfl
theorem dX4_pop_9 : decode cX4_pop 9 = .ok (.aload_n 0, 1) := zrD zrw_cX4_pop_0 (i := 9) (by decide +kernel) rfl
theorem dX4_pop_10 : decode cX4_pop 10 = .ok (.aload_n 0, 1) := zrD zrw_cX4_pop_0 (i := 10) (by decide +kernel) rfl
theorem dX4_pop_11 : decode cX4_pop 11 = .ok (.getfield 15, 3) := zrD zrw_cX4_pop_0 (i := 11) (by decide +kernel) rfl
theorem dX4_pop_14 : decode cX4_pop 14 = .ok (.bipush 40, 2) := zrD zrw_cX4_pop_0 (i := 14) (by decide +kernel) rfl
theorem dX4_pop_16 : decode cX4_pop 16 = .ok (.iadd, 1) := zrD zrw_cX4_pop_0 (i := 16) (by decide +kernel) rfl
theorem dX4_pop_17 : decode cX4_pop 17 = .ok (.iconst 1, 1) := zrD zrw_cX4_pop_0 (i := 17) (by decide +kernel) rfl
theorem dX4_pop_18 : decode cX4_pop 18 = .ok (.isub, 1) := zrD zrw_cX4_pop_0 (i := 18) (by decide +kernel) rfl
theorem dX4_pop_19 : decode cX4_pop 19 = .ok (.bipush 40, 2) := zrD zrw_cX4_pop_0 (i := 19) (by decide +kernel) rfl
theorem dX4_pop_21 : decode cX4_pop 21 = .ok (.irem, 1) := zrD zrw_cX4_pop_0 (i := 21) (by decide +kernel) rfl
theorem dX4_pop_22 : decode cX4_pop 22 = .ok (.putfield 15, 3) := zrD zrw_cX4_pop_0 (i := 22) (by decide +kernel) rfl
theorem dX4_pop_25 : decode cX4_pop 25 = .ok (.aload_n 0, 1) := zrD zrw_cX4_pop_0 (i := 25) (by decide +kernel) rfl
theorem dX4_pop_26 : decode cX4_pop 26 = .ok (.dup, 1) := zrD zrw_cX4_pop_0 (i := 26) (by decide +kernel) rfl
theorem dX4_pop_27 : decode cX4_pop 27 = .ok (.getfield 19, 3) := zrD zrw_cX4_pop_0 (i := 27) (by decide +kernel) rfl
theorem dX4_pop_30 : decode cX4_pop 30 = .ok (.iconst 1, 1) := zrD zrw_cX4_pop_0 (i := 30) (by decide +kernel) rfl
theorem dX4_pop_31 : decode cX4_pop 31 = .ok (.isub, 1) := zrD zrw_cX4_pop_0 (i := 31) (by decide +kernel) rfl
def zrk_cX4_pop_32 : ByteArray := .mk #[181, 0, 19, 43, 42, 180, 0, 11, 42, 180, 0, 15, 50, 182, 0, 23, 4, 172]
theorem zrw_cX4_pop_32 : zrW 32 cX4_pop zrk_cX4_pop_32 := by unfold zrW; decide +kernel
theorem dX4_pop_32 : decode cX4_pop 32 = .ok (.putfield 19, 3) := zrD zrw_cX4_pop_32 (i := 0) (by decide +kernel) rfl
theorem dX4_pop_35 : decode cX4_pop 35 = .ok (.aload_n 1, 1) := zrD zrw_cX4_pop_32 (i := 3) (by decide +kernel) rfl
theorem dX4_pop_36 : decode cX4_pop 36 = .ok (.aload_n 0, 1) := zrD zrw_cX4_pop_32 (i := 4) (by decide +kernel) rfl
theorem dX4_pop_37 : decode cX4_pop 37 = .ok (.getfield 11, 3) := zrD zrw_cX4_pop_32 (i := 5) (by decide +kernel) rfl
theorem dX4_pop_40 : decode cX4_pop 40 = .ok (.aload_n 0, 1) := zrD zrw_cX4_pop_32 (i := 8) (by decide +kernel) rfl
theorem dX4_pop_41 : decode cX4_pop 41 = .ok (.getfield 15, 3) := zrD zrw_cX4_pop_32 (i := 9) (by decide +kernel) rfl
theorem dX4_pop_44 : decode cX4_pop 44 = .ok (.aaload, 1) := zrD zrw_cX4_pop_32 (i := 12) (by decide +kernel) rfl
theorem dX4_pop_45 : decode cX4_pop 45 = .ok (.invokevirtual 23, 3) := zrD zrw_cX4_pop_32 (i := 13) (by decide +kernel) rfl
theorem dX4_pop_48 : decode cX4_pop 48 = .ok (.iconst 1, 1) := zrD zrw_cX4_pop_32 (i := 16) (by decide +kernel) rfl
theorem dX4_pop_49 : decode cX4_pop 49 = .ok (.ireturn, 1) := zrD zrw_cX4_pop_32 (i := 17) (by decide +kernel) rfl
def zrk_cX5_init_0 : ByteArray := .mk #[42, 183, 0, 3, 42, 187, 0, 9, 89, 183, 0, 11, 181, 0, 12, 42, 187, 0, 18, 89, 183, 0, 20, 181, 0, 21, 42, 16, 12]
theorem zrw_cX5_init_0 : zrW 0 cX5_init zrk_cX5_init_0 := by unfold zrW; decide +kernel
theorem dX5_init_0 : decode cX5_init 0 = .ok (.aload_n 0, 1) := zrD zrw_cX5_init_0 (i := 0) (by decide +kernel) rfl
theorem dX5_init_1 : decode cX5_init 1 = .ok (.invokespecial 3, 3) := zrD zrw_cX5_init_0 (i := 1) (by decide +kernel) rfl
theorem dX5_init_4 : decode cX5_init 4 = .ok (.aload_n 0, 1) := zrD zrw_cX5_init_0 (i := 4) (by decide +kernel) rfl
theorem dX5_init_5 : decode cX5_init 5 = .ok (.new 9, 3) := zrD zrw_cX5_init_0 (i := 5) (by decide +kernel) rfl
theorem dX5_init_8 : decode cX5_init 8 = .ok (.dup, 1) := zrD zrw_cX5_init_0 (i := 8) (by decide +kernel) rfl
theorem dX5_init_9 : decode cX5_init 9 = .ok (.invokespecial 11, 3) := zrD zrw_cX5_init_0 (i := 9) (by decide +kernel) rfl
theorem dX5_init_12 : decode cX5_init 12 = .ok (.putfield 12, 3) := zrD zrw_cX5_init_0 (i := 12) (by decide +kernel) rfl
theorem dX5_init_15 : decode cX5_init 15 = .ok (.aload_n 0, 1) := zrD zrw_cX5_init_0 (i := 15) (by decide +kernel) rfl
theorem dX5_init_16 : decode cX5_init 16 = .ok (.new 18, 3) := zrD zrw_cX5_init_0 (i := 16) (by decide +kernel) rfl
theorem dX5_init_19 : decode cX5_init 19 = .ok (.dup, 1) := zrD zrw_cX5_init_0 (i := 19) (by decide +kernel) rfl
theorem dX5_init_20 : decode cX5_init 20 = .ok (.invokespecial 20, 3) := zrD zrw_cX5_init_0 (i := 20) (by decide +kernel) rfl
theorem dX5_init_23 : decode cX5_init 23 = .ok (.putfield 21, 3) := zrD zrw_cX5_init_0 (i := 23) (by decide +kernel) rfl
theorem dX5_init_26 : decode cX5_init 26 = .ok (.aload_n 0, 1) := zrD zrw_cX5_init_0 (i := 26) (by decide +kernel) rfl
theorem dX5_init_27 : decode cX5_init 27 = .ok (.bipush 12, 2) := zrD zrw_cX5_init_0 (i := 27) (by decide +kernel) rfl
theorem dX5_init_29 : decode cX5_init 29 = .ok (.newarray .int, 2) := by decide +kernel
def zrk_cX5_init_31 : ByteArray := .mk #[181, 0, 25, 42, 16, 12]
theorem zrw_cX5_init_31 : zrW 31 cX5_init zrk_cX5_init_31 := by unfold zrW; decide +kernel
theorem dX5_init_31 : decode cX5_init 31 = .ok (.putfield 25, 3) := zrD zrw_cX5_init_31 (i := 0) (by decide +kernel) rfl
theorem dX5_init_34 : decode cX5_init 34 = .ok (.aload_n 0, 1) := zrD zrw_cX5_init_31 (i := 3) (by decide +kernel) rfl
theorem dX5_init_35 : decode cX5_init 35 = .ok (.bipush 12, 2) := zrD zrw_cX5_init_31 (i := 4) (by decide +kernel) rfl
theorem dX5_init_37 : decode cX5_init 37 = .ok (.newarray .int, 2) := by decide +kernel
def zrk_cX5_init_39 : ByteArray := .mk #[181, 0, 29, 42, 16, 12]
theorem zrw_cX5_init_39 : zrW 39 cX5_init zrk_cX5_init_39 := by unfold zrW; decide +kernel
theorem dX5_init_39 : decode cX5_init 39 = .ok (.putfield 29, 3) := zrD zrw_cX5_init_39 (i := 0) (by decide +kernel) rfl
theorem dX5_init_42 : decode cX5_init 42 = .ok (.aload_n 0, 1) := zrD zrw_cX5_init_39 (i := 3) (by decide +kernel) rfl
theorem dX5_init_43 : decode cX5_init 43 = .ok (.bipush 12, 2) := zrD zrw_cX5_init_39 (i := 4) (by decide +kernel) rfl
theorem dX5_init_45 : decode cX5_init 45 = .ok (.newarray .int, 2) := by decide +kernel
def zrk_cX5_init_47 : ByteArray := .mk #[181, 0, 32, 42, 1, 181, 0, 35, 42, 1, 181, 0, 39, 177]
theorem zrw_cX5_init_47 : zrW 47 cX5_init zrk_cX5_init_47 := by unfold zrW; decide +kernel
theorem dX5_init_47 : decode cX5_init 47 = .ok (.putfield 32, 3) := zrD zrw_cX5_init_47 (i := 0) (by decide +kernel) rfl
theorem dX5_init_50 : decode cX5_init 50 = .ok (.aload_n 0, 1) := zrD zrw_cX5_init_47 (i := 3) (by decide +kernel) rfl
theorem dX5_init_51 : decode cX5_init 51 = .ok (.aconst_null, 1) := zrD zrw_cX5_init_47 (i := 4) (by decide +kernel) rfl
theorem dX5_init_52 : decode cX5_init 52 = .ok (.putfield 35, 3) := zrD zrw_cX5_init_47 (i := 5) (by decide +kernel) rfl
theorem dX5_init_55 : decode cX5_init 55 = .ok (.aload_n 0, 1) := zrD zrw_cX5_init_47 (i := 8) (by decide +kernel) rfl
theorem dX5_init_56 : decode cX5_init 56 = .ok (.aconst_null, 1) := zrD zrw_cX5_init_47 (i := 9) (by decide +kernel) rfl
theorem dX5_init_57 : decode cX5_init 57 = .ok (.putfield 39, 3) := zrD zrw_cX5_init_47 (i := 10) (by decide +kernel) rfl
theorem dX5_init_60 : decode cX5_init 60 = .ok (.return_, 1) := zrD zrw_cX5_init_47 (i := 13) (by decide +kernel) rfl
def zrk_cX5_look_0 : ByteArray := .mk #[42, 43, 44, 182, 0, 43, 42, 3, 182, 0, 47, 177]
theorem zrw_cX5_look_0 : zrW 0 cX5_look zrk_cX5_look_0 := by unfold zrW; decide +kernel
theorem dX5_look_0 : decode cX5_look 0 = .ok (.aload_n 0, 1) := zrD zrw_cX5_look_0 (i := 0) (by decide +kernel) rfl
theorem dX5_look_1 : decode cX5_look 1 = .ok (.aload_n 1, 1) := zrD zrw_cX5_look_0 (i := 1) (by decide +kernel) rfl
theorem dX5_look_2 : decode cX5_look 2 = .ok (.aload_n 2, 1) := zrD zrw_cX5_look_0 (i := 2) (by decide +kernel) rfl
theorem dX5_look_3 : decode cX5_look 3 = .ok (.invokevirtual 43, 3) := zrD zrw_cX5_look_0 (i := 3) (by decide +kernel) rfl
theorem dX5_look_6 : decode cX5_look 6 = .ok (.aload_n 0, 1) := zrD zrw_cX5_look_0 (i := 6) (by decide +kernel) rfl
theorem dX5_look_7 : decode cX5_look 7 = .ok (.iconst 0, 1) := zrD zrw_cX5_look_0 (i := 7) (by decide +kernel) rfl
theorem dX5_look_8 : decode cX5_look 8 = .ok (.invokevirtual 47, 3) := zrD zrw_cX5_look_0 (i := 8) (by decide +kernel) rfl
theorem dX5_look_11 : decode cX5_look 11 = .ok (.return_, 1) := zrD zrw_cX5_look_0 (i := 11) (by decide +kernel) rfl
def zrk_cX5_form_0 : ByteArray := .mk #[42, 43, 181, 0, 35, 42, 44, 181, 0, 39, 42, 180, 0, 12, 43, 44, 182, 0, 51, 177]
theorem zrw_cX5_form_0 : zrW 0 cX5_form zrk_cX5_form_0 := by unfold zrW; decide +kernel
theorem dX5_form_0 : decode cX5_form 0 = .ok (.aload_n 0, 1) := zrD zrw_cX5_form_0 (i := 0) (by decide +kernel) rfl
theorem dX5_form_1 : decode cX5_form 1 = .ok (.aload_n 1, 1) := zrD zrw_cX5_form_0 (i := 1) (by decide +kernel) rfl
theorem dX5_form_2 : decode cX5_form 2 = .ok (.putfield 35, 3) := zrD zrw_cX5_form_0 (i := 2) (by decide +kernel) rfl
theorem dX5_form_5 : decode cX5_form 5 = .ok (.aload_n 0, 1) := zrD zrw_cX5_form_0 (i := 5) (by decide +kernel) rfl
theorem dX5_form_6 : decode cX5_form 6 = .ok (.aload_n 2, 1) := zrD zrw_cX5_form_0 (i := 6) (by decide +kernel) rfl
theorem dX5_form_7 : decode cX5_form 7 = .ok (.putfield 39, 3) := zrD zrw_cX5_form_0 (i := 7) (by decide +kernel) rfl
theorem dX5_form_10 : decode cX5_form 10 = .ok (.aload_n 0, 1) := zrD zrw_cX5_form_0 (i := 10) (by decide +kernel) rfl
theorem dX5_form_11 : decode cX5_form 11 = .ok (.getfield 12, 3) := zrD zrw_cX5_form_0 (i := 11) (by decide +kernel) rfl
theorem dX5_form_14 : decode cX5_form 14 = .ok (.aload_n 1, 1) := zrD zrw_cX5_form_0 (i := 14) (by decide +kernel) rfl
theorem dX5_form_15 : decode cX5_form 15 = .ok (.aload_n 2, 1) := zrD zrw_cX5_form_0 (i := 15) (by decide +kernel) rfl
theorem dX5_form_16 : decode cX5_form 16 = .ok (.invokevirtual 51, 3) := zrD zrw_cX5_form_0 (i := 16) (by decide +kernel) rfl
theorem dX5_form_19 : decode cX5_form 19 = .ok (.return_, 1) := zrD zrw_cX5_form_0 (i := 19) (by decide +kernel) rfl
def zrk_cX5_fall_0 : ByteArray := .mk #[42, 27, 182, 0, 52, 42, 42, 180, 0, 39, 180, 0, 55, 182, 0, 61, 177]
theorem zrw_cX5_fall_0 : zrW 0 cX5_fall zrk_cX5_fall_0 := by unfold zrW; decide +kernel
theorem dX5_fall_0 : decode cX5_fall 0 = .ok (.aload_n 0, 1) := zrD zrw_cX5_fall_0 (i := 0) (by decide +kernel) rfl
theorem dX5_fall_1 : decode cX5_fall 1 = .ok (.iload_n 1, 1) := zrD zrw_cX5_fall_0 (i := 1) (by decide +kernel) rfl
theorem dX5_fall_2 : decode cX5_fall 2 = .ok (.invokevirtual 52, 3) := zrD zrw_cX5_fall_0 (i := 2) (by decide +kernel) rfl
theorem dX5_fall_5 : decode cX5_fall 5 = .ok (.aload_n 0, 1) := zrD zrw_cX5_fall_0 (i := 5) (by decide +kernel) rfl
theorem dX5_fall_6 : decode cX5_fall 6 = .ok (.aload_n 0, 1) := zrD zrw_cX5_fall_0 (i := 6) (by decide +kernel) rfl
theorem dX5_fall_7 : decode cX5_fall 7 = .ok (.getfield 39, 3) := zrD zrw_cX5_fall_0 (i := 7) (by decide +kernel) rfl
theorem dX5_fall_10 : decode cX5_fall 10 = .ok (.getfield 55, 3) := zrD zrw_cX5_fall_0 (i := 10) (by decide +kernel) rfl
theorem dX5_fall_13 : decode cX5_fall 13 = .ok (.invokevirtual 61, 3) := zrD zrw_cX5_fall_0 (i := 13) (by decide +kernel) rfl
theorem dX5_fall_16 : decode cX5_fall 16 = .ok (.return_, 1) := zrD zrw_cX5_fall_0 (i := 16) (by decide +kernel) rfl
def zrk_cX5_rainDown_0 : ByteArray := .mk #[3, 61, 28, 42, 180, 0, 12, 180, 0, 64, 162, 0, 31, 42, 180, 0, 25, 28, 42, 3, 28, 3, 182, 0, 69, 3, 17, 3, 231, 184, 0, 73]
theorem zrw_cX5_rainDown_0 : zrW 0 cX5_rainDown zrk_cX5_rainDown_0 := by unfold zrW; decide +kernel
theorem dX5_rainDown_0 : decode cX5_rainDown 0 = .ok (.iconst 0, 1) := zrD zrw_cX5_rainDown_0 (i := 0) (by decide +kernel) rfl
theorem dX5_rainDown_1 : decode cX5_rainDown 1 = .ok (.istore_n 2, 1) := zrD zrw_cX5_rainDown_0 (i := 1) (by decide +kernel) rfl
theorem dX5_rainDown_2 : decode cX5_rainDown 2 = .ok (.iload_n 2, 1) := zrD zrw_cX5_rainDown_0 (i := 2) (by decide +kernel) rfl
theorem dX5_rainDown_3 : decode cX5_rainDown 3 = .ok (.aload_n 0, 1) := zrD zrw_cX5_rainDown_0 (i := 3) (by decide +kernel) rfl
theorem dX5_rainDown_4 : decode cX5_rainDown 4 = .ok (.getfield 12, 3) := zrD zrw_cX5_rainDown_0 (i := 4) (by decide +kernel) rfl
theorem dX5_rainDown_7 : decode cX5_rainDown 7 = .ok (.getfield 64, 3) := zrD zrw_cX5_rainDown_0 (i := 7) (by decide +kernel) rfl
theorem dX5_rainDown_10 : decode cX5_rainDown 10 = .ok (.if_icmp .ge 31, 3) := zrD zrw_cX5_rainDown_0 (i := 10) (by decide +kernel) rfl
theorem dX5_rainDown_13 : decode cX5_rainDown 13 = .ok (.aload_n 0, 1) := zrD zrw_cX5_rainDown_0 (i := 13) (by decide +kernel) rfl
theorem dX5_rainDown_14 : decode cX5_rainDown 14 = .ok (.getfield 25, 3) := zrD zrw_cX5_rainDown_0 (i := 14) (by decide +kernel) rfl
theorem dX5_rainDown_17 : decode cX5_rainDown 17 = .ok (.iload_n 2, 1) := zrD zrw_cX5_rainDown_0 (i := 17) (by decide +kernel) rfl
theorem dX5_rainDown_18 : decode cX5_rainDown 18 = .ok (.aload_n 0, 1) := zrD zrw_cX5_rainDown_0 (i := 18) (by decide +kernel) rfl
theorem dX5_rainDown_19 : decode cX5_rainDown 19 = .ok (.iconst 0, 1) := zrD zrw_cX5_rainDown_0 (i := 19) (by decide +kernel) rfl
theorem dX5_rainDown_20 : decode cX5_rainDown 20 = .ok (.iload_n 2, 1) := zrD zrw_cX5_rainDown_0 (i := 20) (by decide +kernel) rfl
theorem dX5_rainDown_21 : decode cX5_rainDown 21 = .ok (.iconst 0, 1) := zrD zrw_cX5_rainDown_0 (i := 21) (by decide +kernel) rfl
theorem dX5_rainDown_22 : decode cX5_rainDown 22 = .ok (.invokevirtual 69, 3) := zrD zrw_cX5_rainDown_0 (i := 22) (by decide +kernel) rfl
theorem dX5_rainDown_25 : decode cX5_rainDown 25 = .ok (.iconst 0, 1) := zrD zrw_cX5_rainDown_0 (i := 25) (by decide +kernel) rfl
theorem dX5_rainDown_26 : decode cX5_rainDown 26 = .ok (.sipush 999, 3) := zrD zrw_cX5_rainDown_0 (i := 26) (by decide +kernel) rfl
theorem dX5_rainDown_29 : decode cX5_rainDown 29 = .ok (.invokestatic 73, 3) := zrD zrw_cX5_rainDown_0 (i := 29) (by decide +kernel) rfl
def zrk_cX5_rainDown_32 : ByteArray := .mk #[27, 96, 79, 132, 2, 1, 167, 255, 220, 177]
theorem zrw_cX5_rainDown_32 : zrW 32 cX5_rainDown zrk_cX5_rainDown_32 := by unfold zrW; decide +kernel
theorem dX5_rainDown_32 : decode cX5_rainDown 32 = .ok (.iload_n 1, 1) := zrD zrw_cX5_rainDown_32 (i := 0) (by decide +kernel) rfl
theorem dX5_rainDown_33 : decode cX5_rainDown 33 = .ok (.iadd, 1) := zrD zrw_cX5_rainDown_32 (i := 1) (by decide +kernel) rfl
theorem dX5_rainDown_34 : decode cX5_rainDown 34 = .ok (.iastore, 1) := zrD zrw_cX5_rainDown_32 (i := 2) (by decide +kernel) rfl
theorem dX5_rainDown_35 : decode cX5_rainDown 35 = .ok (.iinc 2 1, 3) := zrD zrw_cX5_rainDown_32 (i := 3) (by decide +kernel) rfl
theorem dX5_rainDown_38 : decode cX5_rainDown 38 = .ok (.goto (-36), 3) := zrD zrw_cX5_rainDown_32 (i := 6) (by decide +kernel) rfl
theorem dX5_rainDown_41 : decode cX5_rainDown 41 = .ok (.return_, 1) := zrD zrw_cX5_rainDown_32 (i := 9) (by decide +kernel) rfl
def zrk_cX5_run_0 : ByteArray := .mk #[42, 180, 0, 25, 3, 42, 180, 0, 29, 3, 16, 12, 184, 0, 76, 42, 180, 0, 12, 180, 0, 64, 4, 100, 61, 28, 158, 0, 56, 42]
theorem zrw_cX5_run_0 : zrW 0 cX5_run zrk_cX5_run_0 := by unfold zrW; decide +kernel
theorem dX5_run_0 : decode cX5_run 0 = .ok (.aload_n 0, 1) := zrD zrw_cX5_run_0 (i := 0) (by decide +kernel) rfl
theorem dX5_run_1 : decode cX5_run 1 = .ok (.getfield 25, 3) := zrD zrw_cX5_run_0 (i := 1) (by decide +kernel) rfl
theorem dX5_run_4 : decode cX5_run 4 = .ok (.iconst 0, 1) := zrD zrw_cX5_run_0 (i := 4) (by decide +kernel) rfl
theorem dX5_run_5 : decode cX5_run 5 = .ok (.aload_n 0, 1) := zrD zrw_cX5_run_0 (i := 5) (by decide +kernel) rfl
theorem dX5_run_6 : decode cX5_run 6 = .ok (.getfield 29, 3) := zrD zrw_cX5_run_0 (i := 6) (by decide +kernel) rfl
theorem dX5_run_9 : decode cX5_run 9 = .ok (.iconst 0, 1) := zrD zrw_cX5_run_0 (i := 9) (by decide +kernel) rfl
theorem dX5_run_10 : decode cX5_run 10 = .ok (.bipush 12, 2) := zrD zrw_cX5_run_0 (i := 10) (by decide +kernel) rfl
theorem dX5_run_12 : decode cX5_run 12 = .ok (.invokestatic 76, 3) := zrD zrw_cX5_run_0 (i := 12) (by decide +kernel) rfl
theorem dX5_run_15 : decode cX5_run 15 = .ok (.aload_n 0, 1) := zrD zrw_cX5_run_0 (i := 15) (by decide +kernel) rfl
theorem dX5_run_16 : decode cX5_run 16 = .ok (.getfield 12, 3) := zrD zrw_cX5_run_0 (i := 16) (by decide +kernel) rfl
theorem dX5_run_19 : decode cX5_run 19 = .ok (.getfield 64, 3) := zrD zrw_cX5_run_0 (i := 19) (by decide +kernel) rfl
theorem dX5_run_22 : decode cX5_run 22 = .ok (.iconst 1, 1) := zrD zrw_cX5_run_0 (i := 22) (by decide +kernel) rfl
theorem dX5_run_23 : decode cX5_run 23 = .ok (.isub, 1) := zrD zrw_cX5_run_0 (i := 23) (by decide +kernel) rfl
theorem dX5_run_24 : decode cX5_run 24 = .ok (.istore_n 2, 1) := zrD zrw_cX5_run_0 (i := 24) (by decide +kernel) rfl
theorem dX5_run_25 : decode cX5_run 25 = .ok (.iload_n 2, 1) := zrD zrw_cX5_run_0 (i := 25) (by decide +kernel) rfl
theorem dX5_run_26 : decode cX5_run 26 = .ok (.ifCond .le 56, 3) := zrD zrw_cX5_run_0 (i := 26) (by decide +kernel) rfl
theorem dX5_run_29 : decode cX5_run 29 = .ok (.aload_n 0, 1) := zrD zrw_cX5_run_0 (i := 29) (by decide +kernel) rfl
def zrk_cX5_run_30 : ByteArray := .mk #[180, 0, 12, 180, 0, 82, 28, 46, 62, 27, 29, 184, 0, 85, 154, 0, 32, 42, 180, 0, 29, 42, 180, 0, 39, 180, 0, 89, 29, 46, 92, 46]
theorem zrw_cX5_run_30 : zrW 30 cX5_run zrk_cX5_run_30 := by unfold zrW; decide +kernel
theorem dX5_run_30 : decode cX5_run 30 = .ok (.getfield 12, 3) := zrD zrw_cX5_run_30 (i := 0) (by decide +kernel) rfl
theorem dX5_run_33 : decode cX5_run 33 = .ok (.getfield 82, 3) := zrD zrw_cX5_run_30 (i := 3) (by decide +kernel) rfl
theorem dX5_run_36 : decode cX5_run 36 = .ok (.iload_n 2, 1) := zrD zrw_cX5_run_30 (i := 6) (by decide +kernel) rfl
theorem dX5_run_37 : decode cX5_run 37 = .ok (.iaload, 1) := zrD zrw_cX5_run_30 (i := 7) (by decide +kernel) rfl
theorem dX5_run_38 : decode cX5_run 38 = .ok (.istore_n 3, 1) := zrD zrw_cX5_run_30 (i := 8) (by decide +kernel) rfl
theorem dX5_run_39 : decode cX5_run 39 = .ok (.iload_n 1, 1) := zrD zrw_cX5_run_30 (i := 9) (by decide +kernel) rfl
theorem dX5_run_40 : decode cX5_run 40 = .ok (.iload_n 3, 1) := zrD zrw_cX5_run_30 (i := 10) (by decide +kernel) rfl
theorem dX5_run_41 : decode cX5_run 41 = .ok (.invokestatic 85, 3) := zrD zrw_cX5_run_30 (i := 11) (by decide +kernel) rfl
theorem dX5_run_44 : decode cX5_run 44 = .ok (.ifCond .ne 32, 3) := zrD zrw_cX5_run_30 (i := 14) (by decide +kernel) rfl
theorem dX5_run_47 : decode cX5_run 47 = .ok (.aload_n 0, 1) := zrD zrw_cX5_run_30 (i := 17) (by decide +kernel) rfl
theorem dX5_run_48 : decode cX5_run 48 = .ok (.getfield 29, 3) := zrD zrw_cX5_run_30 (i := 18) (by decide +kernel) rfl
theorem dX5_run_51 : decode cX5_run 51 = .ok (.aload_n 0, 1) := zrD zrw_cX5_run_30 (i := 21) (by decide +kernel) rfl
theorem dX5_run_52 : decode cX5_run 52 = .ok (.getfield 39, 3) := zrD zrw_cX5_run_30 (i := 22) (by decide +kernel) rfl
theorem dX5_run_55 : decode cX5_run 55 = .ok (.getfield 89, 3) := zrD zrw_cX5_run_30 (i := 25) (by decide +kernel) rfl
theorem dX5_run_58 : decode cX5_run 58 = .ok (.iload_n 3, 1) := zrD zrw_cX5_run_30 (i := 28) (by decide +kernel) rfl
theorem dX5_run_59 : decode cX5_run 59 = .ok (.iaload, 1) := zrD zrw_cX5_run_30 (i := 29) (by decide +kernel) rfl
theorem dX5_run_60 : decode cX5_run 60 = .ok (.dup2, 1) := zrD zrw_cX5_run_30 (i := 30) (by decide +kernel) rfl
theorem dX5_run_61 : decode cX5_run 61 = .ok (.iaload, 1) := zrD zrw_cX5_run_30 (i := 31) (by decide +kernel) rfl
def zrk_cX5_run_62 : ByteArray := .mk #[42, 180, 0, 29, 29, 46, 42, 29, 182, 0, 92, 100, 96, 79, 132, 2, 255, 167, 255, 202, 177]
theorem zrw_cX5_run_62 : zrW 62 cX5_run zrk_cX5_run_62 := by unfold zrW; decide +kernel
theorem dX5_run_62 : decode cX5_run 62 = .ok (.aload_n 0, 1) := zrD zrw_cX5_run_62 (i := 0) (by decide +kernel) rfl
theorem dX5_run_63 : decode cX5_run 63 = .ok (.getfield 29, 3) := zrD zrw_cX5_run_62 (i := 1) (by decide +kernel) rfl
theorem dX5_run_66 : decode cX5_run 66 = .ok (.iload_n 3, 1) := zrD zrw_cX5_run_62 (i := 4) (by decide +kernel) rfl
theorem dX5_run_67 : decode cX5_run 67 = .ok (.iaload, 1) := zrD zrw_cX5_run_62 (i := 5) (by decide +kernel) rfl
theorem dX5_run_68 : decode cX5_run 68 = .ok (.aload_n 0, 1) := zrD zrw_cX5_run_62 (i := 6) (by decide +kernel) rfl
theorem dX5_run_69 : decode cX5_run 69 = .ok (.iload_n 3, 1) := zrD zrw_cX5_run_62 (i := 7) (by decide +kernel) rfl
theorem dX5_run_70 : decode cX5_run 70 = .ok (.invokevirtual 92, 3) := zrD zrw_cX5_run_62 (i := 8) (by decide +kernel) rfl
theorem dX5_run_73 : decode cX5_run 73 = .ok (.isub, 1) := zrD zrw_cX5_run_62 (i := 11) (by decide +kernel) rfl
theorem dX5_run_74 : decode cX5_run 74 = .ok (.iadd, 1) := zrD zrw_cX5_run_62 (i := 12) (by decide +kernel) rfl
theorem dX5_run_75 : decode cX5_run 75 = .ok (.iastore, 1) := zrD zrw_cX5_run_62 (i := 13) (by decide +kernel) rfl
theorem dX5_run_76 : decode cX5_run 76 = .ok (.iinc 2 (-1), 3) := zrD zrw_cX5_run_62 (i := 14) (by decide +kernel) rfl
theorem dX5_run_79 : decode cX5_run 79 = .ok (.goto (-54), 3) := zrD zrw_cX5_run_62 (i := 17) (by decide +kernel) rfl
theorem dX5_run_82 : decode cX5_run 82 = .ok (.return_, 1) := zrD zrw_cX5_run_62 (i := 20) (by decide +kernel) rfl
def zrk_cX5_dried_0 : ByteArray := .mk #[42, 4, 27, 42, 180, 0, 29, 27, 46, 182, 0, 69, 3, 42, 180, 0, 29, 27, 46, 184, 0, 73, 172]
theorem zrw_cX5_dried_0 : zrW 0 cX5_dried zrk_cX5_dried_0 := by unfold zrW; decide +kernel
theorem dX5_dried_0 : decode cX5_dried 0 = .ok (.aload_n 0, 1) := zrD zrw_cX5_dried_0 (i := 0) (by decide +kernel) rfl
theorem dX5_dried_1 : decode cX5_dried 1 = .ok (.iconst 1, 1) := zrD zrw_cX5_dried_0 (i := 1) (by decide +kernel) rfl
theorem dX5_dried_2 : decode cX5_dried 2 = .ok (.iload_n 1, 1) := zrD zrw_cX5_dried_0 (i := 2) (by decide +kernel) rfl
theorem dX5_dried_3 : decode cX5_dried 3 = .ok (.aload_n 0, 1) := zrD zrw_cX5_dried_0 (i := 3) (by decide +kernel) rfl
theorem dX5_dried_4 : decode cX5_dried 4 = .ok (.getfield 29, 3) := zrD zrw_cX5_dried_0 (i := 4) (by decide +kernel) rfl
theorem dX5_dried_7 : decode cX5_dried 7 = .ok (.iload_n 1, 1) := zrD zrw_cX5_dried_0 (i := 7) (by decide +kernel) rfl
theorem dX5_dried_8 : decode cX5_dried 8 = .ok (.iaload, 1) := zrD zrw_cX5_dried_0 (i := 8) (by decide +kernel) rfl
theorem dX5_dried_9 : decode cX5_dried 9 = .ok (.invokevirtual 69, 3) := zrD zrw_cX5_dried_0 (i := 9) (by decide +kernel) rfl
theorem dX5_dried_12 : decode cX5_dried 12 = .ok (.iconst 0, 1) := zrD zrw_cX5_dried_0 (i := 12) (by decide +kernel) rfl
theorem dX5_dried_13 : decode cX5_dried 13 = .ok (.aload_n 0, 1) := zrD zrw_cX5_dried_0 (i := 13) (by decide +kernel) rfl
theorem dX5_dried_14 : decode cX5_dried 14 = .ok (.getfield 29, 3) := zrD zrw_cX5_dried_0 (i := 14) (by decide +kernel) rfl
theorem dX5_dried_17 : decode cX5_dried 17 = .ok (.iload_n 1, 1) := zrD zrw_cX5_dried_0 (i := 17) (by decide +kernel) rfl
theorem dX5_dried_18 : decode cX5_dried 18 = .ok (.iaload, 1) := zrD zrw_cX5_dried_0 (i := 18) (by decide +kernel) rfl
theorem dX5_dried_19 : decode cX5_dried 19 = .ok (.invokestatic 73, 3) := zrD zrw_cX5_dried_0 (i := 19) (by decide +kernel) rfl
theorem dX5_dried_22 : decode cX5_dried 22 = .ok (.ireturn, 1) := zrD zrw_cX5_dried_0 (i := 22) (by decide +kernel) rfl
def zrk_cX5_tells_0 : ByteArray := .mk #[42, 180, 0, 21, 180, 0, 96, 58, 4, 25, 4, 3, 42, 180, 0, 35, 180, 0, 99, 28, 46, 79, 25, 4, 4, 42, 180, 0, 12, 180, 0, 102]
theorem zrw_cX5_tells_0 : zrW 0 cX5_tells zrk_cX5_tells_0 := by unfold zrW; decide +kernel
theorem dX5_tells_0 : decode cX5_tells 0 = .ok (.aload_n 0, 1) := zrD zrw_cX5_tells_0 (i := 0) (by decide +kernel) rfl
theorem dX5_tells_1 : decode cX5_tells 1 = .ok (.getfield 21, 3) := zrD zrw_cX5_tells_0 (i := 1) (by decide +kernel) rfl
theorem dX5_tells_4 : decode cX5_tells 4 = .ok (.getfield 96, 3) := zrD zrw_cX5_tells_0 (i := 4) (by decide +kernel) rfl
theorem dX5_tells_7 : decode cX5_tells 7 = .ok (.astore 4, 2) := zrD zrw_cX5_tells_0 (i := 7) (by decide +kernel) rfl
theorem dX5_tells_9 : decode cX5_tells 9 = .ok (.aload 4, 2) := zrD zrw_cX5_tells_0 (i := 9) (by decide +kernel) rfl
theorem dX5_tells_11 : decode cX5_tells 11 = .ok (.iconst 0, 1) := zrD zrw_cX5_tells_0 (i := 11) (by decide +kernel) rfl
theorem dX5_tells_12 : decode cX5_tells 12 = .ok (.aload_n 0, 1) := zrD zrw_cX5_tells_0 (i := 12) (by decide +kernel) rfl
theorem dX5_tells_13 : decode cX5_tells 13 = .ok (.getfield 35, 3) := zrD zrw_cX5_tells_0 (i := 13) (by decide +kernel) rfl
theorem dX5_tells_16 : decode cX5_tells 16 = .ok (.getfield 99, 3) := zrD zrw_cX5_tells_0 (i := 16) (by decide +kernel) rfl
theorem dX5_tells_19 : decode cX5_tells 19 = .ok (.iload_n 2, 1) := zrD zrw_cX5_tells_0 (i := 19) (by decide +kernel) rfl
theorem dX5_tells_20 : decode cX5_tells 20 = .ok (.iaload, 1) := zrD zrw_cX5_tells_0 (i := 20) (by decide +kernel) rfl
theorem dX5_tells_21 : decode cX5_tells 21 = .ok (.iastore, 1) := zrD zrw_cX5_tells_0 (i := 21) (by decide +kernel) rfl
theorem dX5_tells_22 : decode cX5_tells 22 = .ok (.aload 4, 2) := zrD zrw_cX5_tells_0 (i := 22) (by decide +kernel) rfl
theorem dX5_tells_24 : decode cX5_tells 24 = .ok (.iconst 1, 1) := zrD zrw_cX5_tells_0 (i := 24) (by decide +kernel) rfl
theorem dX5_tells_25 : decode cX5_tells 25 = .ok (.aload_n 0, 1) := zrD zrw_cX5_tells_0 (i := 25) (by decide +kernel) rfl
theorem dX5_tells_26 : decode cX5_tells 26 = .ok (.getfield 12, 3) := zrD zrw_cX5_tells_0 (i := 26) (by decide +kernel) rfl
theorem dX5_tells_29 : decode cX5_tells 29 = .ok (.getfield 102, 3) := zrD zrw_cX5_tells_0 (i := 29) (by decide +kernel) rfl
def zrk_cX5_tells_32 : ByteArray := .mk #[28, 46, 79, 25, 4, 5, 42, 180, 0, 35, 180, 0, 105, 28, 46, 79, 25, 4, 6, 42, 180, 0, 39, 182, 0, 108, 79, 25, 4, 7, 29, 79]
theorem zrw_cX5_tells_32 : zrW 32 cX5_tells zrk_cX5_tells_32 := by unfold zrW; decide +kernel
theorem dX5_tells_32 : decode cX5_tells 32 = .ok (.iload_n 2, 1) := zrD zrw_cX5_tells_32 (i := 0) (by decide +kernel) rfl
theorem dX5_tells_33 : decode cX5_tells 33 = .ok (.iaload, 1) := zrD zrw_cX5_tells_32 (i := 1) (by decide +kernel) rfl
theorem dX5_tells_34 : decode cX5_tells 34 = .ok (.iastore, 1) := zrD zrw_cX5_tells_32 (i := 2) (by decide +kernel) rfl
theorem dX5_tells_35 : decode cX5_tells 35 = .ok (.aload 4, 2) := zrD zrw_cX5_tells_32 (i := 3) (by decide +kernel) rfl
theorem dX5_tells_37 : decode cX5_tells 37 = .ok (.iconst 2, 1) := zrD zrw_cX5_tells_32 (i := 5) (by decide +kernel) rfl
theorem dX5_tells_38 : decode cX5_tells 38 = .ok (.aload_n 0, 1) := zrD zrw_cX5_tells_32 (i := 6) (by decide +kernel) rfl
theorem dX5_tells_39 : decode cX5_tells 39 = .ok (.getfield 35, 3) := zrD zrw_cX5_tells_32 (i := 7) (by decide +kernel) rfl
theorem dX5_tells_42 : decode cX5_tells 42 = .ok (.getfield 105, 3) := zrD zrw_cX5_tells_32 (i := 10) (by decide +kernel) rfl
theorem dX5_tells_45 : decode cX5_tells 45 = .ok (.iload_n 2, 1) := zrD zrw_cX5_tells_32 (i := 13) (by decide +kernel) rfl
theorem dX5_tells_46 : decode cX5_tells 46 = .ok (.iaload, 1) := zrD zrw_cX5_tells_32 (i := 14) (by decide +kernel) rfl
theorem dX5_tells_47 : decode cX5_tells 47 = .ok (.iastore, 1) := zrD zrw_cX5_tells_32 (i := 15) (by decide +kernel) rfl
theorem dX5_tells_48 : decode cX5_tells 48 = .ok (.aload 4, 2) := zrD zrw_cX5_tells_32 (i := 16) (by decide +kernel) rfl
theorem dX5_tells_50 : decode cX5_tells 50 = .ok (.iconst 3, 1) := zrD zrw_cX5_tells_32 (i := 18) (by decide +kernel) rfl
theorem dX5_tells_51 : decode cX5_tells 51 = .ok (.aload_n 0, 1) := zrD zrw_cX5_tells_32 (i := 19) (by decide +kernel) rfl
theorem dX5_tells_52 : decode cX5_tells 52 = .ok (.getfield 39, 3) := zrD zrw_cX5_tells_32 (i := 20) (by decide +kernel) rfl
theorem dX5_tells_55 : decode cX5_tells 55 = .ok (.invokevirtual 108, 3) := zrD zrw_cX5_tells_32 (i := 23) (by decide +kernel) rfl
theorem dX5_tells_58 : decode cX5_tells 58 = .ok (.iastore, 1) := zrD zrw_cX5_tells_32 (i := 26) (by decide +kernel) rfl
theorem dX5_tells_59 : decode cX5_tells 59 = .ok (.aload 4, 2) := zrD zrw_cX5_tells_32 (i := 27) (by decide +kernel) rfl
theorem dX5_tells_61 : decode cX5_tells 61 = .ok (.iconst 4, 1) := zrD zrw_cX5_tells_32 (i := 29) (by decide +kernel) rfl
theorem dX5_tells_62 : decode cX5_tells 62 = .ok (.iload_n 3, 1) := zrD zrw_cX5_tells_32 (i := 30) (by decide +kernel) rfl
theorem dX5_tells_63 : decode cX5_tells 63 = .ok (.iastore, 1) := zrD zrw_cX5_tells_32 (i := 31) (by decide +kernel) rfl
def zrk_cX5_tells_64 : ByteArray := .mk #[25, 4, 8, 42, 180, 0, 35, 180, 0, 112, 28, 46, 79, 25, 4, 16, 6, 42, 180, 0, 39, 180, 0, 115, 28, 46, 79, 25, 4, 16, 7, 28]
theorem zrw_cX5_tells_64 : zrW 64 cX5_tells zrk_cX5_tells_64 := by unfold zrW; decide +kernel
theorem dX5_tells_64 : decode cX5_tells 64 = .ok (.aload 4, 2) := zrD zrw_cX5_tells_64 (i := 0) (by decide +kernel) rfl
theorem dX5_tells_66 : decode cX5_tells 66 = .ok (.iconst 5, 1) := zrD zrw_cX5_tells_64 (i := 2) (by decide +kernel) rfl
theorem dX5_tells_67 : decode cX5_tells 67 = .ok (.aload_n 0, 1) := zrD zrw_cX5_tells_64 (i := 3) (by decide +kernel) rfl
theorem dX5_tells_68 : decode cX5_tells 68 = .ok (.getfield 35, 3) := zrD zrw_cX5_tells_64 (i := 4) (by decide +kernel) rfl
theorem dX5_tells_71 : decode cX5_tells 71 = .ok (.getfield 112, 3) := zrD zrw_cX5_tells_64 (i := 7) (by decide +kernel) rfl
theorem dX5_tells_74 : decode cX5_tells 74 = .ok (.iload_n 2, 1) := zrD zrw_cX5_tells_64 (i := 10) (by decide +kernel) rfl
theorem dX5_tells_75 : decode cX5_tells 75 = .ok (.iaload, 1) := zrD zrw_cX5_tells_64 (i := 11) (by decide +kernel) rfl
theorem dX5_tells_76 : decode cX5_tells 76 = .ok (.iastore, 1) := zrD zrw_cX5_tells_64 (i := 12) (by decide +kernel) rfl
theorem dX5_tells_77 : decode cX5_tells 77 = .ok (.aload 4, 2) := zrD zrw_cX5_tells_64 (i := 13) (by decide +kernel) rfl
theorem dX5_tells_79 : decode cX5_tells 79 = .ok (.bipush 6, 2) := zrD zrw_cX5_tells_64 (i := 15) (by decide +kernel) rfl
theorem dX5_tells_81 : decode cX5_tells 81 = .ok (.aload_n 0, 1) := zrD zrw_cX5_tells_64 (i := 17) (by decide +kernel) rfl
theorem dX5_tells_82 : decode cX5_tells 82 = .ok (.getfield 39, 3) := zrD zrw_cX5_tells_64 (i := 18) (by decide +kernel) rfl
theorem dX5_tells_85 : decode cX5_tells 85 = .ok (.getfield 115, 3) := zrD zrw_cX5_tells_64 (i := 21) (by decide +kernel) rfl
theorem dX5_tells_88 : decode cX5_tells 88 = .ok (.iload_n 2, 1) := zrD zrw_cX5_tells_64 (i := 24) (by decide +kernel) rfl
theorem dX5_tells_89 : decode cX5_tells 89 = .ok (.iaload, 1) := zrD zrw_cX5_tells_64 (i := 25) (by decide +kernel) rfl
theorem dX5_tells_90 : decode cX5_tells 90 = .ok (.iastore, 1) := zrD zrw_cX5_tells_64 (i := 26) (by decide +kernel) rfl
theorem dX5_tells_91 : decode cX5_tells 91 = .ok (.aload 4, 2) := zrD zrw_cX5_tells_64 (i := 27) (by decide +kernel) rfl
theorem dX5_tells_93 : decode cX5_tells 93 = .ok (.bipush 7, 2) := zrD zrw_cX5_tells_64 (i := 29) (by decide +kernel) rfl
theorem dX5_tells_95 : decode cX5_tells 95 = .ok (.iload_n 2, 1) := zrD zrw_cX5_tells_64 (i := 31) (by decide +kernel) rfl
def zrk_cX5_tells_96 : ByteArray := .mk #[79, 25, 4, 16, 8, 42, 180, 0, 12, 180, 0, 118, 28, 46, 79, 42, 180, 0, 21, 42, 180, 0, 35, 27, 182, 0, 121, 172]
theorem zrw_cX5_tells_96 : zrW 96 cX5_tells zrk_cX5_tells_96 := by unfold zrW; decide +kernel
theorem dX5_tells_96 : decode cX5_tells 96 = .ok (.iastore, 1) := zrD zrw_cX5_tells_96 (i := 0) (by decide +kernel) rfl
theorem dX5_tells_97 : decode cX5_tells 97 = .ok (.aload 4, 2) := zrD zrw_cX5_tells_96 (i := 1) (by decide +kernel) rfl
theorem dX5_tells_99 : decode cX5_tells 99 = .ok (.bipush 8, 2) := zrD zrw_cX5_tells_96 (i := 3) (by decide +kernel) rfl
theorem dX5_tells_101 : decode cX5_tells 101 = .ok (.aload_n 0, 1) := zrD zrw_cX5_tells_96 (i := 5) (by decide +kernel) rfl
theorem dX5_tells_102 : decode cX5_tells 102 = .ok (.getfield 12, 3) := zrD zrw_cX5_tells_96 (i := 6) (by decide +kernel) rfl
theorem dX5_tells_105 : decode cX5_tells 105 = .ok (.getfield 118, 3) := zrD zrw_cX5_tells_96 (i := 9) (by decide +kernel) rfl
theorem dX5_tells_108 : decode cX5_tells 108 = .ok (.iload_n 2, 1) := zrD zrw_cX5_tells_96 (i := 12) (by decide +kernel) rfl
theorem dX5_tells_109 : decode cX5_tells 109 = .ok (.iaload, 1) := zrD zrw_cX5_tells_96 (i := 13) (by decide +kernel) rfl
theorem dX5_tells_110 : decode cX5_tells 110 = .ok (.iastore, 1) := zrD zrw_cX5_tells_96 (i := 14) (by decide +kernel) rfl
theorem dX5_tells_111 : decode cX5_tells 111 = .ok (.aload_n 0, 1) := zrD zrw_cX5_tells_96 (i := 15) (by decide +kernel) rfl
theorem dX5_tells_112 : decode cX5_tells 112 = .ok (.getfield 21, 3) := zrD zrw_cX5_tells_96 (i := 16) (by decide +kernel) rfl
theorem dX5_tells_115 : decode cX5_tells 115 = .ok (.aload_n 0, 1) := zrD zrw_cX5_tells_96 (i := 19) (by decide +kernel) rfl
theorem dX5_tells_116 : decode cX5_tells 116 = .ok (.getfield 35, 3) := zrD zrw_cX5_tells_96 (i := 20) (by decide +kernel) rfl
theorem dX5_tells_119 : decode cX5_tells 119 = .ok (.iload_n 1, 1) := zrD zrw_cX5_tells_96 (i := 23) (by decide +kernel) rfl
theorem dX5_tells_120 : decode cX5_tells 120 = .ok (.invokevirtual 121, 3) := zrD zrw_cX5_tells_96 (i := 24) (by decide +kernel) rfl
theorem dX5_tells_123 : decode cX5_tells 123 = .ok (.ireturn, 1) := zrD zrw_cX5_tells_96 (i := 27) (by decide +kernel) rfl
def zrk_cX5_claimOf_0 : ByteArray := .mk #[42, 5, 28, 96, 27, 42, 180, 0, 29, 27, 46, 182, 0, 69, 3, 18, 125, 184, 0, 73, 172]
theorem zrw_cX5_claimOf_0 : zrW 0 cX5_claimOf zrk_cX5_claimOf_0 := by unfold zrW; decide +kernel
theorem dX5_claimOf_0 : decode cX5_claimOf 0 = .ok (.aload_n 0, 1) := zrD zrw_cX5_claimOf_0 (i := 0) (by decide +kernel) rfl
theorem dX5_claimOf_1 : decode cX5_claimOf 1 = .ok (.iconst 2, 1) := zrD zrw_cX5_claimOf_0 (i := 1) (by decide +kernel) rfl
theorem dX5_claimOf_2 : decode cX5_claimOf 2 = .ok (.iload_n 2, 1) := zrD zrw_cX5_claimOf_0 (i := 2) (by decide +kernel) rfl
theorem dX5_claimOf_3 : decode cX5_claimOf 3 = .ok (.iadd, 1) := zrD zrw_cX5_claimOf_0 (i := 3) (by decide +kernel) rfl
theorem dX5_claimOf_4 : decode cX5_claimOf 4 = .ok (.iload_n 1, 1) := zrD zrw_cX5_claimOf_0 (i := 4) (by decide +kernel) rfl
theorem dX5_claimOf_5 : decode cX5_claimOf 5 = .ok (.aload_n 0, 1) := zrD zrw_cX5_claimOf_0 (i := 5) (by decide +kernel) rfl
theorem dX5_claimOf_6 : decode cX5_claimOf 6 = .ok (.getfield 29, 3) := zrD zrw_cX5_claimOf_0 (i := 6) (by decide +kernel) rfl
theorem dX5_claimOf_9 : decode cX5_claimOf 9 = .ok (.iload_n 1, 1) := zrD zrw_cX5_claimOf_0 (i := 9) (by decide +kernel) rfl
theorem dX5_claimOf_10 : decode cX5_claimOf 10 = .ok (.iaload, 1) := zrD zrw_cX5_claimOf_0 (i := 10) (by decide +kernel) rfl
theorem dX5_claimOf_11 : decode cX5_claimOf 11 = .ok (.invokevirtual 69, 3) := zrD zrw_cX5_claimOf_0 (i := 11) (by decide +kernel) rfl
theorem dX5_claimOf_14 : decode cX5_claimOf 14 = .ok (.iconst 0, 1) := zrD zrw_cX5_claimOf_0 (i := 14) (by decide +kernel) rfl
theorem dX5_claimOf_15 : decode cX5_claimOf 15 = .ok (.ldc 125, 2) := zrD zrw_cX5_claimOf_0 (i := 15) (by decide +kernel) rfl
theorem dX5_claimOf_17 : decode cX5_claimOf 17 = .ok (.invokestatic 73, 3) := zrD zrw_cX5_claimOf_0 (i := 17) (by decide +kernel) rfl
theorem dX5_claimOf_20 : decode cX5_claimOf 20 = .ok (.ireturn, 1) := zrD zrw_cX5_claimOf_0 (i := 20) (by decide +kernel) rfl
def zrk_cX5_weigh_0 : ByteArray := .mk #[4, 61, 28, 42, 180, 0, 12, 180, 0, 64, 162, 0, 36, 42, 180, 0, 32, 28, 42, 180, 0, 12, 28, 182, 0, 126, 153, 0, 12, 42, 28, 27]
theorem zrw_cX5_weigh_0 : zrW 0 cX5_weigh zrk_cX5_weigh_0 := by unfold zrW; decide +kernel
theorem dX5_weigh_0 : decode cX5_weigh 0 = .ok (.iconst 1, 1) := zrD zrw_cX5_weigh_0 (i := 0) (by decide +kernel) rfl
theorem dX5_weigh_1 : decode cX5_weigh 1 = .ok (.istore_n 2, 1) := zrD zrw_cX5_weigh_0 (i := 1) (by decide +kernel) rfl
theorem dX5_weigh_2 : decode cX5_weigh 2 = .ok (.iload_n 2, 1) := zrD zrw_cX5_weigh_0 (i := 2) (by decide +kernel) rfl
theorem dX5_weigh_3 : decode cX5_weigh 3 = .ok (.aload_n 0, 1) := zrD zrw_cX5_weigh_0 (i := 3) (by decide +kernel) rfl
theorem dX5_weigh_4 : decode cX5_weigh 4 = .ok (.getfield 12, 3) := zrD zrw_cX5_weigh_0 (i := 4) (by decide +kernel) rfl
theorem dX5_weigh_7 : decode cX5_weigh 7 = .ok (.getfield 64, 3) := zrD zrw_cX5_weigh_0 (i := 7) (by decide +kernel) rfl
theorem dX5_weigh_10 : decode cX5_weigh 10 = .ok (.if_icmp .ge 36, 3) := zrD zrw_cX5_weigh_0 (i := 10) (by decide +kernel) rfl
theorem dX5_weigh_13 : decode cX5_weigh 13 = .ok (.aload_n 0, 1) := zrD zrw_cX5_weigh_0 (i := 13) (by decide +kernel) rfl
theorem dX5_weigh_14 : decode cX5_weigh 14 = .ok (.getfield 32, 3) := zrD zrw_cX5_weigh_0 (i := 14) (by decide +kernel) rfl
theorem dX5_weigh_17 : decode cX5_weigh 17 = .ok (.iload_n 2, 1) := zrD zrw_cX5_weigh_0 (i := 17) (by decide +kernel) rfl
theorem dX5_weigh_18 : decode cX5_weigh 18 = .ok (.aload_n 0, 1) := zrD zrw_cX5_weigh_0 (i := 18) (by decide +kernel) rfl
theorem dX5_weigh_19 : decode cX5_weigh 19 = .ok (.getfield 12, 3) := zrD zrw_cX5_weigh_0 (i := 19) (by decide +kernel) rfl
theorem dX5_weigh_22 : decode cX5_weigh 22 = .ok (.iload_n 2, 1) := zrD zrw_cX5_weigh_0 (i := 22) (by decide +kernel) rfl
theorem dX5_weigh_23 : decode cX5_weigh 23 = .ok (.invokevirtual 126, 3) := zrD zrw_cX5_weigh_0 (i := 23) (by decide +kernel) rfl
theorem dX5_weigh_26 : decode cX5_weigh 26 = .ok (.ifCond .eq 12, 3) := zrD zrw_cX5_weigh_0 (i := 26) (by decide +kernel) rfl
theorem dX5_weigh_29 : decode cX5_weigh 29 = .ok (.aload_n 0, 1) := zrD zrw_cX5_weigh_0 (i := 29) (by decide +kernel) rfl
theorem dX5_weigh_30 : decode cX5_weigh 30 = .ok (.iload_n 2, 1) := zrD zrw_cX5_weigh_0 (i := 30) (by decide +kernel) rfl
theorem dX5_weigh_31 : decode cX5_weigh 31 = .ok (.iload_n 1, 1) := zrD zrw_cX5_weigh_0 (i := 31) (by decide +kernel) rfl
def zrk_cX5_weigh_32 : ByteArray := .mk #[182, 0, 130, 167, 0, 4, 2, 79, 132, 2, 1, 167, 255, 215, 177]
theorem zrw_cX5_weigh_32 : zrW 32 cX5_weigh zrk_cX5_weigh_32 := by unfold zrW; decide +kernel
theorem dX5_weigh_32 : decode cX5_weigh 32 = .ok (.invokevirtual 130, 3) := zrD zrw_cX5_weigh_32 (i := 0) (by decide +kernel) rfl
theorem dX5_weigh_35 : decode cX5_weigh 35 = .ok (.goto 4, 3) := zrD zrw_cX5_weigh_32 (i := 3) (by decide +kernel) rfl
theorem dX5_weigh_38 : decode cX5_weigh 38 = .ok (.iconst (-1), 1) := zrD zrw_cX5_weigh_32 (i := 6) (by decide +kernel) rfl
theorem dX5_weigh_39 : decode cX5_weigh 39 = .ok (.iastore, 1) := zrD zrw_cX5_weigh_32 (i := 7) (by decide +kernel) rfl
theorem dX5_weigh_40 : decode cX5_weigh 40 = .ok (.iinc 2 1, 3) := zrD zrw_cX5_weigh_32 (i := 8) (by decide +kernel) rfl
theorem dX5_weigh_43 : decode cX5_weigh 43 = .ok (.goto (-41), 3) := zrD zrw_cX5_weigh_32 (i := 11) (by decide +kernel) rfl
theorem dX5_weigh_46 : decode cX5_weigh 46 = .ok (.return_, 1) := zrD zrw_cX5_weigh_32 (i := 14) (by decide +kernel) rfl
def zrk_cX5_greatestClaim_0 : ByteArray := .mk #[16, 254, 61, 4, 62, 29, 42, 180, 0, 12, 180, 0, 64, 162, 0, 46, 29, 27, 159, 0, 35, 42, 180, 0, 12, 29, 182, 0, 126, 153, 0, 24]
theorem zrw_cX5_greatestClaim_0 : zrW 0 cX5_greatestClaim zrk_cX5_greatestClaim_0 := by unfold zrW; decide +kernel
theorem dX5_greatestClaim_0 : decode cX5_greatestClaim 0 = .ok (.bipush (-2), 2) := zrD zrw_cX5_greatestClaim_0 (i := 0) (by decide +kernel) rfl
theorem dX5_greatestClaim_2 : decode cX5_greatestClaim 2 = .ok (.istore_n 2, 1) := zrD zrw_cX5_greatestClaim_0 (i := 2) (by decide +kernel) rfl
theorem dX5_greatestClaim_3 : decode cX5_greatestClaim 3 = .ok (.iconst 1, 1) := zrD zrw_cX5_greatestClaim_0 (i := 3) (by decide +kernel) rfl
theorem dX5_greatestClaim_4 : decode cX5_greatestClaim 4 = .ok (.istore_n 3, 1) := zrD zrw_cX5_greatestClaim_0 (i := 4) (by decide +kernel) rfl
theorem dX5_greatestClaim_5 : decode cX5_greatestClaim 5 = .ok (.iload_n 3, 1) := zrD zrw_cX5_greatestClaim_0 (i := 5) (by decide +kernel) rfl
theorem dX5_greatestClaim_6 : decode cX5_greatestClaim 6 = .ok (.aload_n 0, 1) := zrD zrw_cX5_greatestClaim_0 (i := 6) (by decide +kernel) rfl
theorem dX5_greatestClaim_7 : decode cX5_greatestClaim 7 = .ok (.getfield 12, 3) := zrD zrw_cX5_greatestClaim_0 (i := 7) (by decide +kernel) rfl
theorem dX5_greatestClaim_10 : decode cX5_greatestClaim 10 = .ok (.getfield 64, 3) := zrD zrw_cX5_greatestClaim_0 (i := 10) (by decide +kernel) rfl
theorem dX5_greatestClaim_13 : decode cX5_greatestClaim 13 = .ok (.if_icmp .ge 46, 3) := zrD zrw_cX5_greatestClaim_0 (i := 13) (by decide +kernel) rfl
theorem dX5_greatestClaim_16 : decode cX5_greatestClaim 16 = .ok (.iload_n 3, 1) := zrD zrw_cX5_greatestClaim_0 (i := 16) (by decide +kernel) rfl
theorem dX5_greatestClaim_17 : decode cX5_greatestClaim 17 = .ok (.iload_n 1, 1) := zrD zrw_cX5_greatestClaim_0 (i := 17) (by decide +kernel) rfl
theorem dX5_greatestClaim_18 : decode cX5_greatestClaim 18 = .ok (.if_icmp .eq 35, 3) := zrD zrw_cX5_greatestClaim_0 (i := 18) (by decide +kernel) rfl
theorem dX5_greatestClaim_21 : decode cX5_greatestClaim 21 = .ok (.aload_n 0, 1) := zrD zrw_cX5_greatestClaim_0 (i := 21) (by decide +kernel) rfl
theorem dX5_greatestClaim_22 : decode cX5_greatestClaim 22 = .ok (.getfield 12, 3) := zrD zrw_cX5_greatestClaim_0 (i := 22) (by decide +kernel) rfl
theorem dX5_greatestClaim_25 : decode cX5_greatestClaim 25 = .ok (.iload_n 3, 1) := zrD zrw_cX5_greatestClaim_0 (i := 25) (by decide +kernel) rfl
theorem dX5_greatestClaim_26 : decode cX5_greatestClaim 26 = .ok (.invokevirtual 126, 3) := zrD zrw_cX5_greatestClaim_0 (i := 26) (by decide +kernel) rfl
theorem dX5_greatestClaim_29 : decode cX5_greatestClaim 29 = .ok (.ifCond .eq 24, 3) := zrD zrw_cX5_greatestClaim_0 (i := 29) (by decide +kernel) rfl
def zrk_cX5_greatestClaim_32 : ByteArray := .mk #[28, 155, 0, 18, 42, 180, 0, 32, 29, 46, 42, 180, 0, 32, 28, 46, 164, 0, 5, 29, 61, 132, 3, 1, 167, 255, 205, 28, 172]
theorem zrw_cX5_greatestClaim_32 : zrW 32 cX5_greatestClaim zrk_cX5_greatestClaim_32 := by unfold zrW; decide +kernel
theorem dX5_greatestClaim_32 : decode cX5_greatestClaim 32 = .ok (.iload_n 2, 1) := zrD zrw_cX5_greatestClaim_32 (i := 0) (by decide +kernel) rfl
theorem dX5_greatestClaim_33 : decode cX5_greatestClaim 33 = .ok (.ifCond .lt 18, 3) := zrD zrw_cX5_greatestClaim_32 (i := 1) (by decide +kernel) rfl
theorem dX5_greatestClaim_36 : decode cX5_greatestClaim 36 = .ok (.aload_n 0, 1) := zrD zrw_cX5_greatestClaim_32 (i := 4) (by decide +kernel) rfl
theorem dX5_greatestClaim_37 : decode cX5_greatestClaim 37 = .ok (.getfield 32, 3) := zrD zrw_cX5_greatestClaim_32 (i := 5) (by decide +kernel) rfl
theorem dX5_greatestClaim_40 : decode cX5_greatestClaim 40 = .ok (.iload_n 3, 1) := zrD zrw_cX5_greatestClaim_32 (i := 8) (by decide +kernel) rfl
theorem dX5_greatestClaim_41 : decode cX5_greatestClaim 41 = .ok (.iaload, 1) := zrD zrw_cX5_greatestClaim_32 (i := 9) (by decide +kernel) rfl
theorem dX5_greatestClaim_42 : decode cX5_greatestClaim 42 = .ok (.aload_n 0, 1) := zrD zrw_cX5_greatestClaim_32 (i := 10) (by decide +kernel) rfl
theorem dX5_greatestClaim_43 : decode cX5_greatestClaim 43 = .ok (.getfield 32, 3) := zrD zrw_cX5_greatestClaim_32 (i := 11) (by decide +kernel) rfl
theorem dX5_greatestClaim_46 : decode cX5_greatestClaim 46 = .ok (.iload_n 2, 1) := zrD zrw_cX5_greatestClaim_32 (i := 14) (by decide +kernel) rfl
theorem dX5_greatestClaim_47 : decode cX5_greatestClaim 47 = .ok (.iaload, 1) := zrD zrw_cX5_greatestClaim_32 (i := 15) (by decide +kernel) rfl
theorem dX5_greatestClaim_48 : decode cX5_greatestClaim 48 = .ok (.if_icmp .le 5, 3) := zrD zrw_cX5_greatestClaim_32 (i := 16) (by decide +kernel) rfl
theorem dX5_greatestClaim_51 : decode cX5_greatestClaim 51 = .ok (.iload_n 3, 1) := zrD zrw_cX5_greatestClaim_32 (i := 19) (by decide +kernel) rfl
theorem dX5_greatestClaim_52 : decode cX5_greatestClaim 52 = .ok (.istore_n 2, 1) := zrD zrw_cX5_greatestClaim_32 (i := 20) (by decide +kernel) rfl
theorem dX5_greatestClaim_53 : decode cX5_greatestClaim 53 = .ok (.iinc 3 1, 3) := zrD zrw_cX5_greatestClaim_32 (i := 21) (by decide +kernel) rfl
theorem dX5_greatestClaim_56 : decode cX5_greatestClaim 56 = .ok (.goto (-51), 3) := zrD zrw_cX5_greatestClaim_32 (i := 24) (by decide +kernel) rfl
theorem dX5_greatestClaim_59 : decode cX5_greatestClaim 59 = .ok (.iload_n 2, 1) := zrD zrw_cX5_greatestClaim_32 (i := 27) (by decide +kernel) rfl
theorem dX5_greatestClaim_60 : decode cX5_greatestClaim 60 = .ok (.ireturn, 1) := zrD zrw_cX5_greatestClaim_32 (i := 28) (by decide +kernel) rfl
def zrk_cX5_rankOf_0 : ByteArray := .mk #[3, 61, 4, 62, 29, 42, 180, 0, 12, 180, 0, 64, 162, 0, 47, 42, 180, 0, 32, 29, 46, 42, 180, 0, 32, 27, 46, 163, 0, 23, 42]
theorem zrw_cX5_rankOf_0 : zrW 0 cX5_rankOf zrk_cX5_rankOf_0 := by unfold zrW; decide +kernel
theorem dX5_rankOf_0 : decode cX5_rankOf 0 = .ok (.iconst 0, 1) := zrD zrw_cX5_rankOf_0 (i := 0) (by decide +kernel) rfl
theorem dX5_rankOf_1 : decode cX5_rankOf 1 = .ok (.istore_n 2, 1) := zrD zrw_cX5_rankOf_0 (i := 1) (by decide +kernel) rfl
theorem dX5_rankOf_2 : decode cX5_rankOf 2 = .ok (.iconst 1, 1) := zrD zrw_cX5_rankOf_0 (i := 2) (by decide +kernel) rfl
theorem dX5_rankOf_3 : decode cX5_rankOf 3 = .ok (.istore_n 3, 1) := zrD zrw_cX5_rankOf_0 (i := 3) (by decide +kernel) rfl
theorem dX5_rankOf_4 : decode cX5_rankOf 4 = .ok (.iload_n 3, 1) := zrD zrw_cX5_rankOf_0 (i := 4) (by decide +kernel) rfl
theorem dX5_rankOf_5 : decode cX5_rankOf 5 = .ok (.aload_n 0, 1) := zrD zrw_cX5_rankOf_0 (i := 5) (by decide +kernel) rfl
theorem dX5_rankOf_6 : decode cX5_rankOf 6 = .ok (.getfield 12, 3) := zrD zrw_cX5_rankOf_0 (i := 6) (by decide +kernel) rfl
theorem dX5_rankOf_9 : decode cX5_rankOf 9 = .ok (.getfield 64, 3) := zrD zrw_cX5_rankOf_0 (i := 9) (by decide +kernel) rfl
theorem dX5_rankOf_12 : decode cX5_rankOf 12 = .ok (.if_icmp .ge 47, 3) := zrD zrw_cX5_rankOf_0 (i := 12) (by decide +kernel) rfl
theorem dX5_rankOf_15 : decode cX5_rankOf 15 = .ok (.aload_n 0, 1) := zrD zrw_cX5_rankOf_0 (i := 15) (by decide +kernel) rfl
theorem dX5_rankOf_16 : decode cX5_rankOf 16 = .ok (.getfield 32, 3) := zrD zrw_cX5_rankOf_0 (i := 16) (by decide +kernel) rfl
theorem dX5_rankOf_19 : decode cX5_rankOf 19 = .ok (.iload_n 3, 1) := zrD zrw_cX5_rankOf_0 (i := 19) (by decide +kernel) rfl
theorem dX5_rankOf_20 : decode cX5_rankOf 20 = .ok (.iaload, 1) := zrD zrw_cX5_rankOf_0 (i := 20) (by decide +kernel) rfl
theorem dX5_rankOf_21 : decode cX5_rankOf 21 = .ok (.aload_n 0, 1) := zrD zrw_cX5_rankOf_0 (i := 21) (by decide +kernel) rfl
theorem dX5_rankOf_22 : decode cX5_rankOf 22 = .ok (.getfield 32, 3) := zrD zrw_cX5_rankOf_0 (i := 22) (by decide +kernel) rfl
theorem dX5_rankOf_25 : decode cX5_rankOf 25 = .ok (.iload_n 1, 1) := zrD zrw_cX5_rankOf_0 (i := 25) (by decide +kernel) rfl
theorem dX5_rankOf_26 : decode cX5_rankOf 26 = .ok (.iaload, 1) := zrD zrw_cX5_rankOf_0 (i := 26) (by decide +kernel) rfl
theorem dX5_rankOf_27 : decode cX5_rankOf 27 = .ok (.if_icmp .gt 23, 3) := zrD zrw_cX5_rankOf_0 (i := 27) (by decide +kernel) rfl
theorem dX5_rankOf_30 : decode cX5_rankOf 30 = .ok (.aload_n 0, 1) := zrD zrw_cX5_rankOf_0 (i := 30) (by decide +kernel) rfl
def zrk_cX5_rankOf_31 : ByteArray := .mk #[180, 0, 32, 29, 46, 42, 180, 0, 32, 27, 46, 160, 0, 11, 29, 27, 162, 0, 6, 132, 2, 1, 132, 3, 1, 167, 255, 204, 28, 172]
theorem zrw_cX5_rankOf_31 : zrW 31 cX5_rankOf zrk_cX5_rankOf_31 := by unfold zrW; decide +kernel
theorem dX5_rankOf_31 : decode cX5_rankOf 31 = .ok (.getfield 32, 3) := zrD zrw_cX5_rankOf_31 (i := 0) (by decide +kernel) rfl
theorem dX5_rankOf_34 : decode cX5_rankOf 34 = .ok (.iload_n 3, 1) := zrD zrw_cX5_rankOf_31 (i := 3) (by decide +kernel) rfl
theorem dX5_rankOf_35 : decode cX5_rankOf 35 = .ok (.iaload, 1) := zrD zrw_cX5_rankOf_31 (i := 4) (by decide +kernel) rfl
theorem dX5_rankOf_36 : decode cX5_rankOf 36 = .ok (.aload_n 0, 1) := zrD zrw_cX5_rankOf_31 (i := 5) (by decide +kernel) rfl
theorem dX5_rankOf_37 : decode cX5_rankOf 37 = .ok (.getfield 32, 3) := zrD zrw_cX5_rankOf_31 (i := 6) (by decide +kernel) rfl
theorem dX5_rankOf_40 : decode cX5_rankOf 40 = .ok (.iload_n 1, 1) := zrD zrw_cX5_rankOf_31 (i := 9) (by decide +kernel) rfl
theorem dX5_rankOf_41 : decode cX5_rankOf 41 = .ok (.iaload, 1) := zrD zrw_cX5_rankOf_31 (i := 10) (by decide +kernel) rfl
theorem dX5_rankOf_42 : decode cX5_rankOf 42 = .ok (.if_icmp .ne 11, 3) := zrD zrw_cX5_rankOf_31 (i := 11) (by decide +kernel) rfl
theorem dX5_rankOf_45 : decode cX5_rankOf 45 = .ok (.iload_n 3, 1) := zrD zrw_cX5_rankOf_31 (i := 14) (by decide +kernel) rfl
theorem dX5_rankOf_46 : decode cX5_rankOf 46 = .ok (.iload_n 1, 1) := zrD zrw_cX5_rankOf_31 (i := 15) (by decide +kernel) rfl
theorem dX5_rankOf_47 : decode cX5_rankOf 47 = .ok (.if_icmp .ge 6, 3) := zrD zrw_cX5_rankOf_31 (i := 16) (by decide +kernel) rfl
theorem dX5_rankOf_50 : decode cX5_rankOf 50 = .ok (.iinc 2 1, 3) := zrD zrw_cX5_rankOf_31 (i := 19) (by decide +kernel) rfl
theorem dX5_rankOf_53 : decode cX5_rankOf 53 = .ok (.iinc 3 1, 3) := zrD zrw_cX5_rankOf_31 (i := 22) (by decide +kernel) rfl
theorem dX5_rankOf_56 : decode cX5_rankOf 56 = .ok (.goto (-52), 3) := zrD zrw_cX5_rankOf_31 (i := 25) (by decide +kernel) rfl
theorem dX5_rankOf_59 : decode cX5_rankOf 59 = .ok (.iload_n 2, 1) := zrD zrw_cX5_rankOf_31 (i := 28) (by decide +kernel) rfl
theorem dX5_rankOf_60 : decode cX5_rankOf 60 = .ok (.ireturn, 1) := zrD zrw_cX5_rankOf_31 (i := 29) (by decide +kernel) rfl
def zrk_cX5_winnerBy_0 : ByteArray := .mk #[42, 27, 182, 0, 134, 42, 2, 182, 0, 137, 172]
theorem zrw_cX5_winnerBy_0 : zrW 0 cX5_winnerBy zrk_cX5_winnerBy_0 := by unfold zrW; decide +kernel
theorem dX5_winnerBy_0 : decode cX5_winnerBy 0 = .ok (.aload_n 0, 1) := zrD zrw_cX5_winnerBy_0 (i := 0) (by decide +kernel) rfl
theorem dX5_winnerBy_1 : decode cX5_winnerBy 1 = .ok (.iload_n 1, 1) := zrD zrw_cX5_winnerBy_0 (i := 1) (by decide +kernel) rfl
theorem dX5_winnerBy_2 : decode cX5_winnerBy 2 = .ok (.invokevirtual 134, 3) := zrD zrw_cX5_winnerBy_0 (i := 2) (by decide +kernel) rfl
theorem dX5_winnerBy_5 : decode cX5_winnerBy 5 = .ok (.aload_n 0, 1) := zrD zrw_cX5_winnerBy_0 (i := 5) (by decide +kernel) rfl
theorem dX5_winnerBy_6 : decode cX5_winnerBy 6 = .ok (.iconst (-1), 1) := zrD zrw_cX5_winnerBy_0 (i := 6) (by decide +kernel) rfl
theorem dX5_winnerBy_7 : decode cX5_winnerBy 7 = .ok (.invokevirtual 137, 3) := zrD zrw_cX5_winnerBy_0 (i := 7) (by decide +kernel) rfl
theorem dX5_winnerBy_10 : decode cX5_winnerBy 10 = .ok (.ireturn, 1) := zrD zrw_cX5_winnerBy_0 (i := 10) (by decide +kernel) rfl
def zrk_cX5_rainsOf_0 : ByteArray := .mk #[3, 61, 3, 62, 29, 42, 180, 0, 12, 180, 0, 64, 162, 0, 26, 27, 29, 184, 0, 85, 153, 0, 12, 28, 42, 180, 0, 25, 29, 46, 96, 61]
theorem zrw_cX5_rainsOf_0 : zrW 0 cX5_rainsOf zrk_cX5_rainsOf_0 := by unfold zrW; decide +kernel
theorem dX5_rainsOf_0 : decode cX5_rainsOf 0 = .ok (.iconst 0, 1) := zrD zrw_cX5_rainsOf_0 (i := 0) (by decide +kernel) rfl
theorem dX5_rainsOf_1 : decode cX5_rainsOf 1 = .ok (.istore_n 2, 1) := zrD zrw_cX5_rainsOf_0 (i := 1) (by decide +kernel) rfl
theorem dX5_rainsOf_2 : decode cX5_rainsOf 2 = .ok (.iconst 0, 1) := zrD zrw_cX5_rainsOf_0 (i := 2) (by decide +kernel) rfl
theorem dX5_rainsOf_3 : decode cX5_rainsOf 3 = .ok (.istore_n 3, 1) := zrD zrw_cX5_rainsOf_0 (i := 3) (by decide +kernel) rfl
theorem dX5_rainsOf_4 : decode cX5_rainsOf 4 = .ok (.iload_n 3, 1) := zrD zrw_cX5_rainsOf_0 (i := 4) (by decide +kernel) rfl
theorem dX5_rainsOf_5 : decode cX5_rainsOf 5 = .ok (.aload_n 0, 1) := zrD zrw_cX5_rainsOf_0 (i := 5) (by decide +kernel) rfl
theorem dX5_rainsOf_6 : decode cX5_rainsOf 6 = .ok (.getfield 12, 3) := zrD zrw_cX5_rainsOf_0 (i := 6) (by decide +kernel) rfl
theorem dX5_rainsOf_9 : decode cX5_rainsOf 9 = .ok (.getfield 64, 3) := zrD zrw_cX5_rainsOf_0 (i := 9) (by decide +kernel) rfl
theorem dX5_rainsOf_12 : decode cX5_rainsOf 12 = .ok (.if_icmp .ge 26, 3) := zrD zrw_cX5_rainsOf_0 (i := 12) (by decide +kernel) rfl
theorem dX5_rainsOf_15 : decode cX5_rainsOf 15 = .ok (.iload_n 1, 1) := zrD zrw_cX5_rainsOf_0 (i := 15) (by decide +kernel) rfl
theorem dX5_rainsOf_16 : decode cX5_rainsOf 16 = .ok (.iload_n 3, 1) := zrD zrw_cX5_rainsOf_0 (i := 16) (by decide +kernel) rfl
theorem dX5_rainsOf_17 : decode cX5_rainsOf 17 = .ok (.invokestatic 85, 3) := zrD zrw_cX5_rainsOf_0 (i := 17) (by decide +kernel) rfl
theorem dX5_rainsOf_20 : decode cX5_rainsOf 20 = .ok (.ifCond .eq 12, 3) := zrD zrw_cX5_rainsOf_0 (i := 20) (by decide +kernel) rfl
theorem dX5_rainsOf_23 : decode cX5_rainsOf 23 = .ok (.iload_n 2, 1) := zrD zrw_cX5_rainsOf_0 (i := 23) (by decide +kernel) rfl
theorem dX5_rainsOf_24 : decode cX5_rainsOf 24 = .ok (.aload_n 0, 1) := zrD zrw_cX5_rainsOf_0 (i := 24) (by decide +kernel) rfl
theorem dX5_rainsOf_25 : decode cX5_rainsOf 25 = .ok (.getfield 25, 3) := zrD zrw_cX5_rainsOf_0 (i := 25) (by decide +kernel) rfl
theorem dX5_rainsOf_28 : decode cX5_rainsOf 28 = .ok (.iload_n 3, 1) := zrD zrw_cX5_rainsOf_0 (i := 28) (by decide +kernel) rfl
theorem dX5_rainsOf_29 : decode cX5_rainsOf 29 = .ok (.iaload, 1) := zrD zrw_cX5_rainsOf_0 (i := 29) (by decide +kernel) rfl
theorem dX5_rainsOf_30 : decode cX5_rainsOf 30 = .ok (.iadd, 1) := zrD zrw_cX5_rainsOf_0 (i := 30) (by decide +kernel) rfl
theorem dX5_rainsOf_31 : decode cX5_rainsOf 31 = .ok (.istore_n 2, 1) := zrD zrw_cX5_rainsOf_0 (i := 31) (by decide +kernel) rfl
def zrk_cX5_rainsOf_32 : ByteArray := .mk #[132, 3, 1, 167, 255, 225, 28, 172]
theorem zrw_cX5_rainsOf_32 : zrW 32 cX5_rainsOf zrk_cX5_rainsOf_32 := by unfold zrW; decide +kernel
theorem dX5_rainsOf_32 : decode cX5_rainsOf 32 = .ok (.iinc 3 1, 3) := zrD zrw_cX5_rainsOf_32 (i := 0) (by decide +kernel) rfl
theorem dX5_rainsOf_35 : decode cX5_rainsOf 35 = .ok (.goto (-31), 3) := zrD zrw_cX5_rainsOf_32 (i := 3) (by decide +kernel) rfl
theorem dX5_rainsOf_38 : decode cX5_rainsOf 38 = .ok (.iload_n 2, 1) := zrD zrw_cX5_rainsOf_32 (i := 6) (by decide +kernel) rfl
theorem dX5_rainsOf_39 : decode cX5_rainsOf 39 = .ok (.ireturn, 1) := zrD zrw_cX5_rainsOf_32 (i := 7) (by decide +kernel) rfl
def zrk_cX5_endMonth_0 : ByteArray := .mk #[42, 42, 180, 0, 39, 180, 0, 140, 182, 0, 143, 60, 27, 158, 0, 18, 42, 180, 0, 39, 27, 42, 180, 0, 35, 180, 0, 146, 182, 0, 149, 42]
theorem zrw_cX5_endMonth_0 : zrW 0 cX5_endMonth zrk_cX5_endMonth_0 := by unfold zrW; decide +kernel
theorem dX5_endMonth_0 : decode cX5_endMonth 0 = .ok (.aload_n 0, 1) := zrD zrw_cX5_endMonth_0 (i := 0) (by decide +kernel) rfl
theorem dX5_endMonth_1 : decode cX5_endMonth 1 = .ok (.aload_n 0, 1) := zrD zrw_cX5_endMonth_0 (i := 1) (by decide +kernel) rfl
theorem dX5_endMonth_2 : decode cX5_endMonth 2 = .ok (.getfield 39, 3) := zrD zrw_cX5_endMonth_0 (i := 2) (by decide +kernel) rfl
theorem dX5_endMonth_5 : decode cX5_endMonth 5 = .ok (.getfield 140, 3) := zrD zrw_cX5_endMonth_0 (i := 5) (by decide +kernel) rfl
theorem dX5_endMonth_8 : decode cX5_endMonth 8 = .ok (.invokevirtual 143, 3) := zrD zrw_cX5_endMonth_0 (i := 8) (by decide +kernel) rfl
theorem dX5_endMonth_11 : decode cX5_endMonth 11 = .ok (.istore_n 1, 1) := zrD zrw_cX5_endMonth_0 (i := 11) (by decide +kernel) rfl
theorem dX5_endMonth_12 : decode cX5_endMonth 12 = .ok (.iload_n 1, 1) := zrD zrw_cX5_endMonth_0 (i := 12) (by decide +kernel) rfl
theorem dX5_endMonth_13 : decode cX5_endMonth 13 = .ok (.ifCond .le 18, 3) := zrD zrw_cX5_endMonth_0 (i := 13) (by decide +kernel) rfl
theorem dX5_endMonth_16 : decode cX5_endMonth 16 = .ok (.aload_n 0, 1) := zrD zrw_cX5_endMonth_0 (i := 16) (by decide +kernel) rfl
theorem dX5_endMonth_17 : decode cX5_endMonth 17 = .ok (.getfield 39, 3) := zrD zrw_cX5_endMonth_0 (i := 17) (by decide +kernel) rfl
theorem dX5_endMonth_20 : decode cX5_endMonth 20 = .ok (.iload_n 1, 1) := zrD zrw_cX5_endMonth_0 (i := 20) (by decide +kernel) rfl
theorem dX5_endMonth_21 : decode cX5_endMonth 21 = .ok (.aload_n 0, 1) := zrD zrw_cX5_endMonth_0 (i := 21) (by decide +kernel) rfl
theorem dX5_endMonth_22 : decode cX5_endMonth 22 = .ok (.getfield 35, 3) := zrD zrw_cX5_endMonth_0 (i := 22) (by decide +kernel) rfl
theorem dX5_endMonth_25 : decode cX5_endMonth 25 = .ok (.getfield 146, 3) := zrD zrw_cX5_endMonth_0 (i := 25) (by decide +kernel) rfl
theorem dX5_endMonth_28 : decode cX5_endMonth 28 = .ok (.invokevirtual 149, 3) := zrD zrw_cX5_endMonth_0 (i := 28) (by decide +kernel) rfl
theorem dX5_endMonth_31 : decode cX5_endMonth 31 = .ok (.aload_n 0, 1) := zrD zrw_cX5_endMonth_0 (i := 31) (by decide +kernel) rfl
def zrk_cX5_endMonth_32 : ByteArray := .mk #[180, 0, 39, 89, 180, 0, 153, 4, 96, 181, 0, 153, 177]
theorem zrw_cX5_endMonth_32 : zrW 32 cX5_endMonth zrk_cX5_endMonth_32 := by unfold zrW; decide +kernel
theorem dX5_endMonth_32 : decode cX5_endMonth 32 = .ok (.getfield 39, 3) := zrD zrw_cX5_endMonth_32 (i := 0) (by decide +kernel) rfl
theorem dX5_endMonth_35 : decode cX5_endMonth 35 = .ok (.dup, 1) := zrD zrw_cX5_endMonth_32 (i := 3) (by decide +kernel) rfl
theorem dX5_endMonth_36 : decode cX5_endMonth 36 = .ok (.getfield 153, 3) := zrD zrw_cX5_endMonth_32 (i := 4) (by decide +kernel) rfl
theorem dX5_endMonth_39 : decode cX5_endMonth 39 = .ok (.iconst 1, 1) := zrD zrw_cX5_endMonth_32 (i := 7) (by decide +kernel) rfl
theorem dX5_endMonth_40 : decode cX5_endMonth 40 = .ok (.iadd, 1) := zrD zrw_cX5_endMonth_32 (i := 8) (by decide +kernel) rfl
theorem dX5_endMonth_41 : decode cX5_endMonth 41 = .ok (.putfield 153, 3) := zrD zrw_cX5_endMonth_32 (i := 9) (by decide +kernel) rfl
theorem dX5_endMonth_44 : decode cX5_endMonth 44 = .ok (.return_, 1) := zrD zrw_cX5_endMonth_32 (i := 12) (by decide +kernel) rfl
def zrk_cX5_goOn_0 : ByteArray := .mk #[42, 182, 0, 156, 42, 3, 182, 0, 47, 177]
theorem zrw_cX5_goOn_0 : zrW 0 cX5_goOn zrk_cX5_goOn_0 := by unfold zrW; decide +kernel
theorem dX5_goOn_0 : decode cX5_goOn 0 = .ok (.aload_n 0, 1) := zrD zrw_cX5_goOn_0 (i := 0) (by decide +kernel) rfl
theorem dX5_goOn_1 : decode cX5_goOn 1 = .ok (.invokevirtual 156, 3) := zrD zrw_cX5_goOn_0 (i := 1) (by decide +kernel) rfl
theorem dX5_goOn_4 : decode cX5_goOn 4 = .ok (.aload_n 0, 1) := zrD zrw_cX5_goOn_0 (i := 4) (by decide +kernel) rfl
theorem dX5_goOn_5 : decode cX5_goOn 5 = .ok (.iconst 0, 1) := zrD zrw_cX5_goOn_0 (i := 5) (by decide +kernel) rfl
theorem dX5_goOn_6 : decode cX5_goOn 6 = .ok (.invokevirtual 47, 3) := zrD zrw_cX5_goOn_0 (i := 6) (by decide +kernel) rfl
theorem dX5_goOn_9 : decode cX5_goOn 9 = .ok (.return_, 1) := zrD zrw_cX5_goOn_0 (i := 9) (by decide +kernel) rfl
def zrk_cX5_goThrough_0 : ByteArray := .mk #[42, 43, 44, 182, 0, 43, 3, 54, 5, 21, 5, 29, 162, 0, 38, 42, 43, 21, 4, 44, 180, 0, 153, 182, 0, 159, 153, 0, 10, 43]
theorem zrw_cX5_goThrough_0 : zrW 0 cX5_goThrough zrk_cX5_goThrough_0 := by unfold zrW; decide +kernel
theorem dX5_goThrough_0 : decode cX5_goThrough 0 = .ok (.aload_n 0, 1) := zrD zrw_cX5_goThrough_0 (i := 0) (by decide +kernel) rfl
theorem dX5_goThrough_1 : decode cX5_goThrough 1 = .ok (.aload_n 1, 1) := zrD zrw_cX5_goThrough_0 (i := 1) (by decide +kernel) rfl
theorem dX5_goThrough_2 : decode cX5_goThrough 2 = .ok (.aload_n 2, 1) := zrD zrw_cX5_goThrough_0 (i := 2) (by decide +kernel) rfl
theorem dX5_goThrough_3 : decode cX5_goThrough 3 = .ok (.invokevirtual 43, 3) := zrD zrw_cX5_goThrough_0 (i := 3) (by decide +kernel) rfl
theorem dX5_goThrough_6 : decode cX5_goThrough 6 = .ok (.iconst 0, 1) := zrD zrw_cX5_goThrough_0 (i := 6) (by decide +kernel) rfl
theorem dX5_goThrough_7 : decode cX5_goThrough 7 = .ok (.istore 5, 2) := zrD zrw_cX5_goThrough_0 (i := 7) (by decide +kernel) rfl
theorem dX5_goThrough_9 : decode cX5_goThrough 9 = .ok (.iload 5, 2) := zrD zrw_cX5_goThrough_0 (i := 9) (by decide +kernel) rfl
theorem dX5_goThrough_11 : decode cX5_goThrough 11 = .ok (.iload_n 3, 1) := zrD zrw_cX5_goThrough_0 (i := 11) (by decide +kernel) rfl
theorem dX5_goThrough_12 : decode cX5_goThrough 12 = .ok (.if_icmp .ge 38, 3) := zrD zrw_cX5_goThrough_0 (i := 12) (by decide +kernel) rfl
theorem dX5_goThrough_15 : decode cX5_goThrough 15 = .ok (.aload_n 0, 1) := zrD zrw_cX5_goThrough_0 (i := 15) (by decide +kernel) rfl
theorem dX5_goThrough_16 : decode cX5_goThrough 16 = .ok (.aload_n 1, 1) := zrD zrw_cX5_goThrough_0 (i := 16) (by decide +kernel) rfl
theorem dX5_goThrough_17 : decode cX5_goThrough 17 = .ok (.iload 4, 2) := zrD zrw_cX5_goThrough_0 (i := 17) (by decide +kernel) rfl
theorem dX5_goThrough_19 : decode cX5_goThrough 19 = .ok (.aload_n 2, 1) := zrD zrw_cX5_goThrough_0 (i := 19) (by decide +kernel) rfl
theorem dX5_goThrough_20 : decode cX5_goThrough 20 = .ok (.getfield 153, 3) := zrD zrw_cX5_goThrough_0 (i := 20) (by decide +kernel) rfl
theorem dX5_goThrough_23 : decode cX5_goThrough 23 = .ok (.invokevirtual 159, 3) := zrD zrw_cX5_goThrough_0 (i := 23) (by decide +kernel) rfl
theorem dX5_goThrough_26 : decode cX5_goThrough 26 = .ok (.ifCond .eq 10, 3) := zrD zrw_cX5_goThrough_0 (i := 26) (by decide +kernel) rfl
theorem dX5_goThrough_29 : decode cX5_goThrough 29 = .ok (.aload_n 1, 1) := zrD zrw_cX5_goThrough_0 (i := 29) (by decide +kernel) rfl
def zrk_cX5_goThrough_30 : ByteArray := .mk #[180, 0, 162, 167, 0, 4, 3, 182, 0, 47, 42, 182, 0, 156, 132, 5, 1, 167, 255, 218, 177]
theorem zrw_cX5_goThrough_30 : zrW 30 cX5_goThrough zrk_cX5_goThrough_30 := by unfold zrW; decide +kernel
theorem dX5_goThrough_30 : decode cX5_goThrough 30 = .ok (.getfield 162, 3) := zrD zrw_cX5_goThrough_30 (i := 0) (by decide +kernel) rfl
theorem dX5_goThrough_33 : decode cX5_goThrough 33 = .ok (.goto 4, 3) := zrD zrw_cX5_goThrough_30 (i := 3) (by decide +kernel) rfl
theorem dX5_goThrough_36 : decode cX5_goThrough 36 = .ok (.iconst 0, 1) := zrD zrw_cX5_goThrough_30 (i := 6) (by decide +kernel) rfl
theorem dX5_goThrough_37 : decode cX5_goThrough 37 = .ok (.invokevirtual 47, 3) := zrD zrw_cX5_goThrough_30 (i := 7) (by decide +kernel) rfl
theorem dX5_goThrough_40 : decode cX5_goThrough 40 = .ok (.aload_n 0, 1) := zrD zrw_cX5_goThrough_30 (i := 10) (by decide +kernel) rfl
theorem dX5_goThrough_41 : decode cX5_goThrough 41 = .ok (.invokevirtual 156, 3) := zrD zrw_cX5_goThrough_30 (i := 11) (by decide +kernel) rfl
theorem dX5_goThrough_44 : decode cX5_goThrough 44 = .ok (.iinc 5 1, 3) := zrD zrw_cX5_goThrough_30 (i := 14) (by decide +kernel) rfl
theorem dX5_goThrough_47 : decode cX5_goThrough 47 = .ok (.goto (-38), 3) := zrD zrw_cX5_goThrough_30 (i := 17) (by decide +kernel) rfl
theorem dX5_goThrough_50 : decode cX5_goThrough 50 = .ok (.return_, 1) := zrD zrw_cX5_goThrough_30 (i := 20) (by decide +kernel) rfl
def zrk_cX6_init_0 : ByteArray := .mk #[42, 183, 0, 3, 42, 3, 181, 0, 9, 42, 16, 12]
theorem zrw_cX6_init_0 : zrW 0 cX6_init zrk_cX6_init_0 := by unfold zrW; decide +kernel
theorem dX6_init_0 : decode cX6_init 0 = .ok (.aload_n 0, 1) := zrD zrw_cX6_init_0 (i := 0) (by decide +kernel) rfl
theorem dX6_init_1 : decode cX6_init 1 = .ok (.invokespecial 3, 3) := zrD zrw_cX6_init_0 (i := 1) (by decide +kernel) rfl
theorem dX6_init_4 : decode cX6_init 4 = .ok (.aload_n 0, 1) := zrD zrw_cX6_init_0 (i := 4) (by decide +kernel) rfl
theorem dX6_init_5 : decode cX6_init 5 = .ok (.iconst 0, 1) := zrD zrw_cX6_init_0 (i := 5) (by decide +kernel) rfl
theorem dX6_init_6 : decode cX6_init 6 = .ok (.putfield 9, 3) := zrD zrw_cX6_init_0 (i := 6) (by decide +kernel) rfl
theorem dX6_init_9 : decode cX6_init 9 = .ok (.aload_n 0, 1) := zrD zrw_cX6_init_0 (i := 9) (by decide +kernel) rfl
theorem dX6_init_10 : decode cX6_init 10 = .ok (.bipush 12, 2) := zrD zrw_cX6_init_0 (i := 10) (by decide +kernel) rfl
theorem dX6_init_12 : decode cX6_init 12 = .ok (.newarray .int, 2) := by decide +kernel
def zrk_cX6_init_14 : ByteArray := .mk #[181, 0, 15, 42, 16, 12]
theorem zrw_cX6_init_14 : zrW 14 cX6_init zrk_cX6_init_14 := by unfold zrW; decide +kernel
theorem dX6_init_14 : decode cX6_init 14 = .ok (.putfield 15, 3) := zrD zrw_cX6_init_14 (i := 0) (by decide +kernel) rfl
theorem dX6_init_17 : decode cX6_init 17 = .ok (.aload_n 0, 1) := zrD zrw_cX6_init_14 (i := 3) (by decide +kernel) rfl
theorem dX6_init_18 : decode cX6_init 18 = .ok (.bipush 12, 2) := zrD zrw_cX6_init_14 (i := 4) (by decide +kernel) rfl
theorem dX6_init_20 : decode cX6_init 20 = .ok (.newarray .int, 2) := by decide +kernel
def zrk_cX6_init_22 : ByteArray := .mk #[181, 0, 19, 42, 16, 12]
theorem zrw_cX6_init_22 : zrW 22 cX6_init zrk_cX6_init_22 := by unfold zrW; decide +kernel
theorem dX6_init_22 : decode cX6_init 22 = .ok (.putfield 19, 3) := zrD zrw_cX6_init_22 (i := 0) (by decide +kernel) rfl
theorem dX6_init_25 : decode cX6_init 25 = .ok (.aload_n 0, 1) := zrD zrw_cX6_init_22 (i := 3) (by decide +kernel) rfl
theorem dX6_init_26 : decode cX6_init 26 = .ok (.bipush 12, 2) := zrD zrw_cX6_init_22 (i := 4) (by decide +kernel) rfl
theorem dX6_init_28 : decode cX6_init 28 = .ok (.newarray .int, 2) := by decide +kernel
def zrk_cX6_init_30 : ByteArray := .mk #[181, 0, 22, 42, 16, 12]
theorem zrw_cX6_init_30 : zrW 30 cX6_init zrk_cX6_init_30 := by unfold zrW; decide +kernel
theorem dX6_init_30 : decode cX6_init 30 = .ok (.putfield 22, 3) := zrD zrw_cX6_init_30 (i := 0) (by decide +kernel) rfl
theorem dX6_init_33 : decode cX6_init 33 = .ok (.aload_n 0, 1) := zrD zrw_cX6_init_30 (i := 3) (by decide +kernel) rfl
theorem dX6_init_34 : decode cX6_init 34 = .ok (.bipush 12, 2) := zrD zrw_cX6_init_30 (i := 4) (by decide +kernel) rfl
theorem dX6_init_36 : decode cX6_init 36 = .ok (.newarray .int, 2) := by decide +kernel
def zrk_cX6_init_38 : ByteArray := .mk #[181, 0, 25, 42, 16, 12]
theorem zrw_cX6_init_38 : zrW 38 cX6_init zrk_cX6_init_38 := by unfold zrW; decide +kernel
theorem dX6_init_38 : decode cX6_init 38 = .ok (.putfield 25, 3) := zrD zrw_cX6_init_38 (i := 0) (by decide +kernel) rfl
theorem dX6_init_41 : decode cX6_init 41 = .ok (.aload_n 0, 1) := zrD zrw_cX6_init_38 (i := 3) (by decide +kernel) rfl
theorem dX6_init_42 : decode cX6_init 42 = .ok (.bipush 12, 2) := zrD zrw_cX6_init_38 (i := 4) (by decide +kernel) rfl
theorem dX6_init_44 : decode cX6_init 44 = .ok (.newarray .int, 2) := by decide +kernel
def zrk_cX6_init_46 : ByteArray := .mk #[181, 0, 28, 42, 16, 12]
theorem zrw_cX6_init_46 : zrW 46 cX6_init zrk_cX6_init_46 := by unfold zrW; decide +kernel
theorem dX6_init_46 : decode cX6_init 46 = .ok (.putfield 28, 3) := zrD zrw_cX6_init_46 (i := 0) (by decide +kernel) rfl
theorem dX6_init_49 : decode cX6_init 49 = .ok (.aload_n 0, 1) := zrD zrw_cX6_init_46 (i := 3) (by decide +kernel) rfl
theorem dX6_init_50 : decode cX6_init 50 = .ok (.bipush 12, 2) := zrD zrw_cX6_init_46 (i := 4) (by decide +kernel) rfl
theorem dX6_init_52 : decode cX6_init 52 = .ok (.newarray .int, 2) := by decide +kernel
def zrk_cX6_init_54 : ByteArray := .mk #[181, 0, 31, 177]
theorem zrw_cX6_init_54 : zrW 54 cX6_init zrk_cX6_init_54 := by unfold zrW; decide +kernel
theorem dX6_init_54 : decode cX6_init 54 = .ok (.putfield 31, 3) := zrD zrw_cX6_init_54 (i := 0) (by decide +kernel) rfl
theorem dX6_init_57 : decode cX6_init 57 = .ok (.return_, 1) := zrD zrw_cX6_init_54 (i := 3) (by decide +kernel) rfl
def zrk_cX6_form_0 : ByteArray := .mk #[42, 43, 180, 0, 34, 181, 0, 9, 43, 180, 0, 37, 3, 42, 180, 0, 15, 3, 16, 12, 184, 0, 38, 42, 180, 0, 9, 158, 0, 7, 4]
theorem zrw_cX6_form_0 : zrW 0 cX6_form zrk_cX6_form_0 := by unfold zrW; decide +kernel
theorem dX6_form_0 : decode cX6_form 0 = .ok (.aload_n 0, 1) := zrD zrw_cX6_form_0 (i := 0) (by decide +kernel) rfl
theorem dX6_form_1 : decode cX6_form 1 = .ok (.aload_n 1, 1) := zrD zrw_cX6_form_0 (i := 1) (by decide +kernel) rfl
theorem dX6_form_2 : decode cX6_form 2 = .ok (.getfield 34, 3) := zrD zrw_cX6_form_0 (i := 2) (by decide +kernel) rfl
theorem dX6_form_5 : decode cX6_form 5 = .ok (.putfield 9, 3) := zrD zrw_cX6_form_0 (i := 5) (by decide +kernel) rfl
theorem dX6_form_8 : decode cX6_form 8 = .ok (.aload_n 1, 1) := zrD zrw_cX6_form_0 (i := 8) (by decide +kernel) rfl
theorem dX6_form_9 : decode cX6_form 9 = .ok (.getfield 37, 3) := zrD zrw_cX6_form_0 (i := 9) (by decide +kernel) rfl
theorem dX6_form_12 : decode cX6_form 12 = .ok (.iconst 0, 1) := zrD zrw_cX6_form_0 (i := 12) (by decide +kernel) rfl
theorem dX6_form_13 : decode cX6_form 13 = .ok (.aload_n 0, 1) := zrD zrw_cX6_form_0 (i := 13) (by decide +kernel) rfl
theorem dX6_form_14 : decode cX6_form 14 = .ok (.getfield 15, 3) := zrD zrw_cX6_form_0 (i := 14) (by decide +kernel) rfl
theorem dX6_form_17 : decode cX6_form 17 = .ok (.iconst 0, 1) := zrD zrw_cX6_form_0 (i := 17) (by decide +kernel) rfl
theorem dX6_form_18 : decode cX6_form 18 = .ok (.bipush 12, 2) := zrD zrw_cX6_form_0 (i := 18) (by decide +kernel) rfl
theorem dX6_form_20 : decode cX6_form 20 = .ok (.invokestatic 38, 3) := zrD zrw_cX6_form_0 (i := 20) (by decide +kernel) rfl
theorem dX6_form_23 : decode cX6_form 23 = .ok (.aload_n 0, 1) := zrD zrw_cX6_form_0 (i := 23) (by decide +kernel) rfl
theorem dX6_form_24 : decode cX6_form 24 = .ok (.getfield 9, 3) := zrD zrw_cX6_form_0 (i := 24) (by decide +kernel) rfl
theorem dX6_form_27 : decode cX6_form 27 = .ok (.ifCond .le 7, 3) := zrD zrw_cX6_form_0 (i := 27) (by decide +kernel) rfl
theorem dX6_form_30 : decode cX6_form 30 = .ok (.iconst 1, 1) := zrD zrw_cX6_form_0 (i := 30) (by decide +kernel) rfl
def zrk_cX6_form_31 : ByteArray := .mk #[167, 0, 4, 3, 62, 42, 180, 0, 19, 3, 3, 79, 42, 180, 0, 22, 3, 3, 79, 42, 180, 0, 31, 3, 3, 184, 0, 44, 79, 3, 54, 4]
theorem zrw_cX6_form_31 : zrW 31 cX6_form zrk_cX6_form_31 := by unfold zrW; decide +kernel
theorem dX6_form_31 : decode cX6_form 31 = .ok (.goto 4, 3) := zrD zrw_cX6_form_31 (i := 0) (by decide +kernel) rfl
theorem dX6_form_34 : decode cX6_form 34 = .ok (.iconst 0, 1) := zrD zrw_cX6_form_31 (i := 3) (by decide +kernel) rfl
theorem dX6_form_35 : decode cX6_form 35 = .ok (.istore_n 3, 1) := zrD zrw_cX6_form_31 (i := 4) (by decide +kernel) rfl
theorem dX6_form_36 : decode cX6_form 36 = .ok (.aload_n 0, 1) := zrD zrw_cX6_form_31 (i := 5) (by decide +kernel) rfl
theorem dX6_form_37 : decode cX6_form 37 = .ok (.getfield 19, 3) := zrD zrw_cX6_form_31 (i := 6) (by decide +kernel) rfl
theorem dX6_form_40 : decode cX6_form 40 = .ok (.iconst 0, 1) := zrD zrw_cX6_form_31 (i := 9) (by decide +kernel) rfl
theorem dX6_form_41 : decode cX6_form 41 = .ok (.iconst 0, 1) := zrD zrw_cX6_form_31 (i := 10) (by decide +kernel) rfl
theorem dX6_form_42 : decode cX6_form 42 = .ok (.iastore, 1) := zrD zrw_cX6_form_31 (i := 11) (by decide +kernel) rfl
theorem dX6_form_43 : decode cX6_form 43 = .ok (.aload_n 0, 1) := zrD zrw_cX6_form_31 (i := 12) (by decide +kernel) rfl
theorem dX6_form_44 : decode cX6_form 44 = .ok (.getfield 22, 3) := zrD zrw_cX6_form_31 (i := 13) (by decide +kernel) rfl
theorem dX6_form_47 : decode cX6_form 47 = .ok (.iconst 0, 1) := zrD zrw_cX6_form_31 (i := 16) (by decide +kernel) rfl
theorem dX6_form_48 : decode cX6_form 48 = .ok (.iconst 0, 1) := zrD zrw_cX6_form_31 (i := 17) (by decide +kernel) rfl
theorem dX6_form_49 : decode cX6_form 49 = .ok (.iastore, 1) := zrD zrw_cX6_form_31 (i := 18) (by decide +kernel) rfl
theorem dX6_form_50 : decode cX6_form 50 = .ok (.aload_n 0, 1) := zrD zrw_cX6_form_31 (i := 19) (by decide +kernel) rfl
theorem dX6_form_51 : decode cX6_form 51 = .ok (.getfield 31, 3) := zrD zrw_cX6_form_31 (i := 20) (by decide +kernel) rfl
theorem dX6_form_54 : decode cX6_form 54 = .ok (.iconst 0, 1) := zrD zrw_cX6_form_31 (i := 23) (by decide +kernel) rfl
theorem dX6_form_55 : decode cX6_form 55 = .ok (.iconst 0, 1) := zrD zrw_cX6_form_31 (i := 24) (by decide +kernel) rfl
theorem dX6_form_56 : decode cX6_form 56 = .ok (.invokestatic 44, 3) := zrD zrw_cX6_form_31 (i := 25) (by decide +kernel) rfl
theorem dX6_form_59 : decode cX6_form 59 = .ok (.iastore, 1) := zrD zrw_cX6_form_31 (i := 28) (by decide +kernel) rfl
theorem dX6_form_60 : decode cX6_form 60 = .ok (.iconst 0, 1) := zrD zrw_cX6_form_31 (i := 29) (by decide +kernel) rfl
theorem dX6_form_61 : decode cX6_form 61 = .ok (.istore 4, 2) := zrD zrw_cX6_form_31 (i := 30) (by decide +kernel) rfl
def zrk_cX6_form_63 : ByteArray := .mk #[21, 4, 29, 162, 0, 109, 42, 180, 0, 19, 21, 4, 46, 54, 5, 4, 54, 6, 21, 6, 42, 180, 0, 9, 162, 0, 82, 29, 42, 180, 0, 9]
theorem zrw_cX6_form_63 : zrW 63 cX6_form zrk_cX6_form_63 := by unfold zrW; decide +kernel
theorem dX6_form_63 : decode cX6_form 63 = .ok (.iload 4, 2) := zrD zrw_cX6_form_63 (i := 0) (by decide +kernel) rfl
theorem dX6_form_65 : decode cX6_form 65 = .ok (.iload_n 3, 1) := zrD zrw_cX6_form_63 (i := 2) (by decide +kernel) rfl
theorem dX6_form_66 : decode cX6_form 66 = .ok (.if_icmp .ge 109, 3) := zrD zrw_cX6_form_63 (i := 3) (by decide +kernel) rfl
theorem dX6_form_69 : decode cX6_form 69 = .ok (.aload_n 0, 1) := zrD zrw_cX6_form_63 (i := 6) (by decide +kernel) rfl
theorem dX6_form_70 : decode cX6_form 70 = .ok (.getfield 19, 3) := zrD zrw_cX6_form_63 (i := 7) (by decide +kernel) rfl
theorem dX6_form_73 : decode cX6_form 73 = .ok (.iload 4, 2) := zrD zrw_cX6_form_63 (i := 10) (by decide +kernel) rfl
theorem dX6_form_75 : decode cX6_form 75 = .ok (.iaload, 1) := zrD zrw_cX6_form_63 (i := 12) (by decide +kernel) rfl
theorem dX6_form_76 : decode cX6_form 76 = .ok (.istore 5, 2) := zrD zrw_cX6_form_63 (i := 13) (by decide +kernel) rfl
theorem dX6_form_78 : decode cX6_form 78 = .ok (.iconst 1, 1) := zrD zrw_cX6_form_63 (i := 15) (by decide +kernel) rfl
theorem dX6_form_79 : decode cX6_form 79 = .ok (.istore 6, 2) := zrD zrw_cX6_form_63 (i := 16) (by decide +kernel) rfl
theorem dX6_form_81 : decode cX6_form 81 = .ok (.iload 6, 2) := zrD zrw_cX6_form_63 (i := 18) (by decide +kernel) rfl
theorem dX6_form_83 : decode cX6_form 83 = .ok (.aload_n 0, 1) := zrD zrw_cX6_form_63 (i := 20) (by decide +kernel) rfl
theorem dX6_form_84 : decode cX6_form 84 = .ok (.getfield 9, 3) := zrD zrw_cX6_form_63 (i := 21) (by decide +kernel) rfl
theorem dX6_form_87 : decode cX6_form 87 = .ok (.if_icmp .ge 82, 3) := zrD zrw_cX6_form_63 (i := 24) (by decide +kernel) rfl
theorem dX6_form_90 : decode cX6_form 90 = .ok (.iload_n 3, 1) := zrD zrw_cX6_form_63 (i := 27) (by decide +kernel) rfl
theorem dX6_form_91 : decode cX6_form 91 = .ok (.aload_n 0, 1) := zrD zrw_cX6_form_63 (i := 28) (by decide +kernel) rfl
theorem dX6_form_92 : decode cX6_form 92 = .ok (.getfield 9, 3) := zrD zrw_cX6_form_63 (i := 29) (by decide +kernel) rfl
def zrk_cX6_form_95 : ByteArray := .mk #[162, 0, 74, 44, 180, 0, 48, 21, 6, 46, 21, 5, 160, 0, 56, 42, 180, 0, 22, 21, 6, 42, 180, 0, 22, 21, 5, 46, 42, 180, 0, 15]
theorem zrw_cX6_form_95 : zrW 95 cX6_form zrk_cX6_form_95 := by unfold zrW; decide +kernel
theorem dX6_form_95 : decode cX6_form 95 = .ok (.if_icmp .ge 74, 3) := zrD zrw_cX6_form_95 (i := 0) (by decide +kernel) rfl
theorem dX6_form_98 : decode cX6_form 98 = .ok (.aload_n 2, 1) := zrD zrw_cX6_form_95 (i := 3) (by decide +kernel) rfl
theorem dX6_form_99 : decode cX6_form 99 = .ok (.getfield 48, 3) := zrD zrw_cX6_form_95 (i := 4) (by decide +kernel) rfl
theorem dX6_form_102 : decode cX6_form 102 = .ok (.iload 6, 2) := zrD zrw_cX6_form_95 (i := 7) (by decide +kernel) rfl
theorem dX6_form_104 : decode cX6_form 104 = .ok (.iaload, 1) := zrD zrw_cX6_form_95 (i := 9) (by decide +kernel) rfl
theorem dX6_form_105 : decode cX6_form 105 = .ok (.iload 5, 2) := zrD zrw_cX6_form_95 (i := 10) (by decide +kernel) rfl
theorem dX6_form_107 : decode cX6_form 107 = .ok (.if_icmp .ne 56, 3) := zrD zrw_cX6_form_95 (i := 12) (by decide +kernel) rfl
theorem dX6_form_110 : decode cX6_form 110 = .ok (.aload_n 0, 1) := zrD zrw_cX6_form_95 (i := 15) (by decide +kernel) rfl
theorem dX6_form_111 : decode cX6_form 111 = .ok (.getfield 22, 3) := zrD zrw_cX6_form_95 (i := 16) (by decide +kernel) rfl
theorem dX6_form_114 : decode cX6_form 114 = .ok (.iload 6, 2) := zrD zrw_cX6_form_95 (i := 19) (by decide +kernel) rfl
theorem dX6_form_116 : decode cX6_form 116 = .ok (.aload_n 0, 1) := zrD zrw_cX6_form_95 (i := 21) (by decide +kernel) rfl
theorem dX6_form_117 : decode cX6_form 117 = .ok (.getfield 22, 3) := zrD zrw_cX6_form_95 (i := 22) (by decide +kernel) rfl
theorem dX6_form_120 : decode cX6_form 120 = .ok (.iload 5, 2) := zrD zrw_cX6_form_95 (i := 25) (by decide +kernel) rfl
theorem dX6_form_122 : decode cX6_form 122 = .ok (.iaload, 1) := zrD zrw_cX6_form_95 (i := 27) (by decide +kernel) rfl
theorem dX6_form_123 : decode cX6_form 123 = .ok (.aload_n 0, 1) := zrD zrw_cX6_form_95 (i := 28) (by decide +kernel) rfl
theorem dX6_form_124 : decode cX6_form 124 = .ok (.getfield 15, 3) := zrD zrw_cX6_form_95 (i := 29) (by decide +kernel) rfl
def zrk_cX6_form_127 : ByteArray := .mk #[21, 6, 46, 96, 79, 42, 180, 0, 31, 21, 6, 42, 180, 0, 31, 21, 5, 46, 21, 6, 184, 0, 44, 128, 79, 42, 180, 0, 19, 29, 21, 6]
theorem zrw_cX6_form_127 : zrW 127 cX6_form zrk_cX6_form_127 := by unfold zrW; decide +kernel
theorem dX6_form_127 : decode cX6_form 127 = .ok (.iload 6, 2) := zrD zrw_cX6_form_127 (i := 0) (by decide +kernel) rfl
theorem dX6_form_129 : decode cX6_form 129 = .ok (.iaload, 1) := zrD zrw_cX6_form_127 (i := 2) (by decide +kernel) rfl
theorem dX6_form_130 : decode cX6_form 130 = .ok (.iadd, 1) := zrD zrw_cX6_form_127 (i := 3) (by decide +kernel) rfl
theorem dX6_form_131 : decode cX6_form 131 = .ok (.iastore, 1) := zrD zrw_cX6_form_127 (i := 4) (by decide +kernel) rfl
theorem dX6_form_132 : decode cX6_form 132 = .ok (.aload_n 0, 1) := zrD zrw_cX6_form_127 (i := 5) (by decide +kernel) rfl
theorem dX6_form_133 : decode cX6_form 133 = .ok (.getfield 31, 3) := zrD zrw_cX6_form_127 (i := 6) (by decide +kernel) rfl
theorem dX6_form_136 : decode cX6_form 136 = .ok (.iload 6, 2) := zrD zrw_cX6_form_127 (i := 9) (by decide +kernel) rfl
theorem dX6_form_138 : decode cX6_form 138 = .ok (.aload_n 0, 1) := zrD zrw_cX6_form_127 (i := 11) (by decide +kernel) rfl
theorem dX6_form_139 : decode cX6_form 139 = .ok (.getfield 31, 3) := zrD zrw_cX6_form_127 (i := 12) (by decide +kernel) rfl
theorem dX6_form_142 : decode cX6_form 142 = .ok (.iload 5, 2) := zrD zrw_cX6_form_127 (i := 15) (by decide +kernel) rfl
theorem dX6_form_144 : decode cX6_form 144 = .ok (.iaload, 1) := zrD zrw_cX6_form_127 (i := 17) (by decide +kernel) rfl
theorem dX6_form_145 : decode cX6_form 145 = .ok (.iload 6, 2) := zrD zrw_cX6_form_127 (i := 18) (by decide +kernel) rfl
theorem dX6_form_147 : decode cX6_form 147 = .ok (.invokestatic 44, 3) := zrD zrw_cX6_form_127 (i := 20) (by decide +kernel) rfl
theorem dX6_form_150 : decode cX6_form 150 = .ok (.ior, 1) := zrD zrw_cX6_form_127 (i := 23) (by decide +kernel) rfl
theorem dX6_form_151 : decode cX6_form 151 = .ok (.iastore, 1) := zrD zrw_cX6_form_127 (i := 24) (by decide +kernel) rfl
theorem dX6_form_152 : decode cX6_form 152 = .ok (.aload_n 0, 1) := zrD zrw_cX6_form_127 (i := 25) (by decide +kernel) rfl
theorem dX6_form_153 : decode cX6_form 153 = .ok (.getfield 19, 3) := zrD zrw_cX6_form_127 (i := 26) (by decide +kernel) rfl
theorem dX6_form_156 : decode cX6_form 156 = .ok (.iload_n 3, 1) := zrD zrw_cX6_form_127 (i := 29) (by decide +kernel) rfl
theorem dX6_form_157 : decode cX6_form 157 = .ok (.iload 6, 2) := zrD zrw_cX6_form_127 (i := 30) (by decide +kernel) rfl
def zrk_cX6_form_159 : ByteArray := .mk #[79, 132, 3, 1, 132, 6, 1, 167, 255, 171, 132, 4, 1, 167, 255, 147, 42, 44, 182, 0, 53, 177]
theorem zrw_cX6_form_159 : zrW 159 cX6_form zrk_cX6_form_159 := by unfold zrW; decide +kernel
theorem dX6_form_159 : decode cX6_form 159 = .ok (.iastore, 1) := zrD zrw_cX6_form_159 (i := 0) (by decide +kernel) rfl
theorem dX6_form_160 : decode cX6_form 160 = .ok (.iinc 3 1, 3) := zrD zrw_cX6_form_159 (i := 1) (by decide +kernel) rfl
theorem dX6_form_163 : decode cX6_form 163 = .ok (.iinc 6 1, 3) := zrD zrw_cX6_form_159 (i := 4) (by decide +kernel) rfl
theorem dX6_form_166 : decode cX6_form 166 = .ok (.goto (-85), 3) := zrD zrw_cX6_form_159 (i := 7) (by decide +kernel) rfl
theorem dX6_form_169 : decode cX6_form 169 = .ok (.iinc 4 1, 3) := zrD zrw_cX6_form_159 (i := 10) (by decide +kernel) rfl
theorem dX6_form_172 : decode cX6_form 172 = .ok (.goto (-109), 3) := zrD zrw_cX6_form_159 (i := 13) (by decide +kernel) rfl
theorem dX6_form_175 : decode cX6_form 175 = .ok (.aload_n 0, 1) := zrD zrw_cX6_form_159 (i := 16) (by decide +kernel) rfl
theorem dX6_form_176 : decode cX6_form 176 = .ok (.aload_n 2, 1) := zrD zrw_cX6_form_159 (i := 17) (by decide +kernel) rfl
theorem dX6_form_177 : decode cX6_form 177 = .ok (.invokevirtual 53, 3) := zrD zrw_cX6_form_159 (i := 18) (by decide +kernel) rfl
theorem dX6_form_180 : decode cX6_form 180 = .ok (.return_, 1) := zrD zrw_cX6_form_159 (i := 21) (by decide +kernel) rfl
def zrk_cX6_countAbove_0 : ByteArray := .mk #[42, 180, 0, 25, 3, 184, 0, 57, 42, 180, 0, 9, 4, 100, 61, 28, 158, 0, 38, 42, 180, 0, 19, 28, 46, 62, 42, 180, 0, 25, 43]
theorem zrw_cX6_countAbove_0 : zrW 0 cX6_countAbove zrk_cX6_countAbove_0 := by unfold zrW; decide +kernel
theorem dX6_countAbove_0 : decode cX6_countAbove 0 = .ok (.aload_n 0, 1) := zrD zrw_cX6_countAbove_0 (i := 0) (by decide +kernel) rfl
theorem dX6_countAbove_1 : decode cX6_countAbove 1 = .ok (.getfield 25, 3) := zrD zrw_cX6_countAbove_0 (i := 1) (by decide +kernel) rfl
theorem dX6_countAbove_4 : decode cX6_countAbove 4 = .ok (.iconst 0, 1) := zrD zrw_cX6_countAbove_0 (i := 4) (by decide +kernel) rfl
theorem dX6_countAbove_5 : decode cX6_countAbove 5 = .ok (.invokestatic 57, 3) := zrD zrw_cX6_countAbove_0 (i := 5) (by decide +kernel) rfl
theorem dX6_countAbove_8 : decode cX6_countAbove 8 = .ok (.aload_n 0, 1) := zrD zrw_cX6_countAbove_0 (i := 8) (by decide +kernel) rfl
theorem dX6_countAbove_9 : decode cX6_countAbove 9 = .ok (.getfield 9, 3) := zrD zrw_cX6_countAbove_0 (i := 9) (by decide +kernel) rfl
theorem dX6_countAbove_12 : decode cX6_countAbove 12 = .ok (.iconst 1, 1) := zrD zrw_cX6_countAbove_0 (i := 12) (by decide +kernel) rfl
theorem dX6_countAbove_13 : decode cX6_countAbove 13 = .ok (.isub, 1) := zrD zrw_cX6_countAbove_0 (i := 13) (by decide +kernel) rfl
theorem dX6_countAbove_14 : decode cX6_countAbove 14 = .ok (.istore_n 2, 1) := zrD zrw_cX6_countAbove_0 (i := 14) (by decide +kernel) rfl
theorem dX6_countAbove_15 : decode cX6_countAbove 15 = .ok (.iload_n 2, 1) := zrD zrw_cX6_countAbove_0 (i := 15) (by decide +kernel) rfl
theorem dX6_countAbove_16 : decode cX6_countAbove 16 = .ok (.ifCond .le 38, 3) := zrD zrw_cX6_countAbove_0 (i := 16) (by decide +kernel) rfl
theorem dX6_countAbove_19 : decode cX6_countAbove 19 = .ok (.aload_n 0, 1) := zrD zrw_cX6_countAbove_0 (i := 19) (by decide +kernel) rfl
theorem dX6_countAbove_20 : decode cX6_countAbove 20 = .ok (.getfield 19, 3) := zrD zrw_cX6_countAbove_0 (i := 20) (by decide +kernel) rfl
theorem dX6_countAbove_23 : decode cX6_countAbove 23 = .ok (.iload_n 2, 1) := zrD zrw_cX6_countAbove_0 (i := 23) (by decide +kernel) rfl
theorem dX6_countAbove_24 : decode cX6_countAbove 24 = .ok (.iaload, 1) := zrD zrw_cX6_countAbove_0 (i := 24) (by decide +kernel) rfl
theorem dX6_countAbove_25 : decode cX6_countAbove 25 = .ok (.istore_n 3, 1) := zrD zrw_cX6_countAbove_0 (i := 25) (by decide +kernel) rfl
theorem dX6_countAbove_26 : decode cX6_countAbove 26 = .ok (.aload_n 0, 1) := zrD zrw_cX6_countAbove_0 (i := 26) (by decide +kernel) rfl
theorem dX6_countAbove_27 : decode cX6_countAbove 27 = .ok (.getfield 25, 3) := zrD zrw_cX6_countAbove_0 (i := 27) (by decide +kernel) rfl
theorem dX6_countAbove_30 : decode cX6_countAbove 30 = .ok (.aload_n 1, 1) := zrD zrw_cX6_countAbove_0 (i := 30) (by decide +kernel) rfl
def zrk_cX6_countAbove_31 : ByteArray := .mk #[180, 0, 48, 29, 46, 92, 46, 42, 180, 0, 25, 29, 46, 4, 96, 96, 79, 132, 2, 255, 167, 255, 220, 177]
theorem zrw_cX6_countAbove_31 : zrW 31 cX6_countAbove zrk_cX6_countAbove_31 := by unfold zrW; decide +kernel
theorem dX6_countAbove_31 : decode cX6_countAbove 31 = .ok (.getfield 48, 3) := zrD zrw_cX6_countAbove_31 (i := 0) (by decide +kernel) rfl
theorem dX6_countAbove_34 : decode cX6_countAbove 34 = .ok (.iload_n 3, 1) := zrD zrw_cX6_countAbove_31 (i := 3) (by decide +kernel) rfl
theorem dX6_countAbove_35 : decode cX6_countAbove 35 = .ok (.iaload, 1) := zrD zrw_cX6_countAbove_31 (i := 4) (by decide +kernel) rfl
theorem dX6_countAbove_36 : decode cX6_countAbove 36 = .ok (.dup2, 1) := zrD zrw_cX6_countAbove_31 (i := 5) (by decide +kernel) rfl
theorem dX6_countAbove_37 : decode cX6_countAbove 37 = .ok (.iaload, 1) := zrD zrw_cX6_countAbove_31 (i := 6) (by decide +kernel) rfl
theorem dX6_countAbove_38 : decode cX6_countAbove 38 = .ok (.aload_n 0, 1) := zrD zrw_cX6_countAbove_31 (i := 7) (by decide +kernel) rfl
theorem dX6_countAbove_39 : decode cX6_countAbove 39 = .ok (.getfield 25, 3) := zrD zrw_cX6_countAbove_31 (i := 8) (by decide +kernel) rfl
theorem dX6_countAbove_42 : decode cX6_countAbove 42 = .ok (.iload_n 3, 1) := zrD zrw_cX6_countAbove_31 (i := 11) (by decide +kernel) rfl
theorem dX6_countAbove_43 : decode cX6_countAbove 43 = .ok (.iaload, 1) := zrD zrw_cX6_countAbove_31 (i := 12) (by decide +kernel) rfl
theorem dX6_countAbove_44 : decode cX6_countAbove 44 = .ok (.iconst 1, 1) := zrD zrw_cX6_countAbove_31 (i := 13) (by decide +kernel) rfl
theorem dX6_countAbove_45 : decode cX6_countAbove 45 = .ok (.iadd, 1) := zrD zrw_cX6_countAbove_31 (i := 14) (by decide +kernel) rfl
theorem dX6_countAbove_46 : decode cX6_countAbove 46 = .ok (.iadd, 1) := zrD zrw_cX6_countAbove_31 (i := 15) (by decide +kernel) rfl
theorem dX6_countAbove_47 : decode cX6_countAbove 47 = .ok (.iastore, 1) := zrD zrw_cX6_countAbove_31 (i := 16) (by decide +kernel) rfl
theorem dX6_countAbove_48 : decode cX6_countAbove 48 = .ok (.iinc 2 (-1), 3) := zrD zrw_cX6_countAbove_31 (i := 17) (by decide +kernel) rfl
theorem dX6_countAbove_51 : decode cX6_countAbove 51 = .ok (.goto (-36), 3) := zrD zrw_cX6_countAbove_31 (i := 20) (by decide +kernel) rfl
theorem dX6_countAbove_54 : decode cX6_countAbove 54 = .ok (.return_, 1) := zrD zrw_cX6_countAbove_31 (i := 23) (by decide +kernel) rfl
def zrk_cX6_orderOf_0 : ByteArray := .mk #[42, 180, 0, 9, 4, 100, 62, 29, 155, 0, 118, 3, 54, 4, 3, 54, 5, 4, 54, 6, 21, 6, 42, 180, 0, 9, 162, 0, 68, 43]
theorem zrw_cX6_orderOf_0 : zrW 0 cX6_orderOf zrk_cX6_orderOf_0 := by unfold zrW; decide +kernel
theorem dX6_orderOf_0 : decode cX6_orderOf 0 = .ok (.aload_n 0, 1) := zrD zrw_cX6_orderOf_0 (i := 0) (by decide +kernel) rfl
theorem dX6_orderOf_1 : decode cX6_orderOf 1 = .ok (.getfield 9, 3) := zrD zrw_cX6_orderOf_0 (i := 1) (by decide +kernel) rfl
theorem dX6_orderOf_4 : decode cX6_orderOf 4 = .ok (.iconst 1, 1) := zrD zrw_cX6_orderOf_0 (i := 4) (by decide +kernel) rfl
theorem dX6_orderOf_5 : decode cX6_orderOf 5 = .ok (.isub, 1) := zrD zrw_cX6_orderOf_0 (i := 5) (by decide +kernel) rfl
theorem dX6_orderOf_6 : decode cX6_orderOf 6 = .ok (.istore_n 3, 1) := zrD zrw_cX6_orderOf_0 (i := 6) (by decide +kernel) rfl
theorem dX6_orderOf_7 : decode cX6_orderOf 7 = .ok (.iload_n 3, 1) := zrD zrw_cX6_orderOf_0 (i := 7) (by decide +kernel) rfl
theorem dX6_orderOf_8 : decode cX6_orderOf 8 = .ok (.ifCond .lt 118, 3) := zrD zrw_cX6_orderOf_0 (i := 8) (by decide +kernel) rfl
theorem dX6_orderOf_11 : decode cX6_orderOf 11 = .ok (.iconst 0, 1) := zrD zrw_cX6_orderOf_0 (i := 11) (by decide +kernel) rfl
theorem dX6_orderOf_12 : decode cX6_orderOf 12 = .ok (.istore 4, 2) := zrD zrw_cX6_orderOf_0 (i := 12) (by decide +kernel) rfl
theorem dX6_orderOf_14 : decode cX6_orderOf 14 = .ok (.iconst 0, 1) := zrD zrw_cX6_orderOf_0 (i := 14) (by decide +kernel) rfl
theorem dX6_orderOf_15 : decode cX6_orderOf 15 = .ok (.istore 5, 2) := zrD zrw_cX6_orderOf_0 (i := 15) (by decide +kernel) rfl
theorem dX6_orderOf_17 : decode cX6_orderOf 17 = .ok (.iconst 1, 1) := zrD zrw_cX6_orderOf_0 (i := 17) (by decide +kernel) rfl
theorem dX6_orderOf_18 : decode cX6_orderOf 18 = .ok (.istore 6, 2) := zrD zrw_cX6_orderOf_0 (i := 18) (by decide +kernel) rfl
theorem dX6_orderOf_20 : decode cX6_orderOf 20 = .ok (.iload 6, 2) := zrD zrw_cX6_orderOf_0 (i := 20) (by decide +kernel) rfl
theorem dX6_orderOf_22 : decode cX6_orderOf 22 = .ok (.aload_n 0, 1) := zrD zrw_cX6_orderOf_0 (i := 22) (by decide +kernel) rfl
theorem dX6_orderOf_23 : decode cX6_orderOf 23 = .ok (.getfield 9, 3) := zrD zrw_cX6_orderOf_0 (i := 23) (by decide +kernel) rfl
theorem dX6_orderOf_26 : decode cX6_orderOf 26 = .ok (.if_icmp .ge 68, 3) := zrD zrw_cX6_orderOf_0 (i := 26) (by decide +kernel) rfl
theorem dX6_orderOf_29 : decode cX6_orderOf 29 = .ok (.aload_n 1, 1) := zrD zrw_cX6_orderOf_0 (i := 29) (by decide +kernel) rfl
def zrk_cX6_orderOf_30 : ByteArray := .mk #[180, 0, 48, 21, 6, 46, 42, 180, 0, 19, 29, 46, 160, 0, 46, 42, 180, 0, 28, 21, 6, 46, 21, 4, 161, 0, 34, 42, 180, 0, 28]
theorem zrw_cX6_orderOf_30 : zrW 30 cX6_orderOf zrk_cX6_orderOf_30 := by unfold zrW; decide +kernel
theorem dX6_orderOf_30 : decode cX6_orderOf 30 = .ok (.getfield 48, 3) := zrD zrw_cX6_orderOf_30 (i := 0) (by decide +kernel) rfl
theorem dX6_orderOf_33 : decode cX6_orderOf 33 = .ok (.iload 6, 2) := zrD zrw_cX6_orderOf_30 (i := 3) (by decide +kernel) rfl
theorem dX6_orderOf_35 : decode cX6_orderOf 35 = .ok (.iaload, 1) := zrD zrw_cX6_orderOf_30 (i := 5) (by decide +kernel) rfl
theorem dX6_orderOf_36 : decode cX6_orderOf 36 = .ok (.aload_n 0, 1) := zrD zrw_cX6_orderOf_30 (i := 6) (by decide +kernel) rfl
theorem dX6_orderOf_37 : decode cX6_orderOf 37 = .ok (.getfield 19, 3) := zrD zrw_cX6_orderOf_30 (i := 7) (by decide +kernel) rfl
theorem dX6_orderOf_40 : decode cX6_orderOf 40 = .ok (.iload_n 3, 1) := zrD zrw_cX6_orderOf_30 (i := 10) (by decide +kernel) rfl
theorem dX6_orderOf_41 : decode cX6_orderOf 41 = .ok (.iaload, 1) := zrD zrw_cX6_orderOf_30 (i := 11) (by decide +kernel) rfl
theorem dX6_orderOf_42 : decode cX6_orderOf 42 = .ok (.if_icmp .ne 46, 3) := zrD zrw_cX6_orderOf_30 (i := 12) (by decide +kernel) rfl
theorem dX6_orderOf_45 : decode cX6_orderOf 45 = .ok (.aload_n 0, 1) := zrD zrw_cX6_orderOf_30 (i := 15) (by decide +kernel) rfl
theorem dX6_orderOf_46 : decode cX6_orderOf 46 = .ok (.getfield 28, 3) := zrD zrw_cX6_orderOf_30 (i := 16) (by decide +kernel) rfl
theorem dX6_orderOf_49 : decode cX6_orderOf 49 = .ok (.iload 6, 2) := zrD zrw_cX6_orderOf_30 (i := 19) (by decide +kernel) rfl
theorem dX6_orderOf_51 : decode cX6_orderOf 51 = .ok (.iaload, 1) := zrD zrw_cX6_orderOf_30 (i := 21) (by decide +kernel) rfl
theorem dX6_orderOf_52 : decode cX6_orderOf 52 = .ok (.iload 4, 2) := zrD zrw_cX6_orderOf_30 (i := 22) (by decide +kernel) rfl
theorem dX6_orderOf_54 : decode cX6_orderOf 54 = .ok (.if_icmp .lt 34, 3) := zrD zrw_cX6_orderOf_30 (i := 24) (by decide +kernel) rfl
theorem dX6_orderOf_57 : decode cX6_orderOf 57 = .ok (.aload_n 0, 1) := zrD zrw_cX6_orderOf_30 (i := 27) (by decide +kernel) rfl
theorem dX6_orderOf_58 : decode cX6_orderOf 58 = .ok (.getfield 28, 3) := zrD zrw_cX6_orderOf_30 (i := 28) (by decide +kernel) rfl
def zrk_cX6_orderOf_61 : ByteArray := .mk #[21, 6, 46, 21, 4, 160, 0, 10, 21, 5, 4, 96, 167, 0, 4, 4, 54, 5, 42, 180, 0, 28, 21, 6, 46, 54, 4, 132, 6, 1]
theorem zrw_cX6_orderOf_61 : zrW 61 cX6_orderOf zrk_cX6_orderOf_61 := by unfold zrW; decide +kernel
theorem dX6_orderOf_61 : decode cX6_orderOf 61 = .ok (.iload 6, 2) := zrD zrw_cX6_orderOf_61 (i := 0) (by decide +kernel) rfl
theorem dX6_orderOf_63 : decode cX6_orderOf 63 = .ok (.iaload, 1) := zrD zrw_cX6_orderOf_61 (i := 2) (by decide +kernel) rfl
theorem dX6_orderOf_64 : decode cX6_orderOf 64 = .ok (.iload 4, 2) := zrD zrw_cX6_orderOf_61 (i := 3) (by decide +kernel) rfl
theorem dX6_orderOf_66 : decode cX6_orderOf 66 = .ok (.if_icmp .ne 10, 3) := zrD zrw_cX6_orderOf_61 (i := 5) (by decide +kernel) rfl
theorem dX6_orderOf_69 : decode cX6_orderOf 69 = .ok (.iload 5, 2) := zrD zrw_cX6_orderOf_61 (i := 8) (by decide +kernel) rfl
theorem dX6_orderOf_71 : decode cX6_orderOf 71 = .ok (.iconst 1, 1) := zrD zrw_cX6_orderOf_61 (i := 10) (by decide +kernel) rfl
theorem dX6_orderOf_72 : decode cX6_orderOf 72 = .ok (.iadd, 1) := zrD zrw_cX6_orderOf_61 (i := 11) (by decide +kernel) rfl
theorem dX6_orderOf_73 : decode cX6_orderOf 73 = .ok (.goto 4, 3) := zrD zrw_cX6_orderOf_61 (i := 12) (by decide +kernel) rfl
theorem dX6_orderOf_76 : decode cX6_orderOf 76 = .ok (.iconst 1, 1) := zrD zrw_cX6_orderOf_61 (i := 15) (by decide +kernel) rfl
theorem dX6_orderOf_77 : decode cX6_orderOf 77 = .ok (.istore 5, 2) := zrD zrw_cX6_orderOf_61 (i := 16) (by decide +kernel) rfl
theorem dX6_orderOf_79 : decode cX6_orderOf 79 = .ok (.aload_n 0, 1) := zrD zrw_cX6_orderOf_61 (i := 18) (by decide +kernel) rfl
theorem dX6_orderOf_80 : decode cX6_orderOf 80 = .ok (.getfield 28, 3) := zrD zrw_cX6_orderOf_61 (i := 19) (by decide +kernel) rfl
theorem dX6_orderOf_83 : decode cX6_orderOf 83 = .ok (.iload 6, 2) := zrD zrw_cX6_orderOf_61 (i := 22) (by decide +kernel) rfl
theorem dX6_orderOf_85 : decode cX6_orderOf 85 = .ok (.iaload, 1) := zrD zrw_cX6_orderOf_61 (i := 24) (by decide +kernel) rfl
theorem dX6_orderOf_86 : decode cX6_orderOf 86 = .ok (.istore 4, 2) := zrD zrw_cX6_orderOf_61 (i := 25) (by decide +kernel) rfl
theorem dX6_orderOf_88 : decode cX6_orderOf 88 = .ok (.iinc 6 1, 3) := zrD zrw_cX6_orderOf_61 (i := 27) (by decide +kernel) rfl
def zrk_cX6_orderOf_91 : ByteArray := .mk #[167, 255, 185, 42, 180, 0, 28, 42, 180, 0, 19, 29, 46, 21, 5, 4, 160, 0, 8, 21, 4, 167, 0, 7, 21, 4, 4, 96, 79, 132, 3, 255]
theorem zrw_cX6_orderOf_91 : zrW 91 cX6_orderOf zrk_cX6_orderOf_91 := by unfold zrW; decide +kernel
theorem dX6_orderOf_91 : decode cX6_orderOf 91 = .ok (.goto (-71), 3) := zrD zrw_cX6_orderOf_91 (i := 0) (by decide +kernel) rfl
theorem dX6_orderOf_94 : decode cX6_orderOf 94 = .ok (.aload_n 0, 1) := zrD zrw_cX6_orderOf_91 (i := 3) (by decide +kernel) rfl
theorem dX6_orderOf_95 : decode cX6_orderOf 95 = .ok (.getfield 28, 3) := zrD zrw_cX6_orderOf_91 (i := 4) (by decide +kernel) rfl
theorem dX6_orderOf_98 : decode cX6_orderOf 98 = .ok (.aload_n 0, 1) := zrD zrw_cX6_orderOf_91 (i := 7) (by decide +kernel) rfl
theorem dX6_orderOf_99 : decode cX6_orderOf 99 = .ok (.getfield 19, 3) := zrD zrw_cX6_orderOf_91 (i := 8) (by decide +kernel) rfl
theorem dX6_orderOf_102 : decode cX6_orderOf 102 = .ok (.iload_n 3, 1) := zrD zrw_cX6_orderOf_91 (i := 11) (by decide +kernel) rfl
theorem dX6_orderOf_103 : decode cX6_orderOf 103 = .ok (.iaload, 1) := zrD zrw_cX6_orderOf_91 (i := 12) (by decide +kernel) rfl
theorem dX6_orderOf_104 : decode cX6_orderOf 104 = .ok (.iload 5, 2) := zrD zrw_cX6_orderOf_91 (i := 13) (by decide +kernel) rfl
theorem dX6_orderOf_106 : decode cX6_orderOf 106 = .ok (.iconst 1, 1) := zrD zrw_cX6_orderOf_91 (i := 15) (by decide +kernel) rfl
theorem dX6_orderOf_107 : decode cX6_orderOf 107 = .ok (.if_icmp .ne 8, 3) := zrD zrw_cX6_orderOf_91 (i := 16) (by decide +kernel) rfl
theorem dX6_orderOf_110 : decode cX6_orderOf 110 = .ok (.iload 4, 2) := zrD zrw_cX6_orderOf_91 (i := 19) (by decide +kernel) rfl
theorem dX6_orderOf_112 : decode cX6_orderOf 112 = .ok (.goto 7, 3) := zrD zrw_cX6_orderOf_91 (i := 21) (by decide +kernel) rfl
theorem dX6_orderOf_115 : decode cX6_orderOf 115 = .ok (.iload 4, 2) := zrD zrw_cX6_orderOf_91 (i := 24) (by decide +kernel) rfl
theorem dX6_orderOf_117 : decode cX6_orderOf 117 = .ok (.iconst 1, 1) := zrD zrw_cX6_orderOf_91 (i := 26) (by decide +kernel) rfl
theorem dX6_orderOf_118 : decode cX6_orderOf 118 = .ok (.iadd, 1) := zrD zrw_cX6_orderOf_91 (i := 27) (by decide +kernel) rfl
theorem dX6_orderOf_119 : decode cX6_orderOf 119 = .ok (.iastore, 1) := zrD zrw_cX6_orderOf_91 (i := 28) (by decide +kernel) rfl
theorem dX6_orderOf_120 : decode cX6_orderOf 120 = .ok (.iinc 3 (-1), 3) := zrD zrw_cX6_orderOf_91 (i := 29) (by decide +kernel) rfl
def zrk_cX6_orderOf_123 : ByteArray := .mk #[167, 255, 140, 42, 180, 0, 28, 28, 46, 172]
theorem zrw_cX6_orderOf_123 : zrW 123 cX6_orderOf zrk_cX6_orderOf_123 := by unfold zrW; decide +kernel
theorem dX6_orderOf_123 : decode cX6_orderOf 123 = .ok (.goto (-116), 3) := zrD zrw_cX6_orderOf_123 (i := 0) (by decide +kernel) rfl
theorem dX6_orderOf_126 : decode cX6_orderOf 126 = .ok (.aload_n 0, 1) := zrD zrw_cX6_orderOf_123 (i := 3) (by decide +kernel) rfl
theorem dX6_orderOf_127 : decode cX6_orderOf 127 = .ok (.getfield 28, 3) := zrD zrw_cX6_orderOf_123 (i := 4) (by decide +kernel) rfl
theorem dX6_orderOf_130 : decode cX6_orderOf 130 = .ok (.iload_n 2, 1) := zrD zrw_cX6_orderOf_123 (i := 7) (by decide +kernel) rfl
theorem dX6_orderOf_131 : decode cX6_orderOf 131 = .ok (.iaload, 1) := zrD zrw_cX6_orderOf_123 (i := 8) (by decide +kernel) rfl
theorem dX6_orderOf_132 : decode cX6_orderOf 132 = .ok (.ireturn, 1) := zrD zrw_cX6_orderOf_123 (i := 9) (by decide +kernel) rfl
def zrk_cX6_isSource_0 : ByteArray := .mk #[27, 158, 0, 24, 27, 42, 180, 0, 9, 162, 0, 16, 42, 180, 0, 25, 27, 46, 154, 0, 7, 4, 167, 0, 4, 3, 172]
theorem zrw_cX6_isSource_0 : zrW 0 cX6_isSource zrk_cX6_isSource_0 := by unfold zrW; decide +kernel
theorem dX6_isSource_0 : decode cX6_isSource 0 = .ok (.iload_n 1, 1) := zrD zrw_cX6_isSource_0 (i := 0) (by decide +kernel) rfl
theorem dX6_isSource_1 : decode cX6_isSource 1 = .ok (.ifCond .le 24, 3) := zrD zrw_cX6_isSource_0 (i := 1) (by decide +kernel) rfl
theorem dX6_isSource_4 : decode cX6_isSource 4 = .ok (.iload_n 1, 1) := zrD zrw_cX6_isSource_0 (i := 4) (by decide +kernel) rfl
theorem dX6_isSource_5 : decode cX6_isSource 5 = .ok (.aload_n 0, 1) := zrD zrw_cX6_isSource_0 (i := 5) (by decide +kernel) rfl
theorem dX6_isSource_6 : decode cX6_isSource 6 = .ok (.getfield 9, 3) := zrD zrw_cX6_isSource_0 (i := 6) (by decide +kernel) rfl
theorem dX6_isSource_9 : decode cX6_isSource 9 = .ok (.if_icmp .ge 16, 3) := zrD zrw_cX6_isSource_0 (i := 9) (by decide +kernel) rfl
theorem dX6_isSource_12 : decode cX6_isSource 12 = .ok (.aload_n 0, 1) := zrD zrw_cX6_isSource_0 (i := 12) (by decide +kernel) rfl
theorem dX6_isSource_13 : decode cX6_isSource 13 = .ok (.getfield 25, 3) := zrD zrw_cX6_isSource_0 (i := 13) (by decide +kernel) rfl
theorem dX6_isSource_16 : decode cX6_isSource 16 = .ok (.iload_n 1, 1) := zrD zrw_cX6_isSource_0 (i := 16) (by decide +kernel) rfl
theorem dX6_isSource_17 : decode cX6_isSource 17 = .ok (.iaload, 1) := zrD zrw_cX6_isSource_0 (i := 17) (by decide +kernel) rfl
theorem dX6_isSource_18 : decode cX6_isSource 18 = .ok (.ifCond .ne 7, 3) := zrD zrw_cX6_isSource_0 (i := 18) (by decide +kernel) rfl
theorem dX6_isSource_21 : decode cX6_isSource 21 = .ok (.iconst 1, 1) := zrD zrw_cX6_isSource_0 (i := 21) (by decide +kernel) rfl
theorem dX6_isSource_22 : decode cX6_isSource 22 = .ok (.goto 4, 3) := zrD zrw_cX6_isSource_0 (i := 22) (by decide +kernel) rfl
theorem dX6_isSource_25 : decode cX6_isSource 25 = .ok (.iconst 0, 1) := zrD zrw_cX6_isSource_0 (i := 25) (by decide +kernel) rfl
theorem dX6_isSource_26 : decode cX6_isSource 26 = .ok (.ireturn, 1) := zrD zrw_cX6_isSource_0 (i := 26) (by decide +kernel) rfl
def zrk_cX6_sources_0 : ByteArray := .mk #[3, 60, 4, 61, 28, 42, 180, 0, 9, 162, 0, 25, 42, 180, 0, 25, 28, 46, 154, 0, 10, 27, 28, 184, 0, 44, 128, 60, 132, 2, 1]
theorem zrw_cX6_sources_0 : zrW 0 cX6_sources zrk_cX6_sources_0 := by unfold zrW; decide +kernel
theorem dX6_sources_0 : decode cX6_sources 0 = .ok (.iconst 0, 1) := zrD zrw_cX6_sources_0 (i := 0) (by decide +kernel) rfl
theorem dX6_sources_1 : decode cX6_sources 1 = .ok (.istore_n 1, 1) := zrD zrw_cX6_sources_0 (i := 1) (by decide +kernel) rfl
theorem dX6_sources_2 : decode cX6_sources 2 = .ok (.iconst 1, 1) := zrD zrw_cX6_sources_0 (i := 2) (by decide +kernel) rfl
theorem dX6_sources_3 : decode cX6_sources 3 = .ok (.istore_n 2, 1) := zrD zrw_cX6_sources_0 (i := 3) (by decide +kernel) rfl
theorem dX6_sources_4 : decode cX6_sources 4 = .ok (.iload_n 2, 1) := zrD zrw_cX6_sources_0 (i := 4) (by decide +kernel) rfl
theorem dX6_sources_5 : decode cX6_sources 5 = .ok (.aload_n 0, 1) := zrD zrw_cX6_sources_0 (i := 5) (by decide +kernel) rfl
theorem dX6_sources_6 : decode cX6_sources 6 = .ok (.getfield 9, 3) := zrD zrw_cX6_sources_0 (i := 6) (by decide +kernel) rfl
theorem dX6_sources_9 : decode cX6_sources 9 = .ok (.if_icmp .ge 25, 3) := zrD zrw_cX6_sources_0 (i := 9) (by decide +kernel) rfl
theorem dX6_sources_12 : decode cX6_sources 12 = .ok (.aload_n 0, 1) := zrD zrw_cX6_sources_0 (i := 12) (by decide +kernel) rfl
theorem dX6_sources_13 : decode cX6_sources 13 = .ok (.getfield 25, 3) := zrD zrw_cX6_sources_0 (i := 13) (by decide +kernel) rfl
theorem dX6_sources_16 : decode cX6_sources 16 = .ok (.iload_n 2, 1) := zrD zrw_cX6_sources_0 (i := 16) (by decide +kernel) rfl
theorem dX6_sources_17 : decode cX6_sources 17 = .ok (.iaload, 1) := zrD zrw_cX6_sources_0 (i := 17) (by decide +kernel) rfl
theorem dX6_sources_18 : decode cX6_sources 18 = .ok (.ifCond .ne 10, 3) := zrD zrw_cX6_sources_0 (i := 18) (by decide +kernel) rfl
theorem dX6_sources_21 : decode cX6_sources 21 = .ok (.iload_n 1, 1) := zrD zrw_cX6_sources_0 (i := 21) (by decide +kernel) rfl
theorem dX6_sources_22 : decode cX6_sources 22 = .ok (.iload_n 2, 1) := zrD zrw_cX6_sources_0 (i := 22) (by decide +kernel) rfl
theorem dX6_sources_23 : decode cX6_sources 23 = .ok (.invokestatic 44, 3) := zrD zrw_cX6_sources_0 (i := 23) (by decide +kernel) rfl
theorem dX6_sources_26 : decode cX6_sources 26 = .ok (.ior, 1) := zrD zrw_cX6_sources_0 (i := 26) (by decide +kernel) rfl
theorem dX6_sources_27 : decode cX6_sources 27 = .ok (.istore_n 1, 1) := zrD zrw_cX6_sources_0 (i := 27) (by decide +kernel) rfl
theorem dX6_sources_28 : decode cX6_sources 28 = .ok (.iinc 2 1, 3) := zrD zrw_cX6_sources_0 (i := 28) (by decide +kernel) rfl
def zrk_cX6_sources_31 : ByteArray := .mk #[167, 255, 229, 27, 172]
theorem zrw_cX6_sources_31 : zrW 31 cX6_sources zrk_cX6_sources_31 := by unfold zrW; decide +kernel
theorem dX6_sources_31 : decode cX6_sources 31 = .ok (.goto (-27), 3) := zrD zrw_cX6_sources_31 (i := 0) (by decide +kernel) rfl
theorem dX6_sources_34 : decode cX6_sources 34 = .ok (.iload_n 1, 1) := zrD zrw_cX6_sources_31 (i := 3) (by decide +kernel) rfl
theorem dX6_sources_35 : decode cX6_sources 35 = .ok (.ireturn, 1) := zrD zrw_cX6_sources_31 (i := 4) (by decide +kernel) rfl
def zrk_cX6_comingBy_0 : ByteArray := .mk #[3, 61, 3, 62, 29, 42, 180, 0, 9, 162, 0, 29, 42, 180, 0, 31, 29, 46, 27, 184, 0, 63, 153, 0, 10, 28, 29, 184, 0, 44, 128, 61]
theorem zrw_cX6_comingBy_0 : zrW 0 cX6_comingBy zrk_cX6_comingBy_0 := by unfold zrW; decide +kernel
theorem dX6_comingBy_0 : decode cX6_comingBy 0 = .ok (.iconst 0, 1) := zrD zrw_cX6_comingBy_0 (i := 0) (by decide +kernel) rfl
theorem dX6_comingBy_1 : decode cX6_comingBy 1 = .ok (.istore_n 2, 1) := zrD zrw_cX6_comingBy_0 (i := 1) (by decide +kernel) rfl
theorem dX6_comingBy_2 : decode cX6_comingBy 2 = .ok (.iconst 0, 1) := zrD zrw_cX6_comingBy_0 (i := 2) (by decide +kernel) rfl
theorem dX6_comingBy_3 : decode cX6_comingBy 3 = .ok (.istore_n 3, 1) := zrD zrw_cX6_comingBy_0 (i := 3) (by decide +kernel) rfl
theorem dX6_comingBy_4 : decode cX6_comingBy 4 = .ok (.iload_n 3, 1) := zrD zrw_cX6_comingBy_0 (i := 4) (by decide +kernel) rfl
theorem dX6_comingBy_5 : decode cX6_comingBy 5 = .ok (.aload_n 0, 1) := zrD zrw_cX6_comingBy_0 (i := 5) (by decide +kernel) rfl
theorem dX6_comingBy_6 : decode cX6_comingBy 6 = .ok (.getfield 9, 3) := zrD zrw_cX6_comingBy_0 (i := 6) (by decide +kernel) rfl
theorem dX6_comingBy_9 : decode cX6_comingBy 9 = .ok (.if_icmp .ge 29, 3) := zrD zrw_cX6_comingBy_0 (i := 9) (by decide +kernel) rfl
theorem dX6_comingBy_12 : decode cX6_comingBy 12 = .ok (.aload_n 0, 1) := zrD zrw_cX6_comingBy_0 (i := 12) (by decide +kernel) rfl
theorem dX6_comingBy_13 : decode cX6_comingBy 13 = .ok (.getfield 31, 3) := zrD zrw_cX6_comingBy_0 (i := 13) (by decide +kernel) rfl
theorem dX6_comingBy_16 : decode cX6_comingBy 16 = .ok (.iload_n 3, 1) := zrD zrw_cX6_comingBy_0 (i := 16) (by decide +kernel) rfl
theorem dX6_comingBy_17 : decode cX6_comingBy 17 = .ok (.iaload, 1) := zrD zrw_cX6_comingBy_0 (i := 17) (by decide +kernel) rfl
theorem dX6_comingBy_18 : decode cX6_comingBy 18 = .ok (.iload_n 1, 1) := zrD zrw_cX6_comingBy_0 (i := 18) (by decide +kernel) rfl
theorem dX6_comingBy_19 : decode cX6_comingBy 19 = .ok (.invokestatic 63, 3) := zrD zrw_cX6_comingBy_0 (i := 19) (by decide +kernel) rfl
theorem dX6_comingBy_22 : decode cX6_comingBy 22 = .ok (.ifCond .eq 10, 3) := zrD zrw_cX6_comingBy_0 (i := 22) (by decide +kernel) rfl
theorem dX6_comingBy_25 : decode cX6_comingBy 25 = .ok (.iload_n 2, 1) := zrD zrw_cX6_comingBy_0 (i := 25) (by decide +kernel) rfl
theorem dX6_comingBy_26 : decode cX6_comingBy 26 = .ok (.iload_n 3, 1) := zrD zrw_cX6_comingBy_0 (i := 26) (by decide +kernel) rfl
theorem dX6_comingBy_27 : decode cX6_comingBy 27 = .ok (.invokestatic 44, 3) := zrD zrw_cX6_comingBy_0 (i := 27) (by decide +kernel) rfl
theorem dX6_comingBy_30 : decode cX6_comingBy 30 = .ok (.ior, 1) := zrD zrw_cX6_comingBy_0 (i := 30) (by decide +kernel) rfl
theorem dX6_comingBy_31 : decode cX6_comingBy 31 = .ok (.istore_n 2, 1) := zrD zrw_cX6_comingBy_0 (i := 31) (by decide +kernel) rfl
def zrk_cX6_comingBy_32 : ByteArray := .mk #[132, 3, 1, 167, 255, 225, 28, 172]
theorem zrw_cX6_comingBy_32 : zrW 32 cX6_comingBy zrk_cX6_comingBy_32 := by unfold zrW; decide +kernel
theorem dX6_comingBy_32 : decode cX6_comingBy 32 = .ok (.iinc 3 1, 3) := zrD zrw_cX6_comingBy_32 (i := 0) (by decide +kernel) rfl
theorem dX6_comingBy_35 : decode cX6_comingBy 35 = .ok (.goto (-31), 3) := zrD zrw_cX6_comingBy_32 (i := 3) (by decide +kernel) rfl
theorem dX6_comingBy_38 : decode cX6_comingBy 38 = .ok (.iload_n 2, 1) := zrD zrw_cX6_comingBy_32 (i := 6) (by decide +kernel) rfl
theorem dX6_comingBy_39 : decode cX6_comingBy 39 = .ok (.ireturn, 1) := zrD zrw_cX6_comingBy_32 (i := 7) (by decide +kernel) rfl
def zrk_cX6_greatestFar_0 : ByteArray := .mk #[3, 60, 3, 61, 28, 42, 180, 0, 9, 162, 0, 20, 27, 42, 180, 0, 22, 28, 46, 184, 0, 67, 60, 132, 2, 1, 167, 255, 234, 27, 172]
theorem zrw_cX6_greatestFar_0 : zrW 0 cX6_greatestFar zrk_cX6_greatestFar_0 := by unfold zrW; decide +kernel
theorem dX6_greatestFar_0 : decode cX6_greatestFar 0 = .ok (.iconst 0, 1) := zrD zrw_cX6_greatestFar_0 (i := 0) (by decide +kernel) rfl
theorem dX6_greatestFar_1 : decode cX6_greatestFar 1 = .ok (.istore_n 1, 1) := zrD zrw_cX6_greatestFar_0 (i := 1) (by decide +kernel) rfl
theorem dX6_greatestFar_2 : decode cX6_greatestFar 2 = .ok (.iconst 0, 1) := zrD zrw_cX6_greatestFar_0 (i := 2) (by decide +kernel) rfl
theorem dX6_greatestFar_3 : decode cX6_greatestFar 3 = .ok (.istore_n 2, 1) := zrD zrw_cX6_greatestFar_0 (i := 3) (by decide +kernel) rfl
theorem dX6_greatestFar_4 : decode cX6_greatestFar 4 = .ok (.iload_n 2, 1) := zrD zrw_cX6_greatestFar_0 (i := 4) (by decide +kernel) rfl
theorem dX6_greatestFar_5 : decode cX6_greatestFar 5 = .ok (.aload_n 0, 1) := zrD zrw_cX6_greatestFar_0 (i := 5) (by decide +kernel) rfl
theorem dX6_greatestFar_6 : decode cX6_greatestFar 6 = .ok (.getfield 9, 3) := zrD zrw_cX6_greatestFar_0 (i := 6) (by decide +kernel) rfl
theorem dX6_greatestFar_9 : decode cX6_greatestFar 9 = .ok (.if_icmp .ge 20, 3) := zrD zrw_cX6_greatestFar_0 (i := 9) (by decide +kernel) rfl
theorem dX6_greatestFar_12 : decode cX6_greatestFar 12 = .ok (.iload_n 1, 1) := zrD zrw_cX6_greatestFar_0 (i := 12) (by decide +kernel) rfl
theorem dX6_greatestFar_13 : decode cX6_greatestFar 13 = .ok (.aload_n 0, 1) := zrD zrw_cX6_greatestFar_0 (i := 13) (by decide +kernel) rfl
theorem dX6_greatestFar_14 : decode cX6_greatestFar 14 = .ok (.getfield 22, 3) := zrD zrw_cX6_greatestFar_0 (i := 14) (by decide +kernel) rfl
theorem dX6_greatestFar_17 : decode cX6_greatestFar 17 = .ok (.iload_n 2, 1) := zrD zrw_cX6_greatestFar_0 (i := 17) (by decide +kernel) rfl
theorem dX6_greatestFar_18 : decode cX6_greatestFar 18 = .ok (.iaload, 1) := zrD zrw_cX6_greatestFar_0 (i := 18) (by decide +kernel) rfl
theorem dX6_greatestFar_19 : decode cX6_greatestFar 19 = .ok (.invokestatic 67, 3) := zrD zrw_cX6_greatestFar_0 (i := 19) (by decide +kernel) rfl
theorem dX6_greatestFar_22 : decode cX6_greatestFar 22 = .ok (.istore_n 1, 1) := zrD zrw_cX6_greatestFar_0 (i := 22) (by decide +kernel) rfl
theorem dX6_greatestFar_23 : decode cX6_greatestFar 23 = .ok (.iinc 2 1, 3) := zrD zrw_cX6_greatestFar_0 (i := 23) (by decide +kernel) rfl
theorem dX6_greatestFar_26 : decode cX6_greatestFar 26 = .ok (.goto (-22), 3) := zrD zrw_cX6_greatestFar_0 (i := 26) (by decide +kernel) rfl
theorem dX6_greatestFar_29 : decode cX6_greatestFar 29 = .ok (.iload_n 1, 1) := zrD zrw_cX6_greatestFar_0 (i := 29) (by decide +kernel) rfl
theorem dX6_greatestFar_30 : decode cX6_greatestFar 30 = .ok (.ireturn, 1) := zrD zrw_cX6_greatestFar_0 (i := 30) (by decide +kernel) rfl
def zrk_cX6_deepest_0 : ByteArray := .mk #[3, 60, 4, 61, 28, 42, 180, 0, 9, 162, 0, 23, 27, 42, 180, 0, 31, 28, 46, 184, 0, 73, 184, 0, 67, 60, 132, 2, 1, 167, 255, 231]
theorem zrw_cX6_deepest_0 : zrW 0 cX6_deepest zrk_cX6_deepest_0 := by unfold zrW; decide +kernel
theorem dX6_deepest_0 : decode cX6_deepest 0 = .ok (.iconst 0, 1) := zrD zrw_cX6_deepest_0 (i := 0) (by decide +kernel) rfl
theorem dX6_deepest_1 : decode cX6_deepest 1 = .ok (.istore_n 1, 1) := zrD zrw_cX6_deepest_0 (i := 1) (by decide +kernel) rfl
theorem dX6_deepest_2 : decode cX6_deepest 2 = .ok (.iconst 1, 1) := zrD zrw_cX6_deepest_0 (i := 2) (by decide +kernel) rfl
theorem dX6_deepest_3 : decode cX6_deepest 3 = .ok (.istore_n 2, 1) := zrD zrw_cX6_deepest_0 (i := 3) (by decide +kernel) rfl
theorem dX6_deepest_4 : decode cX6_deepest 4 = .ok (.iload_n 2, 1) := zrD zrw_cX6_deepest_0 (i := 4) (by decide +kernel) rfl
theorem dX6_deepest_5 : decode cX6_deepest 5 = .ok (.aload_n 0, 1) := zrD zrw_cX6_deepest_0 (i := 5) (by decide +kernel) rfl
theorem dX6_deepest_6 : decode cX6_deepest 6 = .ok (.getfield 9, 3) := zrD zrw_cX6_deepest_0 (i := 6) (by decide +kernel) rfl
theorem dX6_deepest_9 : decode cX6_deepest 9 = .ok (.if_icmp .ge 23, 3) := zrD zrw_cX6_deepest_0 (i := 9) (by decide +kernel) rfl
theorem dX6_deepest_12 : decode cX6_deepest 12 = .ok (.iload_n 1, 1) := zrD zrw_cX6_deepest_0 (i := 12) (by decide +kernel) rfl
theorem dX6_deepest_13 : decode cX6_deepest 13 = .ok (.aload_n 0, 1) := zrD zrw_cX6_deepest_0 (i := 13) (by decide +kernel) rfl
theorem dX6_deepest_14 : decode cX6_deepest 14 = .ok (.getfield 31, 3) := zrD zrw_cX6_deepest_0 (i := 14) (by decide +kernel) rfl
theorem dX6_deepest_17 : decode cX6_deepest 17 = .ok (.iload_n 2, 1) := zrD zrw_cX6_deepest_0 (i := 17) (by decide +kernel) rfl
theorem dX6_deepest_18 : decode cX6_deepest 18 = .ok (.iaload, 1) := zrD zrw_cX6_deepest_0 (i := 18) (by decide +kernel) rfl
theorem dX6_deepest_19 : decode cX6_deepest 19 = .ok (.invokestatic 73, 3) := zrD zrw_cX6_deepest_0 (i := 19) (by decide +kernel) rfl
theorem dX6_deepest_22 : decode cX6_deepest 22 = .ok (.invokestatic 67, 3) := zrD zrw_cX6_deepest_0 (i := 22) (by decide +kernel) rfl
theorem dX6_deepest_25 : decode cX6_deepest 25 = .ok (.istore_n 1, 1) := zrD zrw_cX6_deepest_0 (i := 25) (by decide +kernel) rfl
theorem dX6_deepest_26 : decode cX6_deepest 26 = .ok (.iinc 2 1, 3) := zrD zrw_cX6_deepest_0 (i := 26) (by decide +kernel) rfl
theorem dX6_deepest_29 : decode cX6_deepest 29 = .ok (.goto (-25), 3) := zrD zrw_cX6_deepest_0 (i := 29) (by decide +kernel) rfl
def zrk_cX6_deepest_32 : ByteArray := .mk #[27, 172]
theorem zrw_cX6_deepest_32 : zrW 32 cX6_deepest zrk_cX6_deepest_32 := by unfold zrW; decide +kernel
theorem dX6_deepest_32 : decode cX6_deepest 32 = .ok (.iload_n 1, 1) := zrD zrw_cX6_deepest_32 (i := 0) (by decide +kernel) rfl
theorem dX6_deepest_33 : decode cX6_deepest 33 = .ok (.ireturn, 1) := zrD zrw_cX6_deepest_32 (i := 1) (by decide +kernel) rfl
def zrk_cX6_tourOf_0 : ByteArray := .mk #[3, 61, 3, 62, 4, 54, 4, 21, 4, 42, 180, 0, 9, 162, 0, 40, 27, 21, 4, 184, 0, 63, 153, 0, 25, 28, 42, 180, 0, 31, 21, 4]
theorem zrw_cX6_tourOf_0 : zrW 0 cX6_tourOf zrk_cX6_tourOf_0 := by unfold zrW; decide +kernel
theorem dX6_tourOf_0 : decode cX6_tourOf 0 = .ok (.iconst 0, 1) := zrD zrw_cX6_tourOf_0 (i := 0) (by decide +kernel) rfl
theorem dX6_tourOf_1 : decode cX6_tourOf 1 = .ok (.istore_n 2, 1) := zrD zrw_cX6_tourOf_0 (i := 1) (by decide +kernel) rfl
theorem dX6_tourOf_2 : decode cX6_tourOf 2 = .ok (.iconst 0, 1) := zrD zrw_cX6_tourOf_0 (i := 2) (by decide +kernel) rfl
theorem dX6_tourOf_3 : decode cX6_tourOf 3 = .ok (.istore_n 3, 1) := zrD zrw_cX6_tourOf_0 (i := 3) (by decide +kernel) rfl
theorem dX6_tourOf_4 : decode cX6_tourOf 4 = .ok (.iconst 1, 1) := zrD zrw_cX6_tourOf_0 (i := 4) (by decide +kernel) rfl
theorem dX6_tourOf_5 : decode cX6_tourOf 5 = .ok (.istore 4, 2) := zrD zrw_cX6_tourOf_0 (i := 5) (by decide +kernel) rfl
theorem dX6_tourOf_7 : decode cX6_tourOf 7 = .ok (.iload 4, 2) := zrD zrw_cX6_tourOf_0 (i := 7) (by decide +kernel) rfl
theorem dX6_tourOf_9 : decode cX6_tourOf 9 = .ok (.aload_n 0, 1) := zrD zrw_cX6_tourOf_0 (i := 9) (by decide +kernel) rfl
theorem dX6_tourOf_10 : decode cX6_tourOf 10 = .ok (.getfield 9, 3) := zrD zrw_cX6_tourOf_0 (i := 10) (by decide +kernel) rfl
theorem dX6_tourOf_13 : decode cX6_tourOf 13 = .ok (.if_icmp .ge 40, 3) := zrD zrw_cX6_tourOf_0 (i := 13) (by decide +kernel) rfl
theorem dX6_tourOf_16 : decode cX6_tourOf 16 = .ok (.iload_n 1, 1) := zrD zrw_cX6_tourOf_0 (i := 16) (by decide +kernel) rfl
theorem dX6_tourOf_17 : decode cX6_tourOf 17 = .ok (.iload 4, 2) := zrD zrw_cX6_tourOf_0 (i := 17) (by decide +kernel) rfl
theorem dX6_tourOf_19 : decode cX6_tourOf 19 = .ok (.invokestatic 63, 3) := zrD zrw_cX6_tourOf_0 (i := 19) (by decide +kernel) rfl
theorem dX6_tourOf_22 : decode cX6_tourOf 22 = .ok (.ifCond .eq 25, 3) := zrD zrw_cX6_tourOf_0 (i := 22) (by decide +kernel) rfl
theorem dX6_tourOf_25 : decode cX6_tourOf 25 = .ok (.iload_n 2, 1) := zrD zrw_cX6_tourOf_0 (i := 25) (by decide +kernel) rfl
theorem dX6_tourOf_26 : decode cX6_tourOf 26 = .ok (.aload_n 0, 1) := zrD zrw_cX6_tourOf_0 (i := 26) (by decide +kernel) rfl
theorem dX6_tourOf_27 : decode cX6_tourOf 27 = .ok (.getfield 31, 3) := zrD zrw_cX6_tourOf_0 (i := 27) (by decide +kernel) rfl
theorem dX6_tourOf_30 : decode cX6_tourOf 30 = .ok (.iload 4, 2) := zrD zrw_cX6_tourOf_0 (i := 30) (by decide +kernel) rfl
def zrk_cX6_tourOf_32 : ByteArray := .mk #[46, 128, 61, 29, 42, 180, 0, 22, 21, 4, 46, 184, 0, 67, 62, 132, 4, 1, 167, 255, 213, 3, 54, 4, 4, 54, 5, 21, 5, 42]
theorem zrw_cX6_tourOf_32 : zrW 32 cX6_tourOf zrk_cX6_tourOf_32 := by unfold zrW; decide +kernel
theorem dX6_tourOf_32 : decode cX6_tourOf 32 = .ok (.iaload, 1) := zrD zrw_cX6_tourOf_32 (i := 0) (by decide +kernel) rfl
theorem dX6_tourOf_33 : decode cX6_tourOf 33 = .ok (.ior, 1) := zrD zrw_cX6_tourOf_32 (i := 1) (by decide +kernel) rfl
theorem dX6_tourOf_34 : decode cX6_tourOf 34 = .ok (.istore_n 2, 1) := zrD zrw_cX6_tourOf_32 (i := 2) (by decide +kernel) rfl
theorem dX6_tourOf_35 : decode cX6_tourOf 35 = .ok (.iload_n 3, 1) := zrD zrw_cX6_tourOf_32 (i := 3) (by decide +kernel) rfl
theorem dX6_tourOf_36 : decode cX6_tourOf 36 = .ok (.aload_n 0, 1) := zrD zrw_cX6_tourOf_32 (i := 4) (by decide +kernel) rfl
theorem dX6_tourOf_37 : decode cX6_tourOf 37 = .ok (.getfield 22, 3) := zrD zrw_cX6_tourOf_32 (i := 5) (by decide +kernel) rfl
theorem dX6_tourOf_40 : decode cX6_tourOf 40 = .ok (.iload 4, 2) := zrD zrw_cX6_tourOf_32 (i := 8) (by decide +kernel) rfl
theorem dX6_tourOf_42 : decode cX6_tourOf 42 = .ok (.iaload, 1) := zrD zrw_cX6_tourOf_32 (i := 10) (by decide +kernel) rfl
theorem dX6_tourOf_43 : decode cX6_tourOf 43 = .ok (.invokestatic 67, 3) := zrD zrw_cX6_tourOf_32 (i := 11) (by decide +kernel) rfl
theorem dX6_tourOf_46 : decode cX6_tourOf 46 = .ok (.istore_n 3, 1) := zrD zrw_cX6_tourOf_32 (i := 14) (by decide +kernel) rfl
theorem dX6_tourOf_47 : decode cX6_tourOf 47 = .ok (.iinc 4 1, 3) := zrD zrw_cX6_tourOf_32 (i := 15) (by decide +kernel) rfl
theorem dX6_tourOf_50 : decode cX6_tourOf 50 = .ok (.goto (-43), 3) := zrD zrw_cX6_tourOf_32 (i := 18) (by decide +kernel) rfl
theorem dX6_tourOf_53 : decode cX6_tourOf 53 = .ok (.iconst 0, 1) := zrD zrw_cX6_tourOf_32 (i := 21) (by decide +kernel) rfl
theorem dX6_tourOf_54 : decode cX6_tourOf 54 = .ok (.istore 4, 2) := zrD zrw_cX6_tourOf_32 (i := 22) (by decide +kernel) rfl
theorem dX6_tourOf_56 : decode cX6_tourOf 56 = .ok (.iconst 1, 1) := zrD zrw_cX6_tourOf_32 (i := 24) (by decide +kernel) rfl
theorem dX6_tourOf_57 : decode cX6_tourOf 57 = .ok (.istore 5, 2) := zrD zrw_cX6_tourOf_32 (i := 25) (by decide +kernel) rfl
theorem dX6_tourOf_59 : decode cX6_tourOf 59 = .ok (.iload 5, 2) := zrD zrw_cX6_tourOf_32 (i := 27) (by decide +kernel) rfl
theorem dX6_tourOf_61 : decode cX6_tourOf 61 = .ok (.aload_n 0, 1) := zrD zrw_cX6_tourOf_32 (i := 29) (by decide +kernel) rfl
def zrk_cX6_tourOf_62 : ByteArray := .mk #[180, 0, 9, 162, 0, 30, 28, 21, 5, 184, 0, 63, 153, 0, 15, 21, 4, 42, 180, 0, 15, 21, 5, 46, 96, 54, 4, 132, 5, 1]
theorem zrw_cX6_tourOf_62 : zrW 62 cX6_tourOf zrk_cX6_tourOf_62 := by unfold zrW; decide +kernel
theorem dX6_tourOf_62 : decode cX6_tourOf 62 = .ok (.getfield 9, 3) := zrD zrw_cX6_tourOf_62 (i := 0) (by decide +kernel) rfl
theorem dX6_tourOf_65 : decode cX6_tourOf 65 = .ok (.if_icmp .ge 30, 3) := zrD zrw_cX6_tourOf_62 (i := 3) (by decide +kernel) rfl
theorem dX6_tourOf_68 : decode cX6_tourOf 68 = .ok (.iload_n 2, 1) := zrD zrw_cX6_tourOf_62 (i := 6) (by decide +kernel) rfl
theorem dX6_tourOf_69 : decode cX6_tourOf 69 = .ok (.iload 5, 2) := zrD zrw_cX6_tourOf_62 (i := 7) (by decide +kernel) rfl
theorem dX6_tourOf_71 : decode cX6_tourOf 71 = .ok (.invokestatic 63, 3) := zrD zrw_cX6_tourOf_62 (i := 9) (by decide +kernel) rfl
theorem dX6_tourOf_74 : decode cX6_tourOf 74 = .ok (.ifCond .eq 15, 3) := zrD zrw_cX6_tourOf_62 (i := 12) (by decide +kernel) rfl
theorem dX6_tourOf_77 : decode cX6_tourOf 77 = .ok (.iload 4, 2) := zrD zrw_cX6_tourOf_62 (i := 15) (by decide +kernel) rfl
theorem dX6_tourOf_79 : decode cX6_tourOf 79 = .ok (.aload_n 0, 1) := zrD zrw_cX6_tourOf_62 (i := 17) (by decide +kernel) rfl
theorem dX6_tourOf_80 : decode cX6_tourOf 80 = .ok (.getfield 15, 3) := zrD zrw_cX6_tourOf_62 (i := 18) (by decide +kernel) rfl
theorem dX6_tourOf_83 : decode cX6_tourOf 83 = .ok (.iload 5, 2) := zrD zrw_cX6_tourOf_62 (i := 21) (by decide +kernel) rfl
theorem dX6_tourOf_85 : decode cX6_tourOf 85 = .ok (.iaload, 1) := zrD zrw_cX6_tourOf_62 (i := 23) (by decide +kernel) rfl
theorem dX6_tourOf_86 : decode cX6_tourOf 86 = .ok (.iadd, 1) := zrD zrw_cX6_tourOf_62 (i := 24) (by decide +kernel) rfl
theorem dX6_tourOf_87 : decode cX6_tourOf 87 = .ok (.istore 4, 2) := zrD zrw_cX6_tourOf_62 (i := 25) (by decide +kernel) rfl
theorem dX6_tourOf_89 : decode cX6_tourOf 89 = .ok (.iinc 5 1, 3) := zrD zrw_cX6_tourOf_62 (i := 27) (by decide +kernel) rfl
def zrk_cX6_tourOf_92 : ByteArray := .mk #[167, 255, 223, 5, 21, 4, 104, 29, 100, 172]
theorem zrw_cX6_tourOf_92 : zrW 92 cX6_tourOf zrk_cX6_tourOf_92 := by unfold zrW; decide +kernel
theorem dX6_tourOf_92 : decode cX6_tourOf 92 = .ok (.goto (-33), 3) := zrD zrw_cX6_tourOf_92 (i := 0) (by decide +kernel) rfl
theorem dX6_tourOf_95 : decode cX6_tourOf 95 = .ok (.iconst 2, 1) := zrD zrw_cX6_tourOf_92 (i := 3) (by decide +kernel) rfl
theorem dX6_tourOf_96 : decode cX6_tourOf 96 = .ok (.iload 4, 2) := zrD zrw_cX6_tourOf_92 (i := 4) (by decide +kernel) rfl
theorem dX6_tourOf_98 : decode cX6_tourOf 98 = .ok (.imul, 1) := zrD zrw_cX6_tourOf_92 (i := 6) (by decide +kernel) rfl
theorem dX6_tourOf_99 : decode cX6_tourOf 99 = .ok (.iload_n 3, 1) := zrD zrw_cX6_tourOf_92 (i := 7) (by decide +kernel) rfl
theorem dX6_tourOf_100 : decode cX6_tourOf 100 = .ok (.isub, 1) := zrD zrw_cX6_tourOf_92 (i := 8) (by decide +kernel) rfl
theorem dX6_tourOf_101 : decode cX6_tourOf 101 = .ok (.ireturn, 1) := zrD zrw_cX6_tourOf_92 (i := 9) (by decide +kernel) rfl
def zrk_cX6_meeting_0 : ByteArray := .mk #[42, 180, 0, 31, 27, 46, 42, 180, 0, 31, 28, 46, 126, 62, 3, 54, 4, 4, 54, 5, 21, 5, 42, 180, 0, 9, 162, 0, 39, 29, 21, 5]
theorem zrw_cX6_meeting_0 : zrW 0 cX6_meeting zrk_cX6_meeting_0 := by unfold zrW; decide +kernel
theorem dX6_meeting_0 : decode cX6_meeting 0 = .ok (.aload_n 0, 1) := zrD zrw_cX6_meeting_0 (i := 0) (by decide +kernel) rfl
theorem dX6_meeting_1 : decode cX6_meeting 1 = .ok (.getfield 31, 3) := zrD zrw_cX6_meeting_0 (i := 1) (by decide +kernel) rfl
theorem dX6_meeting_4 : decode cX6_meeting 4 = .ok (.iload_n 1, 1) := zrD zrw_cX6_meeting_0 (i := 4) (by decide +kernel) rfl
theorem dX6_meeting_5 : decode cX6_meeting 5 = .ok (.iaload, 1) := zrD zrw_cX6_meeting_0 (i := 5) (by decide +kernel) rfl
theorem dX6_meeting_6 : decode cX6_meeting 6 = .ok (.aload_n 0, 1) := zrD zrw_cX6_meeting_0 (i := 6) (by decide +kernel) rfl
theorem dX6_meeting_7 : decode cX6_meeting 7 = .ok (.getfield 31, 3) := zrD zrw_cX6_meeting_0 (i := 7) (by decide +kernel) rfl
theorem dX6_meeting_10 : decode cX6_meeting 10 = .ok (.iload_n 2, 1) := zrD zrw_cX6_meeting_0 (i := 10) (by decide +kernel) rfl
theorem dX6_meeting_11 : decode cX6_meeting 11 = .ok (.iaload, 1) := zrD zrw_cX6_meeting_0 (i := 11) (by decide +kernel) rfl
theorem dX6_meeting_12 : decode cX6_meeting 12 = .ok (.iand, 1) := zrD zrw_cX6_meeting_0 (i := 12) (by decide +kernel) rfl
theorem dX6_meeting_13 : decode cX6_meeting 13 = .ok (.istore_n 3, 1) := zrD zrw_cX6_meeting_0 (i := 13) (by decide +kernel) rfl
theorem dX6_meeting_14 : decode cX6_meeting 14 = .ok (.iconst 0, 1) := zrD zrw_cX6_meeting_0 (i := 14) (by decide +kernel) rfl
theorem dX6_meeting_15 : decode cX6_meeting 15 = .ok (.istore 4, 2) := zrD zrw_cX6_meeting_0 (i := 15) (by decide +kernel) rfl
theorem dX6_meeting_17 : decode cX6_meeting 17 = .ok (.iconst 1, 1) := zrD zrw_cX6_meeting_0 (i := 17) (by decide +kernel) rfl
theorem dX6_meeting_18 : decode cX6_meeting 18 = .ok (.istore 5, 2) := zrD zrw_cX6_meeting_0 (i := 18) (by decide +kernel) rfl
theorem dX6_meeting_20 : decode cX6_meeting 20 = .ok (.iload 5, 2) := zrD zrw_cX6_meeting_0 (i := 20) (by decide +kernel) rfl
theorem dX6_meeting_22 : decode cX6_meeting 22 = .ok (.aload_n 0, 1) := zrD zrw_cX6_meeting_0 (i := 22) (by decide +kernel) rfl
theorem dX6_meeting_23 : decode cX6_meeting 23 = .ok (.getfield 9, 3) := zrD zrw_cX6_meeting_0 (i := 23) (by decide +kernel) rfl
theorem dX6_meeting_26 : decode cX6_meeting 26 = .ok (.if_icmp .ge 39, 3) := zrD zrw_cX6_meeting_0 (i := 26) (by decide +kernel) rfl
theorem dX6_meeting_29 : decode cX6_meeting 29 = .ok (.iload_n 3, 1) := zrD zrw_cX6_meeting_0 (i := 29) (by decide +kernel) rfl
theorem dX6_meeting_30 : decode cX6_meeting 30 = .ok (.iload 5, 2) := zrD zrw_cX6_meeting_0 (i := 30) (by decide +kernel) rfl
def zrk_cX6_meeting_32 : ByteArray := .mk #[184, 0, 63, 153, 0, 24, 42, 180, 0, 22, 21, 5, 46, 42, 180, 0, 22, 21, 4, 46, 164, 0, 7, 21, 5, 54, 4, 132, 5, 1]
theorem zrw_cX6_meeting_32 : zrW 32 cX6_meeting zrk_cX6_meeting_32 := by unfold zrW; decide +kernel
theorem dX6_meeting_32 : decode cX6_meeting 32 = .ok (.invokestatic 63, 3) := zrD zrw_cX6_meeting_32 (i := 0) (by decide +kernel) rfl
theorem dX6_meeting_35 : decode cX6_meeting 35 = .ok (.ifCond .eq 24, 3) := zrD zrw_cX6_meeting_32 (i := 3) (by decide +kernel) rfl
theorem dX6_meeting_38 : decode cX6_meeting 38 = .ok (.aload_n 0, 1) := zrD zrw_cX6_meeting_32 (i := 6) (by decide +kernel) rfl
theorem dX6_meeting_39 : decode cX6_meeting 39 = .ok (.getfield 22, 3) := zrD zrw_cX6_meeting_32 (i := 7) (by decide +kernel) rfl
theorem dX6_meeting_42 : decode cX6_meeting 42 = .ok (.iload 5, 2) := zrD zrw_cX6_meeting_32 (i := 10) (by decide +kernel) rfl
theorem dX6_meeting_44 : decode cX6_meeting 44 = .ok (.iaload, 1) := zrD zrw_cX6_meeting_32 (i := 12) (by decide +kernel) rfl
theorem dX6_meeting_45 : decode cX6_meeting 45 = .ok (.aload_n 0, 1) := zrD zrw_cX6_meeting_32 (i := 13) (by decide +kernel) rfl
theorem dX6_meeting_46 : decode cX6_meeting 46 = .ok (.getfield 22, 3) := zrD zrw_cX6_meeting_32 (i := 14) (by decide +kernel) rfl
theorem dX6_meeting_49 : decode cX6_meeting 49 = .ok (.iload 4, 2) := zrD zrw_cX6_meeting_32 (i := 17) (by decide +kernel) rfl
theorem dX6_meeting_51 : decode cX6_meeting 51 = .ok (.iaload, 1) := zrD zrw_cX6_meeting_32 (i := 19) (by decide +kernel) rfl
theorem dX6_meeting_52 : decode cX6_meeting 52 = .ok (.if_icmp .le 7, 3) := zrD zrw_cX6_meeting_32 (i := 20) (by decide +kernel) rfl
theorem dX6_meeting_55 : decode cX6_meeting 55 = .ok (.iload 5, 2) := zrD zrw_cX6_meeting_32 (i := 23) (by decide +kernel) rfl
theorem dX6_meeting_57 : decode cX6_meeting 57 = .ok (.istore 4, 2) := zrD zrw_cX6_meeting_32 (i := 25) (by decide +kernel) rfl
theorem dX6_meeting_59 : decode cX6_meeting 59 = .ok (.iinc 5 1, 3) := zrD zrw_cX6_meeting_32 (i := 27) (by decide +kernel) rfl
def zrk_cX6_meeting_62 : ByteArray := .mk #[167, 255, 214, 21, 4, 172]
theorem zrw_cX6_meeting_62 : zrW 62 cX6_meeting zrk_cX6_meeting_62 := by unfold zrW; decide +kernel
theorem dX6_meeting_62 : decode cX6_meeting 62 = .ok (.goto (-42), 3) := zrD zrw_cX6_meeting_62 (i := 0) (by decide +kernel) rfl
theorem dX6_meeting_65 : decode cX6_meeting 65 = .ok (.iload 4, 2) := zrD zrw_cX6_meeting_62 (i := 3) (by decide +kernel) rfl
theorem dX6_meeting_67 : decode cX6_meeting 67 = .ok (.ireturn, 1) := zrD zrw_cX6_meeting_62 (i := 5) (by decide +kernel) rfl
def zrk_cX7_init_0 : ByteArray := .mk #[42, 183, 0, 3, 42, 17, 7, 208]
theorem zrw_cX7_init_0 : zrW 0 cX7_init zrk_cX7_init_0 := by unfold zrW; decide +kernel
theorem dX7_init_0 : decode cX7_init 0 = .ok (.aload_n 0, 1) := zrD zrw_cX7_init_0 (i := 0) (by decide +kernel) rfl
theorem dX7_init_1 : decode cX7_init 1 = .ok (.invokespecial 3, 3) := zrD zrw_cX7_init_0 (i := 1) (by decide +kernel) rfl
theorem dX7_init_4 : decode cX7_init 4 = .ok (.aload_n 0, 1) := zrD zrw_cX7_init_0 (i := 4) (by decide +kernel) rfl
theorem dX7_init_5 : decode cX7_init 5 = .ok (.sipush 2000, 3) := zrD zrw_cX7_init_0 (i := 5) (by decide +kernel) rfl
theorem dX7_init_8 : decode cX7_init 8 = .ok (.newarray .byte, 2) := by decide +kernel
def zrk_cX7_init_10 : ByteArray := .mk #[181, 0, 9, 42, 3, 181, 0, 15, 177]
theorem zrw_cX7_init_10 : zrW 10 cX7_init zrk_cX7_init_10 := by unfold zrW; decide +kernel
theorem dX7_init_10 : decode cX7_init 10 = .ok (.putfield 9, 3) := zrD zrw_cX7_init_10 (i := 0) (by decide +kernel) rfl
theorem dX7_init_13 : decode cX7_init 13 = .ok (.aload_n 0, 1) := zrD zrw_cX7_init_10 (i := 3) (by decide +kernel) rfl
theorem dX7_init_14 : decode cX7_init 14 = .ok (.iconst 0, 1) := zrD zrw_cX7_init_10 (i := 4) (by decide +kernel) rfl
theorem dX7_init_15 : decode cX7_init 15 = .ok (.putfield 15, 3) := zrD zrw_cX7_init_10 (i := 5) (by decide +kernel) rfl
theorem dX7_init_18 : decode cX7_init 18 = .ok (.return_, 1) := zrD zrw_cX7_init_10 (i := 8) (by decide +kernel) rfl
def zrk_cX7_append_0 : ByteArray := .mk #[16, 24, 61, 28, 155, 0, 44, 42, 180, 0, 15, 42, 180, 0, 9, 190, 162, 0, 26, 42, 180, 0, 9, 42, 180, 0, 15, 27, 28, 124, 145, 84]
theorem zrw_cX7_append_0 : zrW 0 cX7_append zrk_cX7_append_0 := by unfold zrW; decide +kernel
theorem dX7_append_0 : decode cX7_append 0 = .ok (.bipush 24, 2) := zrD zrw_cX7_append_0 (i := 0) (by decide +kernel) rfl
theorem dX7_append_2 : decode cX7_append 2 = .ok (.istore_n 2, 1) := zrD zrw_cX7_append_0 (i := 2) (by decide +kernel) rfl
theorem dX7_append_3 : decode cX7_append 3 = .ok (.iload_n 2, 1) := zrD zrw_cX7_append_0 (i := 3) (by decide +kernel) rfl
theorem dX7_append_4 : decode cX7_append 4 = .ok (.ifCond .lt 44, 3) := zrD zrw_cX7_append_0 (i := 4) (by decide +kernel) rfl
theorem dX7_append_7 : decode cX7_append 7 = .ok (.aload_n 0, 1) := zrD zrw_cX7_append_0 (i := 7) (by decide +kernel) rfl
theorem dX7_append_8 : decode cX7_append 8 = .ok (.getfield 15, 3) := zrD zrw_cX7_append_0 (i := 8) (by decide +kernel) rfl
theorem dX7_append_11 : decode cX7_append 11 = .ok (.aload_n 0, 1) := zrD zrw_cX7_append_0 (i := 11) (by decide +kernel) rfl
theorem dX7_append_12 : decode cX7_append 12 = .ok (.getfield 9, 3) := zrD zrw_cX7_append_0 (i := 12) (by decide +kernel) rfl
theorem dX7_append_15 : decode cX7_append 15 = .ok (.arraylength, 1) := zrD zrw_cX7_append_0 (i := 15) (by decide +kernel) rfl
theorem dX7_append_16 : decode cX7_append 16 = .ok (.if_icmp .ge 26, 3) := zrD zrw_cX7_append_0 (i := 16) (by decide +kernel) rfl
theorem dX7_append_19 : decode cX7_append 19 = .ok (.aload_n 0, 1) := zrD zrw_cX7_append_0 (i := 19) (by decide +kernel) rfl
theorem dX7_append_20 : decode cX7_append 20 = .ok (.getfield 9, 3) := zrD zrw_cX7_append_0 (i := 20) (by decide +kernel) rfl
theorem dX7_append_23 : decode cX7_append 23 = .ok (.aload_n 0, 1) := zrD zrw_cX7_append_0 (i := 23) (by decide +kernel) rfl
theorem dX7_append_24 : decode cX7_append 24 = .ok (.getfield 15, 3) := zrD zrw_cX7_append_0 (i := 24) (by decide +kernel) rfl
theorem dX7_append_27 : decode cX7_append 27 = .ok (.iload_n 1, 1) := zrD zrw_cX7_append_0 (i := 27) (by decide +kernel) rfl
theorem dX7_append_28 : decode cX7_append 28 = .ok (.iload_n 2, 1) := zrD zrw_cX7_append_0 (i := 28) (by decide +kernel) rfl
theorem dX7_append_29 : decode cX7_append 29 = .ok (.iushr, 1) := zrD zrw_cX7_append_0 (i := 29) (by decide +kernel) rfl
theorem dX7_append_30 : decode cX7_append 30 = .ok (.i2b, 1) := zrD zrw_cX7_append_0 (i := 30) (by decide +kernel) rfl
theorem dX7_append_31 : decode cX7_append 31 = .ok (.bastore, 1) := zrD zrw_cX7_append_0 (i := 31) (by decide +kernel) rfl
def zrk_cX7_append_32 : ByteArray := .mk #[42, 89, 180, 0, 15, 4, 96, 181, 0, 15, 132, 2, 248, 167, 255, 214, 177]
theorem zrw_cX7_append_32 : zrW 32 cX7_append zrk_cX7_append_32 := by unfold zrW; decide +kernel
theorem dX7_append_32 : decode cX7_append 32 = .ok (.aload_n 0, 1) := zrD zrw_cX7_append_32 (i := 0) (by decide +kernel) rfl
theorem dX7_append_33 : decode cX7_append 33 = .ok (.dup, 1) := zrD zrw_cX7_append_32 (i := 1) (by decide +kernel) rfl
theorem dX7_append_34 : decode cX7_append 34 = .ok (.getfield 15, 3) := zrD zrw_cX7_append_32 (i := 2) (by decide +kernel) rfl
theorem dX7_append_37 : decode cX7_append 37 = .ok (.iconst 1, 1) := zrD zrw_cX7_append_32 (i := 5) (by decide +kernel) rfl
theorem dX7_append_38 : decode cX7_append 38 = .ok (.iadd, 1) := zrD zrw_cX7_append_32 (i := 6) (by decide +kernel) rfl
theorem dX7_append_39 : decode cX7_append 39 = .ok (.putfield 15, 3) := zrD zrw_cX7_append_32 (i := 7) (by decide +kernel) rfl
theorem dX7_append_42 : decode cX7_append 42 = .ok (.iinc 2 (-8), 3) := zrD zrw_cX7_append_32 (i := 10) (by decide +kernel) rfl
theorem dX7_append_45 : decode cX7_append 45 = .ok (.goto (-42), 3) := zrD zrw_cX7_append_32 (i := 13) (by decide +kernel) rfl
theorem dX7_append_48 : decode cX7_append 48 = .ok (.return_, 1) := zrD zrw_cX7_append_32 (i := 16) (by decide +kernel) rfl
def zrk_cX8_init_0 : ByteArray := .mk #[42, 183, 0, 1, 42, 16, 22]
theorem zrw_cX8_init_0 : zrW 0 cX8_init zrk_cX8_init_0 := by unfold zrW; decide +kernel
theorem dX8_init_0 : decode cX8_init 0 = .ok (.aload_n 0, 1) := zrD zrw_cX8_init_0 (i := 0) (by decide +kernel) rfl
theorem dX8_init_1 : decode cX8_init 1 = .ok (.invokespecial 1, 3) := zrD zrw_cX8_init_0 (i := 1) (by decide +kernel) rfl
theorem dX8_init_4 : decode cX8_init 4 = .ok (.aload_n 0, 1) := zrD zrw_cX8_init_0 (i := 4) (by decide +kernel) rfl
theorem dX8_init_5 : decode cX8_init 5 = .ok (.bipush 22, 2) := zrD zrw_cX8_init_0 (i := 5) (by decide +kernel) rfl
theorem dX8_init_7 : decode cX8_init 7 = .ok (.newarray .long, 2) := by decide +kernel
def zrk_cX8_init_9 : ByteArray := .mk #[181, 0, 9, 42, 17, 1, 146]
theorem zrw_cX8_init_9 : zrW 9 cX8_init zrk_cX8_init_9 := by unfold zrW; decide +kernel
theorem dX8_init_9 : decode cX8_init 9 = .ok (.putfield 9, 3) := zrD zrw_cX8_init_9 (i := 0) (by decide +kernel) rfl
theorem dX8_init_12 : decode cX8_init 12 = .ok (.aload_n 0, 1) := zrD zrw_cX8_init_9 (i := 3) (by decide +kernel) rfl
theorem dX8_init_13 : decode cX8_init 13 = .ok (.sipush 402, 3) := zrD zrw_cX8_init_9 (i := 4) (by decide +kernel) rfl
theorem dX8_init_16 : decode cX8_init 16 = .ok (.newarray .int, 2) := by decide +kernel
def zrk_cX8_init_18 : ByteArray := .mk #[181, 0, 13, 42, 17, 1, 146]
theorem zrw_cX8_init_18 : zrW 18 cX8_init zrk_cX8_init_18 := by unfold zrW; decide +kernel
theorem dX8_init_18 : decode cX8_init 18 = .ok (.putfield 13, 3) := zrD zrw_cX8_init_18 (i := 0) (by decide +kernel) rfl
theorem dX8_init_21 : decode cX8_init 21 = .ok (.aload_n 0, 1) := zrD zrw_cX8_init_18 (i := 3) (by decide +kernel) rfl
theorem dX8_init_22 : decode cX8_init 22 = .ok (.sipush 402, 3) := zrD zrw_cX8_init_18 (i := 4) (by decide +kernel) rfl
theorem dX8_init_25 : decode cX8_init 25 = .ok (.newarray .long, 2) := by decide +kernel
def zrk_cX8_init_27 : ByteArray := .mk #[181, 0, 17, 42, 17, 1, 146]
theorem zrw_cX8_init_27 : zrW 27 cX8_init zrk_cX8_init_27 := by unfold zrW; decide +kernel
theorem dX8_init_27 : decode cX8_init 27 = .ok (.putfield 17, 3) := zrD zrw_cX8_init_27 (i := 0) (by decide +kernel) rfl
theorem dX8_init_30 : decode cX8_init 30 = .ok (.aload_n 0, 1) := zrD zrw_cX8_init_27 (i := 3) (by decide +kernel) rfl
theorem dX8_init_31 : decode cX8_init 31 = .ok (.sipush 402, 3) := zrD zrw_cX8_init_27 (i := 4) (by decide +kernel) rfl
theorem dX8_init_34 : decode cX8_init 34 = .ok (.newarray .int, 2) := by decide +kernel
def zrk_cX8_init_36 : ByteArray := .mk #[181, 0, 20, 42, 3, 181, 0, 23, 3, 60, 3, 61, 28, 18, 27, 182, 0, 29, 162, 0, 50, 27, 16, 22, 162, 0, 44, 18, 27, 28]
theorem zrw_cX8_init_36 : zrW 36 cX8_init zrk_cX8_init_36 := by unfold zrW; decide +kernel
theorem dX8_init_36 : decode cX8_init 36 = .ok (.putfield 20, 3) := zrD zrw_cX8_init_36 (i := 0) (by decide +kernel) rfl
theorem dX8_init_39 : decode cX8_init 39 = .ok (.aload_n 0, 1) := zrD zrw_cX8_init_36 (i := 3) (by decide +kernel) rfl
theorem dX8_init_40 : decode cX8_init 40 = .ok (.iconst 0, 1) := zrD zrw_cX8_init_36 (i := 4) (by decide +kernel) rfl
theorem dX8_init_41 : decode cX8_init 41 = .ok (.putfield 23, 3) := zrD zrw_cX8_init_36 (i := 5) (by decide +kernel) rfl
theorem dX8_init_44 : decode cX8_init 44 = .ok (.iconst 0, 1) := zrD zrw_cX8_init_36 (i := 8) (by decide +kernel) rfl
theorem dX8_init_45 : decode cX8_init 45 = .ok (.istore_n 1, 1) := zrD zrw_cX8_init_36 (i := 9) (by decide +kernel) rfl
theorem dX8_init_46 : decode cX8_init 46 = .ok (.iconst 0, 1) := zrD zrw_cX8_init_36 (i := 10) (by decide +kernel) rfl
theorem dX8_init_47 : decode cX8_init 47 = .ok (.istore_n 2, 1) := zrD zrw_cX8_init_36 (i := 11) (by decide +kernel) rfl
theorem dX8_init_48 : decode cX8_init 48 = .ok (.iload_n 2, 1) := zrD zrw_cX8_init_36 (i := 12) (by decide +kernel) rfl
theorem dX8_init_49 : decode cX8_init 49 = .ok (.ldc 27, 2) := zrD zrw_cX8_init_36 (i := 13) (by decide +kernel) rfl
theorem dX8_init_51 : decode cX8_init 51 = .ok (.invokevirtual 29, 3) := zrD zrw_cX8_init_36 (i := 15) (by decide +kernel) rfl
theorem dX8_init_54 : decode cX8_init 54 = .ok (.if_icmp .ge 50, 3) := zrD zrw_cX8_init_36 (i := 18) (by decide +kernel) rfl
theorem dX8_init_57 : decode cX8_init 57 = .ok (.iload_n 1, 1) := zrD zrw_cX8_init_36 (i := 21) (by decide +kernel) rfl
theorem dX8_init_58 : decode cX8_init 58 = .ok (.bipush 22, 2) := zrD zrw_cX8_init_36 (i := 22) (by decide +kernel) rfl
theorem dX8_init_60 : decode cX8_init 60 = .ok (.if_icmp .ge 44, 3) := zrD zrw_cX8_init_36 (i := 24) (by decide +kernel) rfl
theorem dX8_init_63 : decode cX8_init 63 = .ok (.ldc 27, 2) := zrD zrw_cX8_init_36 (i := 27) (by decide +kernel) rfl
theorem dX8_init_65 : decode cX8_init 65 = .ok (.iload_n 2, 1) := zrD zrw_cX8_init_36 (i := 29) (by decide +kernel) rfl
def zrk_cX8_init_66 : ByteArray := .mk #[182, 0, 35, 62, 29, 16, 32, 160, 0, 9, 132, 1, 1, 167, 0, 19, 42, 180, 0, 9, 27, 42, 180, 0, 9, 27, 47, 29, 184, 0, 39, 80]
theorem zrw_cX8_init_66 : zrW 66 cX8_init zrk_cX8_init_66 := by unfold zrW; decide +kernel
theorem dX8_init_66 : decode cX8_init 66 = .ok (.invokevirtual 35, 3) := zrD zrw_cX8_init_66 (i := 0) (by decide +kernel) rfl
theorem dX8_init_69 : decode cX8_init 69 = .ok (.istore_n 3, 1) := zrD zrw_cX8_init_66 (i := 3) (by decide +kernel) rfl
theorem dX8_init_70 : decode cX8_init 70 = .ok (.iload_n 3, 1) := zrD zrw_cX8_init_66 (i := 4) (by decide +kernel) rfl
theorem dX8_init_71 : decode cX8_init 71 = .ok (.bipush 32, 2) := zrD zrw_cX8_init_66 (i := 5) (by decide +kernel) rfl
theorem dX8_init_73 : decode cX8_init 73 = .ok (.if_icmp .ne 9, 3) := zrD zrw_cX8_init_66 (i := 7) (by decide +kernel) rfl
theorem dX8_init_76 : decode cX8_init 76 = .ok (.iinc 1 1, 3) := zrD zrw_cX8_init_66 (i := 10) (by decide +kernel) rfl
theorem dX8_init_79 : decode cX8_init 79 = .ok (.goto 19, 3) := zrD zrw_cX8_init_66 (i := 13) (by decide +kernel) rfl
theorem dX8_init_82 : decode cX8_init 82 = .ok (.aload_n 0, 1) := zrD zrw_cX8_init_66 (i := 16) (by decide +kernel) rfl
theorem dX8_init_83 : decode cX8_init 83 = .ok (.getfield 9, 3) := zrD zrw_cX8_init_66 (i := 17) (by decide +kernel) rfl
theorem dX8_init_86 : decode cX8_init 86 = .ok (.iload_n 1, 1) := zrD zrw_cX8_init_66 (i := 20) (by decide +kernel) rfl
theorem dX8_init_87 : decode cX8_init 87 = .ok (.aload_n 0, 1) := zrD zrw_cX8_init_66 (i := 21) (by decide +kernel) rfl
theorem dX8_init_88 : decode cX8_init 88 = .ok (.getfield 9, 3) := zrD zrw_cX8_init_66 (i := 22) (by decide +kernel) rfl
theorem dX8_init_91 : decode cX8_init 91 = .ok (.iload_n 1, 1) := zrD zrw_cX8_init_66 (i := 25) (by decide +kernel) rfl
theorem dX8_init_92 : decode cX8_init 92 = .ok (.laload, 1) := zrD zrw_cX8_init_66 (i := 26) (by decide +kernel) rfl
theorem dX8_init_93 : decode cX8_init 93 = .ok (.iload_n 3, 1) := zrD zrw_cX8_init_66 (i := 27) (by decide +kernel) rfl
theorem dX8_init_94 : decode cX8_init 94 = .ok (.invokestatic 39, 3) := zrD zrw_cX8_init_66 (i := 28) (by decide +kernel) rfl
theorem dX8_init_97 : decode cX8_init 97 = .ok (.lastore, 1) := zrD zrw_cX8_init_66 (i := 31) (by decide +kernel) rfl
def zrk_cX8_init_98 : ByteArray := .mk #[132, 2, 1, 167, 255, 203, 177]
theorem zrw_cX8_init_98 : zrW 98 cX8_init zrk_cX8_init_98 := by unfold zrW; decide +kernel
theorem dX8_init_98 : decode cX8_init 98 = .ok (.iinc 2 1, 3) := zrD zrw_cX8_init_98 (i := 0) (by decide +kernel) rfl
theorem dX8_init_101 : decode cX8_init 101 = .ok (.goto (-53), 3) := zrD zrw_cX8_init_98 (i := 3) (by decide +kernel) rfl
theorem dX8_init_104 : decode cX8_init 104 = .ok (.return_, 1) := zrD zrw_cX8_init_98 (i := 6) (by decide +kernel) rfl
def zrk_cX8_withLetter_0 : ByteArray := .mk #[30, 20, 0, 43, 105, 28, 16, 97, 100, 4, 96, 133, 97, 173]
theorem zrw_cX8_withLetter_0 : zrW 0 cX8_withLetter zrk_cX8_withLetter_0 := by unfold zrW; decide +kernel
theorem dX8_withLetter_0 : decode cX8_withLetter 0 = .ok (.lload_n 0, 1) := zrD zrw_cX8_withLetter_0 (i := 0) (by decide +kernel) rfl
theorem dX8_withLetter_1 : decode cX8_withLetter 1 = .ok (.ldc2_w 43, 3) := zrD zrw_cX8_withLetter_0 (i := 1) (by decide +kernel) rfl
theorem dX8_withLetter_4 : decode cX8_withLetter 4 = .ok (.lmul, 1) := zrD zrw_cX8_withLetter_0 (i := 4) (by decide +kernel) rfl
theorem dX8_withLetter_5 : decode cX8_withLetter 5 = .ok (.iload_n 2, 1) := zrD zrw_cX8_withLetter_0 (i := 5) (by decide +kernel) rfl
theorem dX8_withLetter_6 : decode cX8_withLetter 6 = .ok (.bipush 97, 2) := zrD zrw_cX8_withLetter_0 (i := 6) (by decide +kernel) rfl
theorem dX8_withLetter_8 : decode cX8_withLetter 8 = .ok (.isub, 1) := zrD zrw_cX8_withLetter_0 (i := 8) (by decide +kernel) rfl
theorem dX8_withLetter_9 : decode cX8_withLetter 9 = .ok (.iconst 1, 1) := zrD zrw_cX8_withLetter_0 (i := 9) (by decide +kernel) rfl
theorem dX8_withLetter_10 : decode cX8_withLetter 10 = .ok (.iadd, 1) := zrD zrw_cX8_withLetter_0 (i := 10) (by decide +kernel) rfl
theorem dX8_withLetter_11 : decode cX8_withLetter 11 = .ok (.i2l, 1) := zrD zrw_cX8_withLetter_0 (i := 11) (by decide +kernel) rfl
theorem dX8_withLetter_12 : decode cX8_withLetter 12 = .ok (.ladd, 1) := zrD zrw_cX8_withLetter_0 (i := 12) (by decide +kernel) rfl
theorem dX8_withLetter_13 : decode cX8_withLetter 13 = .ok (.lreturn, 1) := zrD zrw_cX8_withLetter_0 (i := 13) (by decide +kernel) rfl
def zrk_cX8_scan_0 : ByteArray := .mk #[42, 3, 181, 0, 23, 3, 62, 4, 54, 4, 3, 54, 5, 21, 5, 17, 1, 144, 163, 0, 162, 21, 4, 153, 0, 157, 43, 28, 29, 184, 0, 45]
theorem zrw_cX8_scan_0 : zrW 0 cX8_scan zrk_cX8_scan_0 := by unfold zrW; decide +kernel
theorem dX8_scan_0 : decode cX8_scan 0 = .ok (.aload_n 0, 1) := zrD zrw_cX8_scan_0 (i := 0) (by decide +kernel) rfl
theorem dX8_scan_1 : decode cX8_scan 1 = .ok (.iconst 0, 1) := zrD zrw_cX8_scan_0 (i := 1) (by decide +kernel) rfl
theorem dX8_scan_2 : decode cX8_scan 2 = .ok (.putfield 23, 3) := zrD zrw_cX8_scan_0 (i := 2) (by decide +kernel) rfl
theorem dX8_scan_5 : decode cX8_scan 5 = .ok (.iconst 0, 1) := zrD zrw_cX8_scan_0 (i := 5) (by decide +kernel) rfl
theorem dX8_scan_6 : decode cX8_scan 6 = .ok (.istore_n 3, 1) := zrD zrw_cX8_scan_0 (i := 6) (by decide +kernel) rfl
theorem dX8_scan_7 : decode cX8_scan 7 = .ok (.iconst 1, 1) := zrD zrw_cX8_scan_0 (i := 7) (by decide +kernel) rfl
theorem dX8_scan_8 : decode cX8_scan 8 = .ok (.istore 4, 2) := zrD zrw_cX8_scan_0 (i := 8) (by decide +kernel) rfl
theorem dX8_scan_10 : decode cX8_scan 10 = .ok (.iconst 0, 1) := zrD zrw_cX8_scan_0 (i := 10) (by decide +kernel) rfl
theorem dX8_scan_11 : decode cX8_scan 11 = .ok (.istore 5, 2) := zrD zrw_cX8_scan_0 (i := 11) (by decide +kernel) rfl
theorem dX8_scan_13 : decode cX8_scan 13 = .ok (.iload 5, 2) := zrD zrw_cX8_scan_0 (i := 13) (by decide +kernel) rfl
theorem dX8_scan_15 : decode cX8_scan 15 = .ok (.sipush 400, 3) := zrD zrw_cX8_scan_0 (i := 15) (by decide +kernel) rfl
theorem dX8_scan_18 : decode cX8_scan 18 = .ok (.if_icmp .gt 162, 3) := zrD zrw_cX8_scan_0 (i := 18) (by decide +kernel) rfl
theorem dX8_scan_21 : decode cX8_scan 21 = .ok (.iload 4, 2) := zrD zrw_cX8_scan_0 (i := 21) (by decide +kernel) rfl
theorem dX8_scan_23 : decode cX8_scan 23 = .ok (.ifCond .eq 157, 3) := zrD zrw_cX8_scan_0 (i := 23) (by decide +kernel) rfl
theorem dX8_scan_26 : decode cX8_scan 26 = .ok (.aload_n 1, 1) := zrD zrw_cX8_scan_0 (i := 26) (by decide +kernel) rfl
theorem dX8_scan_27 : decode cX8_scan 27 = .ok (.iload_n 2, 1) := zrD zrw_cX8_scan_0 (i := 27) (by decide +kernel) rfl
theorem dX8_scan_28 : decode cX8_scan 28 = .ok (.iload_n 3, 1) := zrD zrw_cX8_scan_0 (i := 28) (by decide +kernel) rfl
theorem dX8_scan_29 : decode cX8_scan 29 = .ok (.invokestatic 45, 3) := zrD zrw_cX8_scan_0 (i := 29) (by decide +kernel) rfl
def zrk_cX8_scan_32 : ByteArray := .mk #[62, 29, 28, 162, 0, 9, 43, 29, 51, 167, 0, 4, 3, 54, 6, 29, 28, 161, 0, 14, 42, 16, 33, 9, 28, 182, 0, 49, 167, 0, 84]
theorem zrw_cX8_scan_32 : zrW 32 cX8_scan zrk_cX8_scan_32 := by unfold zrW; decide +kernel
theorem dX8_scan_32 : decode cX8_scan 32 = .ok (.istore_n 3, 1) := zrD zrw_cX8_scan_32 (i := 0) (by decide +kernel) rfl
theorem dX8_scan_33 : decode cX8_scan 33 = .ok (.iload_n 3, 1) := zrD zrw_cX8_scan_32 (i := 1) (by decide +kernel) rfl
theorem dX8_scan_34 : decode cX8_scan 34 = .ok (.iload_n 2, 1) := zrD zrw_cX8_scan_32 (i := 2) (by decide +kernel) rfl
theorem dX8_scan_35 : decode cX8_scan 35 = .ok (.if_icmp .ge 9, 3) := zrD zrw_cX8_scan_32 (i := 3) (by decide +kernel) rfl
theorem dX8_scan_38 : decode cX8_scan 38 = .ok (.aload_n 1, 1) := zrD zrw_cX8_scan_32 (i := 6) (by decide +kernel) rfl
theorem dX8_scan_39 : decode cX8_scan 39 = .ok (.iload_n 3, 1) := zrD zrw_cX8_scan_32 (i := 7) (by decide +kernel) rfl
theorem dX8_scan_40 : decode cX8_scan 40 = .ok (.baload, 1) := zrD zrw_cX8_scan_32 (i := 8) (by decide +kernel) rfl
theorem dX8_scan_41 : decode cX8_scan 41 = .ok (.goto 4, 3) := zrD zrw_cX8_scan_32 (i := 9) (by decide +kernel) rfl
theorem dX8_scan_44 : decode cX8_scan 44 = .ok (.iconst 0, 1) := zrD zrw_cX8_scan_32 (i := 12) (by decide +kernel) rfl
theorem dX8_scan_45 : decode cX8_scan 45 = .ok (.istore 6, 2) := zrD zrw_cX8_scan_32 (i := 13) (by decide +kernel) rfl
theorem dX8_scan_47 : decode cX8_scan 47 = .ok (.iload_n 3, 1) := zrD zrw_cX8_scan_32 (i := 15) (by decide +kernel) rfl
theorem dX8_scan_48 : decode cX8_scan 48 = .ok (.iload_n 2, 1) := zrD zrw_cX8_scan_32 (i := 16) (by decide +kernel) rfl
theorem dX8_scan_49 : decode cX8_scan 49 = .ok (.if_icmp .lt 14, 3) := zrD zrw_cX8_scan_32 (i := 17) (by decide +kernel) rfl
theorem dX8_scan_52 : decode cX8_scan 52 = .ok (.aload_n 0, 1) := zrD zrw_cX8_scan_32 (i := 20) (by decide +kernel) rfl
theorem dX8_scan_53 : decode cX8_scan 53 = .ok (.bipush 33, 2) := zrD zrw_cX8_scan_32 (i := 21) (by decide +kernel) rfl
theorem dX8_scan_55 : decode cX8_scan 55 = .ok (.lconst 0, 1) := zrD zrw_cX8_scan_32 (i := 23) (by decide +kernel) rfl
theorem dX8_scan_56 : decode cX8_scan 56 = .ok (.iload_n 2, 1) := zrD zrw_cX8_scan_32 (i := 24) (by decide +kernel) rfl
theorem dX8_scan_57 : decode cX8_scan 57 = .ok (.invokevirtual 49, 3) := zrD zrw_cX8_scan_32 (i := 25) (by decide +kernel) rfl
theorem dX8_scan_60 : decode cX8_scan 60 = .ok (.goto 84, 3) := zrD zrw_cX8_scan_32 (i := 28) (by decide +kernel) rfl
def zrk_cX8_scan_63 : ByteArray := .mk #[21, 6, 184, 0, 53, 153, 0, 14, 42, 43, 28, 29, 182, 0, 57, 62, 167, 0, 65, 21, 6, 184, 0, 60, 153, 0, 14, 42, 43, 28, 29]
theorem zrw_cX8_scan_63 : zrW 63 cX8_scan zrk_cX8_scan_63 := by unfold zrW; decide +kernel
theorem dX8_scan_63 : decode cX8_scan 63 = .ok (.iload 6, 2) := zrD zrw_cX8_scan_63 (i := 0) (by decide +kernel) rfl
theorem dX8_scan_65 : decode cX8_scan 65 = .ok (.invokestatic 53, 3) := zrD zrw_cX8_scan_63 (i := 2) (by decide +kernel) rfl
theorem dX8_scan_68 : decode cX8_scan 68 = .ok (.ifCond .eq 14, 3) := zrD zrw_cX8_scan_63 (i := 5) (by decide +kernel) rfl
theorem dX8_scan_71 : decode cX8_scan 71 = .ok (.aload_n 0, 1) := zrD zrw_cX8_scan_63 (i := 8) (by decide +kernel) rfl
theorem dX8_scan_72 : decode cX8_scan 72 = .ok (.aload_n 1, 1) := zrD zrw_cX8_scan_63 (i := 9) (by decide +kernel) rfl
theorem dX8_scan_73 : decode cX8_scan 73 = .ok (.iload_n 2, 1) := zrD zrw_cX8_scan_63 (i := 10) (by decide +kernel) rfl
theorem dX8_scan_74 : decode cX8_scan 74 = .ok (.iload_n 3, 1) := zrD zrw_cX8_scan_63 (i := 11) (by decide +kernel) rfl
theorem dX8_scan_75 : decode cX8_scan 75 = .ok (.invokevirtual 57, 3) := zrD zrw_cX8_scan_63 (i := 12) (by decide +kernel) rfl
theorem dX8_scan_78 : decode cX8_scan 78 = .ok (.istore_n 3, 1) := zrD zrw_cX8_scan_63 (i := 15) (by decide +kernel) rfl
theorem dX8_scan_79 : decode cX8_scan 79 = .ok (.goto 65, 3) := zrD zrw_cX8_scan_63 (i := 16) (by decide +kernel) rfl
theorem dX8_scan_82 : decode cX8_scan 82 = .ok (.iload 6, 2) := zrD zrw_cX8_scan_63 (i := 19) (by decide +kernel) rfl
theorem dX8_scan_84 : decode cX8_scan 84 = .ok (.invokestatic 60, 3) := zrD zrw_cX8_scan_63 (i := 21) (by decide +kernel) rfl
theorem dX8_scan_87 : decode cX8_scan 87 = .ok (.ifCond .eq 14, 3) := zrD zrw_cX8_scan_63 (i := 24) (by decide +kernel) rfl
theorem dX8_scan_90 : decode cX8_scan 90 = .ok (.aload_n 0, 1) := zrD zrw_cX8_scan_63 (i := 27) (by decide +kernel) rfl
theorem dX8_scan_91 : decode cX8_scan 91 = .ok (.aload_n 1, 1) := zrD zrw_cX8_scan_63 (i := 28) (by decide +kernel) rfl
theorem dX8_scan_92 : decode cX8_scan 92 = .ok (.iload_n 2, 1) := zrD zrw_cX8_scan_63 (i := 29) (by decide +kernel) rfl
theorem dX8_scan_93 : decode cX8_scan 93 = .ok (.iload_n 3, 1) := zrD zrw_cX8_scan_63 (i := 30) (by decide +kernel) rfl
def zrk_cX8_scan_94 : ByteArray := .mk #[182, 0, 63, 62, 167, 0, 46, 21, 6, 158, 0, 14, 18, 66, 21, 6, 146, 182, 0, 68, 167, 0, 4, 2, 54, 7, 42, 21, 7, 156, 0, 8]
theorem zrw_cX8_scan_94 : zrW 94 cX8_scan zrk_cX8_scan_94 := by unfold zrW; decide +kernel
theorem dX8_scan_94 : decode cX8_scan 94 = .ok (.invokevirtual 63, 3) := zrD zrw_cX8_scan_94 (i := 0) (by decide +kernel) rfl
theorem dX8_scan_97 : decode cX8_scan 97 = .ok (.istore_n 3, 1) := zrD zrw_cX8_scan_94 (i := 3) (by decide +kernel) rfl
theorem dX8_scan_98 : decode cX8_scan 98 = .ok (.goto 46, 3) := zrD zrw_cX8_scan_94 (i := 4) (by decide +kernel) rfl
theorem dX8_scan_101 : decode cX8_scan 101 = .ok (.iload 6, 2) := zrD zrw_cX8_scan_94 (i := 7) (by decide +kernel) rfl
theorem dX8_scan_103 : decode cX8_scan 103 = .ok (.ifCond .le 14, 3) := zrD zrw_cX8_scan_94 (i := 9) (by decide +kernel) rfl
theorem dX8_scan_106 : decode cX8_scan 106 = .ok (.ldc 66, 2) := zrD zrw_cX8_scan_94 (i := 12) (by decide +kernel) rfl
theorem dX8_scan_108 : decode cX8_scan 108 = .ok (.iload 6, 2) := zrD zrw_cX8_scan_94 (i := 14) (by decide +kernel) rfl
theorem dX8_scan_110 : decode cX8_scan 110 = .ok (.i2c, 1) := zrD zrw_cX8_scan_94 (i := 16) (by decide +kernel) rfl
theorem dX8_scan_111 : decode cX8_scan 111 = .ok (.invokevirtual 68, 3) := zrD zrw_cX8_scan_94 (i := 17) (by decide +kernel) rfl
theorem dX8_scan_114 : decode cX8_scan 114 = .ok (.goto 4, 3) := zrD zrw_cX8_scan_94 (i := 20) (by decide +kernel) rfl
theorem dX8_scan_117 : decode cX8_scan 117 = .ok (.iconst (-1), 1) := zrD zrw_cX8_scan_94 (i := 23) (by decide +kernel) rfl
theorem dX8_scan_118 : decode cX8_scan 118 = .ok (.istore 7, 2) := zrD zrw_cX8_scan_94 (i := 24) (by decide +kernel) rfl
theorem dX8_scan_120 : decode cX8_scan 120 = .ok (.aload_n 0, 1) := zrD zrw_cX8_scan_94 (i := 26) (by decide +kernel) rfl
theorem dX8_scan_121 : decode cX8_scan 121 = .ok (.iload 7, 2) := zrD zrw_cX8_scan_94 (i := 27) (by decide +kernel) rfl
theorem dX8_scan_123 : decode cX8_scan 123 = .ok (.ifCond .ge 8, 3) := zrD zrw_cX8_scan_94 (i := 29) (by decide +kernel) rfl
def zrk_cX8_scan_126 : ByteArray := .mk #[16, 34, 167, 0, 8, 16, 24, 21, 7, 96, 9, 29, 182, 0, 49, 132, 3, 1, 42, 180, 0, 23, 158, 0, 23, 42, 180, 0, 13, 42]
theorem zrw_cX8_scan_126 : zrW 126 cX8_scan zrk_cX8_scan_126 := by unfold zrW; decide +kernel
theorem dX8_scan_126 : decode cX8_scan 126 = .ok (.bipush 34, 2) := zrD zrw_cX8_scan_126 (i := 0) (by decide +kernel) rfl
theorem dX8_scan_128 : decode cX8_scan 128 = .ok (.goto 8, 3) := zrD zrw_cX8_scan_126 (i := 2) (by decide +kernel) rfl
theorem dX8_scan_131 : decode cX8_scan 131 = .ok (.bipush 24, 2) := zrD zrw_cX8_scan_126 (i := 5) (by decide +kernel) rfl
theorem dX8_scan_133 : decode cX8_scan 133 = .ok (.iload 7, 2) := zrD zrw_cX8_scan_126 (i := 7) (by decide +kernel) rfl
theorem dX8_scan_135 : decode cX8_scan 135 = .ok (.iadd, 1) := zrD zrw_cX8_scan_126 (i := 9) (by decide +kernel) rfl
theorem dX8_scan_136 : decode cX8_scan 136 = .ok (.lconst 0, 1) := zrD zrw_cX8_scan_126 (i := 10) (by decide +kernel) rfl
theorem dX8_scan_137 : decode cX8_scan 137 = .ok (.iload_n 3, 1) := zrD zrw_cX8_scan_126 (i := 11) (by decide +kernel) rfl
theorem dX8_scan_138 : decode cX8_scan 138 = .ok (.invokevirtual 49, 3) := zrD zrw_cX8_scan_126 (i := 12) (by decide +kernel) rfl
theorem dX8_scan_141 : decode cX8_scan 141 = .ok (.iinc 3 1, 3) := zrD zrw_cX8_scan_126 (i := 15) (by decide +kernel) rfl
theorem dX8_scan_144 : decode cX8_scan 144 = .ok (.aload_n 0, 1) := zrD zrw_cX8_scan_126 (i := 18) (by decide +kernel) rfl
theorem dX8_scan_145 : decode cX8_scan 145 = .ok (.getfield 23, 3) := zrD zrw_cX8_scan_126 (i := 19) (by decide +kernel) rfl
theorem dX8_scan_148 : decode cX8_scan 148 = .ok (.ifCond .le 23, 3) := zrD zrw_cX8_scan_126 (i := 22) (by decide +kernel) rfl
theorem dX8_scan_151 : decode cX8_scan 151 = .ok (.aload_n 0, 1) := zrD zrw_cX8_scan_126 (i := 25) (by decide +kernel) rfl
theorem dX8_scan_152 : decode cX8_scan 152 = .ok (.getfield 13, 3) := zrD zrw_cX8_scan_126 (i := 26) (by decide +kernel) rfl
theorem dX8_scan_155 : decode cX8_scan 155 = .ok (.aload_n 0, 1) := zrD zrw_cX8_scan_126 (i := 29) (by decide +kernel) rfl
def zrk_cX8_scan_156 : ByteArray := .mk #[180, 0, 23, 4, 100, 46, 16, 33, 162, 0, 7, 4, 167, 0, 4, 3, 54, 4, 132, 5, 1, 167, 255, 92, 177]
theorem zrw_cX8_scan_156 : zrW 156 cX8_scan zrk_cX8_scan_156 := by unfold zrW; decide +kernel
theorem dX8_scan_156 : decode cX8_scan 156 = .ok (.getfield 23, 3) := zrD zrw_cX8_scan_156 (i := 0) (by decide +kernel) rfl
theorem dX8_scan_159 : decode cX8_scan 159 = .ok (.iconst 1, 1) := zrD zrw_cX8_scan_156 (i := 3) (by decide +kernel) rfl
theorem dX8_scan_160 : decode cX8_scan 160 = .ok (.isub, 1) := zrD zrw_cX8_scan_156 (i := 4) (by decide +kernel) rfl
theorem dX8_scan_161 : decode cX8_scan 161 = .ok (.iaload, 1) := zrD zrw_cX8_scan_156 (i := 5) (by decide +kernel) rfl
theorem dX8_scan_162 : decode cX8_scan 162 = .ok (.bipush 33, 2) := zrD zrw_cX8_scan_156 (i := 6) (by decide +kernel) rfl
theorem dX8_scan_164 : decode cX8_scan 164 = .ok (.if_icmp .ge 7, 3) := zrD zrw_cX8_scan_156 (i := 8) (by decide +kernel) rfl
theorem dX8_scan_167 : decode cX8_scan 167 = .ok (.iconst 1, 1) := zrD zrw_cX8_scan_156 (i := 11) (by decide +kernel) rfl
theorem dX8_scan_168 : decode cX8_scan 168 = .ok (.goto 4, 3) := zrD zrw_cX8_scan_156 (i := 12) (by decide +kernel) rfl
theorem dX8_scan_171 : decode cX8_scan 171 = .ok (.iconst 0, 1) := zrD zrw_cX8_scan_156 (i := 15) (by decide +kernel) rfl
theorem dX8_scan_172 : decode cX8_scan 172 = .ok (.istore 4, 2) := zrD zrw_cX8_scan_156 (i := 16) (by decide +kernel) rfl
theorem dX8_scan_174 : decode cX8_scan 174 = .ok (.iinc 5 1, 3) := zrD zrw_cX8_scan_156 (i := 18) (by decide +kernel) rfl
theorem dX8_scan_177 : decode cX8_scan 177 = .ok (.goto (-164), 3) := zrD zrw_cX8_scan_156 (i := 21) (by decide +kernel) rfl
theorem dX8_scan_180 : decode cX8_scan 180 = .ok (.return_, 1) := zrD zrw_cX8_scan_156 (i := 24) (by decide +kernel) rfl
def zrk_cX8_addLetters_0 : ByteArray := .mk #[9, 55, 4, 29, 54, 6, 21, 6, 28, 162, 0, 43, 43, 21, 6, 51, 184, 0, 53, 153, 0, 33, 21, 6, 29, 100, 16, 8, 162, 0, 15]
theorem zrw_cX8_addLetters_0 : zrW 0 cX8_addLetters zrk_cX8_addLetters_0 := by unfold zrW; decide +kernel
theorem dX8_addLetters_0 : decode cX8_addLetters 0 = .ok (.lconst 0, 1) := zrD zrw_cX8_addLetters_0 (i := 0) (by decide +kernel) rfl
theorem dX8_addLetters_1 : decode cX8_addLetters 1 = .ok (.lstore 4, 2) := zrD zrw_cX8_addLetters_0 (i := 1) (by decide +kernel) rfl
theorem dX8_addLetters_3 : decode cX8_addLetters 3 = .ok (.iload_n 3, 1) := zrD zrw_cX8_addLetters_0 (i := 3) (by decide +kernel) rfl
theorem dX8_addLetters_4 : decode cX8_addLetters 4 = .ok (.istore 6, 2) := zrD zrw_cX8_addLetters_0 (i := 4) (by decide +kernel) rfl
theorem dX8_addLetters_6 : decode cX8_addLetters 6 = .ok (.iload 6, 2) := zrD zrw_cX8_addLetters_0 (i := 6) (by decide +kernel) rfl
theorem dX8_addLetters_8 : decode cX8_addLetters 8 = .ok (.iload_n 2, 1) := zrD zrw_cX8_addLetters_0 (i := 8) (by decide +kernel) rfl
theorem dX8_addLetters_9 : decode cX8_addLetters 9 = .ok (.if_icmp .ge 43, 3) := zrD zrw_cX8_addLetters_0 (i := 9) (by decide +kernel) rfl
theorem dX8_addLetters_12 : decode cX8_addLetters 12 = .ok (.aload_n 1, 1) := zrD zrw_cX8_addLetters_0 (i := 12) (by decide +kernel) rfl
theorem dX8_addLetters_13 : decode cX8_addLetters 13 = .ok (.iload 6, 2) := zrD zrw_cX8_addLetters_0 (i := 13) (by decide +kernel) rfl
theorem dX8_addLetters_15 : decode cX8_addLetters 15 = .ok (.baload, 1) := zrD zrw_cX8_addLetters_0 (i := 15) (by decide +kernel) rfl
theorem dX8_addLetters_16 : decode cX8_addLetters 16 = .ok (.invokestatic 53, 3) := zrD zrw_cX8_addLetters_0 (i := 16) (by decide +kernel) rfl
theorem dX8_addLetters_19 : decode cX8_addLetters 19 = .ok (.ifCond .eq 33, 3) := zrD zrw_cX8_addLetters_0 (i := 19) (by decide +kernel) rfl
theorem dX8_addLetters_22 : decode cX8_addLetters 22 = .ok (.iload 6, 2) := zrD zrw_cX8_addLetters_0 (i := 22) (by decide +kernel) rfl
theorem dX8_addLetters_24 : decode cX8_addLetters 24 = .ok (.iload_n 3, 1) := zrD zrw_cX8_addLetters_0 (i := 24) (by decide +kernel) rfl
theorem dX8_addLetters_25 : decode cX8_addLetters 25 = .ok (.isub, 1) := zrD zrw_cX8_addLetters_0 (i := 25) (by decide +kernel) rfl
theorem dX8_addLetters_26 : decode cX8_addLetters 26 = .ok (.bipush 8, 2) := zrD zrw_cX8_addLetters_0 (i := 26) (by decide +kernel) rfl
theorem dX8_addLetters_28 : decode cX8_addLetters 28 = .ok (.if_icmp .ge 15, 3) := zrD zrw_cX8_addLetters_0 (i := 28) (by decide +kernel) rfl
def zrk_cX8_addLetters_31 : ByteArray := .mk #[22, 4, 43, 21, 6, 51, 184, 0, 39, 167, 0, 4, 9, 55, 4, 132, 6, 1, 167, 255, 213, 42, 21, 6, 29, 100, 16, 8, 164, 0, 8]
theorem zrw_cX8_addLetters_31 : zrW 31 cX8_addLetters zrk_cX8_addLetters_31 := by unfold zrW; decide +kernel
theorem dX8_addLetters_31 : decode cX8_addLetters 31 = .ok (.lload 4, 2) := zrD zrw_cX8_addLetters_31 (i := 0) (by decide +kernel) rfl
theorem dX8_addLetters_33 : decode cX8_addLetters 33 = .ok (.aload_n 1, 1) := zrD zrw_cX8_addLetters_31 (i := 2) (by decide +kernel) rfl
theorem dX8_addLetters_34 : decode cX8_addLetters 34 = .ok (.iload 6, 2) := zrD zrw_cX8_addLetters_31 (i := 3) (by decide +kernel) rfl
theorem dX8_addLetters_36 : decode cX8_addLetters 36 = .ok (.baload, 1) := zrD zrw_cX8_addLetters_31 (i := 5) (by decide +kernel) rfl
theorem dX8_addLetters_37 : decode cX8_addLetters 37 = .ok (.invokestatic 39, 3) := zrD zrw_cX8_addLetters_31 (i := 6) (by decide +kernel) rfl
theorem dX8_addLetters_40 : decode cX8_addLetters 40 = .ok (.goto 4, 3) := zrD zrw_cX8_addLetters_31 (i := 9) (by decide +kernel) rfl
theorem dX8_addLetters_43 : decode cX8_addLetters 43 = .ok (.lconst 0, 1) := zrD zrw_cX8_addLetters_31 (i := 12) (by decide +kernel) rfl
theorem dX8_addLetters_44 : decode cX8_addLetters 44 = .ok (.lstore 4, 2) := zrD zrw_cX8_addLetters_31 (i := 13) (by decide +kernel) rfl
theorem dX8_addLetters_46 : decode cX8_addLetters 46 = .ok (.iinc 6 1, 3) := zrD zrw_cX8_addLetters_31 (i := 15) (by decide +kernel) rfl
theorem dX8_addLetters_49 : decode cX8_addLetters 49 = .ok (.goto (-43), 3) := zrD zrw_cX8_addLetters_31 (i := 18) (by decide +kernel) rfl
theorem dX8_addLetters_52 : decode cX8_addLetters 52 = .ok (.aload_n 0, 1) := zrD zrw_cX8_addLetters_31 (i := 21) (by decide +kernel) rfl
theorem dX8_addLetters_53 : decode cX8_addLetters 53 = .ok (.iload 6, 2) := zrD zrw_cX8_addLetters_31 (i := 22) (by decide +kernel) rfl
theorem dX8_addLetters_55 : decode cX8_addLetters 55 = .ok (.iload_n 3, 1) := zrD zrw_cX8_addLetters_31 (i := 24) (by decide +kernel) rfl
theorem dX8_addLetters_56 : decode cX8_addLetters 56 = .ok (.isub, 1) := zrD zrw_cX8_addLetters_31 (i := 25) (by decide +kernel) rfl
theorem dX8_addLetters_57 : decode cX8_addLetters 57 = .ok (.bipush 8, 2) := zrD zrw_cX8_addLetters_31 (i := 26) (by decide +kernel) rfl
theorem dX8_addLetters_59 : decode cX8_addLetters 59 = .ok (.if_icmp .le 8, 3) := zrD zrw_cX8_addLetters_31 (i := 28) (by decide +kernel) rfl
def zrk_cX8_addLetters_62 : ByteArray := .mk #[16, 34, 167, 0, 9, 42, 22, 4, 182, 0, 72, 22, 4, 29, 182, 0, 49, 21, 6, 172]
theorem zrw_cX8_addLetters_62 : zrW 62 cX8_addLetters zrk_cX8_addLetters_62 := by unfold zrW; decide +kernel
theorem dX8_addLetters_62 : decode cX8_addLetters 62 = .ok (.bipush 34, 2) := zrD zrw_cX8_addLetters_62 (i := 0) (by decide +kernel) rfl
theorem dX8_addLetters_64 : decode cX8_addLetters 64 = .ok (.goto 9, 3) := zrD zrw_cX8_addLetters_62 (i := 2) (by decide +kernel) rfl
theorem dX8_addLetters_67 : decode cX8_addLetters 67 = .ok (.aload_n 0, 1) := zrD zrw_cX8_addLetters_62 (i := 5) (by decide +kernel) rfl
theorem dX8_addLetters_68 : decode cX8_addLetters 68 = .ok (.lload 4, 2) := zrD zrw_cX8_addLetters_62 (i := 6) (by decide +kernel) rfl
theorem dX8_addLetters_70 : decode cX8_addLetters 70 = .ok (.invokevirtual 72, 3) := zrD zrw_cX8_addLetters_62 (i := 8) (by decide +kernel) rfl
theorem dX8_addLetters_73 : decode cX8_addLetters 73 = .ok (.lload 4, 2) := zrD zrw_cX8_addLetters_62 (i := 11) (by decide +kernel) rfl
theorem dX8_addLetters_75 : decode cX8_addLetters 75 = .ok (.iload_n 3, 1) := zrD zrw_cX8_addLetters_62 (i := 13) (by decide +kernel) rfl
theorem dX8_addLetters_76 : decode cX8_addLetters 76 = .ok (.invokevirtual 49, 3) := zrD zrw_cX8_addLetters_62 (i := 14) (by decide +kernel) rfl
theorem dX8_addLetters_79 : decode cX8_addLetters 79 = .ok (.iload 6, 2) := zrD zrw_cX8_addLetters_62 (i := 17) (by decide +kernel) rfl
theorem dX8_addLetters_81 : decode cX8_addLetters 81 = .ok (.ireturn, 1) := zrD zrw_cX8_addLetters_62 (i := 19) (by decide +kernel) rfl
def zrk_cX8_addDigits_0 : ByteArray := .mk #[3, 54, 4, 29, 54, 5, 21, 5, 28, 162, 0, 46, 43, 21, 5, 51, 184, 0, 60, 153, 0, 36, 21, 5, 29, 100, 7, 162, 0, 19, 21, 4]
theorem zrw_cX8_addDigits_0 : zrW 0 cX8_addDigits zrk_cX8_addDigits_0 := by unfold zrW; decide +kernel
theorem dX8_addDigits_0 : decode cX8_addDigits 0 = .ok (.iconst 0, 1) := zrD zrw_cX8_addDigits_0 (i := 0) (by decide +kernel) rfl
theorem dX8_addDigits_1 : decode cX8_addDigits 1 = .ok (.istore 4, 2) := zrD zrw_cX8_addDigits_0 (i := 1) (by decide +kernel) rfl
theorem dX8_addDigits_3 : decode cX8_addDigits 3 = .ok (.iload_n 3, 1) := zrD zrw_cX8_addDigits_0 (i := 3) (by decide +kernel) rfl
theorem dX8_addDigits_4 : decode cX8_addDigits 4 = .ok (.istore 5, 2) := zrD zrw_cX8_addDigits_0 (i := 4) (by decide +kernel) rfl
theorem dX8_addDigits_6 : decode cX8_addDigits 6 = .ok (.iload 5, 2) := zrD zrw_cX8_addDigits_0 (i := 6) (by decide +kernel) rfl
theorem dX8_addDigits_8 : decode cX8_addDigits 8 = .ok (.iload_n 2, 1) := zrD zrw_cX8_addDigits_0 (i := 8) (by decide +kernel) rfl
theorem dX8_addDigits_9 : decode cX8_addDigits 9 = .ok (.if_icmp .ge 46, 3) := zrD zrw_cX8_addDigits_0 (i := 9) (by decide +kernel) rfl
theorem dX8_addDigits_12 : decode cX8_addDigits 12 = .ok (.aload_n 1, 1) := zrD zrw_cX8_addDigits_0 (i := 12) (by decide +kernel) rfl
theorem dX8_addDigits_13 : decode cX8_addDigits 13 = .ok (.iload 5, 2) := zrD zrw_cX8_addDigits_0 (i := 13) (by decide +kernel) rfl
theorem dX8_addDigits_15 : decode cX8_addDigits 15 = .ok (.baload, 1) := zrD zrw_cX8_addDigits_0 (i := 15) (by decide +kernel) rfl
theorem dX8_addDigits_16 : decode cX8_addDigits 16 = .ok (.invokestatic 60, 3) := zrD zrw_cX8_addDigits_0 (i := 16) (by decide +kernel) rfl
theorem dX8_addDigits_19 : decode cX8_addDigits 19 = .ok (.ifCond .eq 36, 3) := zrD zrw_cX8_addDigits_0 (i := 19) (by decide +kernel) rfl
theorem dX8_addDigits_22 : decode cX8_addDigits 22 = .ok (.iload 5, 2) := zrD zrw_cX8_addDigits_0 (i := 22) (by decide +kernel) rfl
theorem dX8_addDigits_24 : decode cX8_addDigits 24 = .ok (.iload_n 3, 1) := zrD zrw_cX8_addDigits_0 (i := 24) (by decide +kernel) rfl
theorem dX8_addDigits_25 : decode cX8_addDigits 25 = .ok (.isub, 1) := zrD zrw_cX8_addDigits_0 (i := 25) (by decide +kernel) rfl
theorem dX8_addDigits_26 : decode cX8_addDigits 26 = .ok (.iconst 4, 1) := zrD zrw_cX8_addDigits_0 (i := 26) (by decide +kernel) rfl
theorem dX8_addDigits_27 : decode cX8_addDigits 27 = .ok (.if_icmp .ge 19, 3) := zrD zrw_cX8_addDigits_0 (i := 27) (by decide +kernel) rfl
theorem dX8_addDigits_30 : decode cX8_addDigits 30 = .ok (.iload 4, 2) := zrD zrw_cX8_addDigits_0 (i := 30) (by decide +kernel) rfl
def zrk_cX8_addDigits_32 : ByteArray := .mk #[16, 10, 104, 43, 21, 5, 51, 16, 48, 100, 96, 167, 0, 4, 3, 54, 4, 132, 5, 1, 167, 255, 210, 42, 21, 5, 29, 100, 7, 164, 0, 8]
theorem zrw_cX8_addDigits_32 : zrW 32 cX8_addDigits zrk_cX8_addDigits_32 := by unfold zrW; decide +kernel
theorem dX8_addDigits_32 : decode cX8_addDigits 32 = .ok (.bipush 10, 2) := zrD zrw_cX8_addDigits_32 (i := 0) (by decide +kernel) rfl
theorem dX8_addDigits_34 : decode cX8_addDigits 34 = .ok (.imul, 1) := zrD zrw_cX8_addDigits_32 (i := 2) (by decide +kernel) rfl
theorem dX8_addDigits_35 : decode cX8_addDigits 35 = .ok (.aload_n 1, 1) := zrD zrw_cX8_addDigits_32 (i := 3) (by decide +kernel) rfl
theorem dX8_addDigits_36 : decode cX8_addDigits 36 = .ok (.iload 5, 2) := zrD zrw_cX8_addDigits_32 (i := 4) (by decide +kernel) rfl
theorem dX8_addDigits_38 : decode cX8_addDigits 38 = .ok (.baload, 1) := zrD zrw_cX8_addDigits_32 (i := 6) (by decide +kernel) rfl
theorem dX8_addDigits_39 : decode cX8_addDigits 39 = .ok (.bipush 48, 2) := zrD zrw_cX8_addDigits_32 (i := 7) (by decide +kernel) rfl
theorem dX8_addDigits_41 : decode cX8_addDigits 41 = .ok (.isub, 1) := zrD zrw_cX8_addDigits_32 (i := 9) (by decide +kernel) rfl
theorem dX8_addDigits_42 : decode cX8_addDigits 42 = .ok (.iadd, 1) := zrD zrw_cX8_addDigits_32 (i := 10) (by decide +kernel) rfl
theorem dX8_addDigits_43 : decode cX8_addDigits 43 = .ok (.goto 4, 3) := zrD zrw_cX8_addDigits_32 (i := 11) (by decide +kernel) rfl
theorem dX8_addDigits_46 : decode cX8_addDigits 46 = .ok (.iconst 0, 1) := zrD zrw_cX8_addDigits_32 (i := 14) (by decide +kernel) rfl
theorem dX8_addDigits_47 : decode cX8_addDigits 47 = .ok (.istore 4, 2) := zrD zrw_cX8_addDigits_32 (i := 15) (by decide +kernel) rfl
theorem dX8_addDigits_49 : decode cX8_addDigits 49 = .ok (.iinc 5 1, 3) := zrD zrw_cX8_addDigits_32 (i := 17) (by decide +kernel) rfl
theorem dX8_addDigits_52 : decode cX8_addDigits 52 = .ok (.goto (-46), 3) := zrD zrw_cX8_addDigits_32 (i := 20) (by decide +kernel) rfl
theorem dX8_addDigits_55 : decode cX8_addDigits 55 = .ok (.aload_n 0, 1) := zrD zrw_cX8_addDigits_32 (i := 23) (by decide +kernel) rfl
theorem dX8_addDigits_56 : decode cX8_addDigits 56 = .ok (.iload 5, 2) := zrD zrw_cX8_addDigits_32 (i := 24) (by decide +kernel) rfl
theorem dX8_addDigits_58 : decode cX8_addDigits 58 = .ok (.iload_n 3, 1) := zrD zrw_cX8_addDigits_32 (i := 26) (by decide +kernel) rfl
theorem dX8_addDigits_59 : decode cX8_addDigits 59 = .ok (.isub, 1) := zrD zrw_cX8_addDigits_32 (i := 27) (by decide +kernel) rfl
theorem dX8_addDigits_60 : decode cX8_addDigits 60 = .ok (.iconst 4, 1) := zrD zrw_cX8_addDigits_32 (i := 28) (by decide +kernel) rfl
theorem dX8_addDigits_61 : decode cX8_addDigits 61 = .ok (.if_icmp .le 8, 3) := zrD zrw_cX8_addDigits_32 (i := 29) (by decide +kernel) rfl
def zrk_cX8_addDigits_64 : ByteArray := .mk #[16, 34, 167, 0, 5, 16, 23, 21, 4, 133, 29, 182, 0, 49, 21, 5, 172]
theorem zrw_cX8_addDigits_64 : zrW 64 cX8_addDigits zrk_cX8_addDigits_64 := by unfold zrW; decide +kernel
theorem dX8_addDigits_64 : decode cX8_addDigits 64 = .ok (.bipush 34, 2) := zrD zrw_cX8_addDigits_64 (i := 0) (by decide +kernel) rfl
theorem dX8_addDigits_66 : decode cX8_addDigits 66 = .ok (.goto 5, 3) := zrD zrw_cX8_addDigits_64 (i := 2) (by decide +kernel) rfl
theorem dX8_addDigits_69 : decode cX8_addDigits 69 = .ok (.bipush 23, 2) := zrD zrw_cX8_addDigits_64 (i := 5) (by decide +kernel) rfl
theorem dX8_addDigits_71 : decode cX8_addDigits 71 = .ok (.iload 4, 2) := zrD zrw_cX8_addDigits_64 (i := 7) (by decide +kernel) rfl
theorem dX8_addDigits_73 : decode cX8_addDigits 73 = .ok (.i2l, 1) := zrD zrw_cX8_addDigits_64 (i := 9) (by decide +kernel) rfl
theorem dX8_addDigits_74 : decode cX8_addDigits 74 = .ok (.iload_n 3, 1) := zrD zrw_cX8_addDigits_64 (i := 10) (by decide +kernel) rfl
theorem dX8_addDigits_75 : decode cX8_addDigits 75 = .ok (.invokevirtual 49, 3) := zrD zrw_cX8_addDigits_64 (i := 11) (by decide +kernel) rfl
theorem dX8_addDigits_78 : decode cX8_addDigits 78 = .ok (.iload 5, 2) := zrD zrw_cX8_addDigits_64 (i := 14) (by decide +kernel) rfl
theorem dX8_addDigits_80 : decode cX8_addDigits 80 = .ok (.ireturn, 1) := zrD zrw_cX8_addDigits_64 (i := 16) (by decide +kernel) rfl
def zrk_cX8_kindOf_0 : ByteArray := .mk #[16, 22, 62, 3, 54, 4, 21, 4, 16, 22, 162, 0, 24, 42, 180, 0, 9, 21, 4, 47, 31, 148, 154, 0, 6, 21, 4, 62, 132, 4, 1]
theorem zrw_cX8_kindOf_0 : zrW 0 cX8_kindOf zrk_cX8_kindOf_0 := by unfold zrW; decide +kernel
theorem dX8_kindOf_0 : decode cX8_kindOf 0 = .ok (.bipush 22, 2) := zrD zrw_cX8_kindOf_0 (i := 0) (by decide +kernel) rfl
theorem dX8_kindOf_2 : decode cX8_kindOf 2 = .ok (.istore_n 3, 1) := zrD zrw_cX8_kindOf_0 (i := 2) (by decide +kernel) rfl
theorem dX8_kindOf_3 : decode cX8_kindOf 3 = .ok (.iconst 0, 1) := zrD zrw_cX8_kindOf_0 (i := 3) (by decide +kernel) rfl
theorem dX8_kindOf_4 : decode cX8_kindOf 4 = .ok (.istore 4, 2) := zrD zrw_cX8_kindOf_0 (i := 4) (by decide +kernel) rfl
theorem dX8_kindOf_6 : decode cX8_kindOf 6 = .ok (.iload 4, 2) := zrD zrw_cX8_kindOf_0 (i := 6) (by decide +kernel) rfl
theorem dX8_kindOf_8 : decode cX8_kindOf 8 = .ok (.bipush 22, 2) := zrD zrw_cX8_kindOf_0 (i := 8) (by decide +kernel) rfl
theorem dX8_kindOf_10 : decode cX8_kindOf 10 = .ok (.if_icmp .ge 24, 3) := zrD zrw_cX8_kindOf_0 (i := 10) (by decide +kernel) rfl
theorem dX8_kindOf_13 : decode cX8_kindOf 13 = .ok (.aload_n 0, 1) := zrD zrw_cX8_kindOf_0 (i := 13) (by decide +kernel) rfl
theorem dX8_kindOf_14 : decode cX8_kindOf 14 = .ok (.getfield 9, 3) := zrD zrw_cX8_kindOf_0 (i := 14) (by decide +kernel) rfl
theorem dX8_kindOf_17 : decode cX8_kindOf 17 = .ok (.iload 4, 2) := zrD zrw_cX8_kindOf_0 (i := 17) (by decide +kernel) rfl
theorem dX8_kindOf_19 : decode cX8_kindOf 19 = .ok (.laload, 1) := zrD zrw_cX8_kindOf_0 (i := 19) (by decide +kernel) rfl
theorem dX8_kindOf_20 : decode cX8_kindOf 20 = .ok (.lload_n 1, 1) := zrD zrw_cX8_kindOf_0 (i := 20) (by decide +kernel) rfl
theorem dX8_kindOf_21 : decode cX8_kindOf 21 = .ok (.lcmp, 1) := zrD zrw_cX8_kindOf_0 (i := 21) (by decide +kernel) rfl
theorem dX8_kindOf_22 : decode cX8_kindOf 22 = .ok (.ifCond .ne 6, 3) := zrD zrw_cX8_kindOf_0 (i := 22) (by decide +kernel) rfl
theorem dX8_kindOf_25 : decode cX8_kindOf 25 = .ok (.iload 4, 2) := zrD zrw_cX8_kindOf_0 (i := 25) (by decide +kernel) rfl
theorem dX8_kindOf_27 : decode cX8_kindOf 27 = .ok (.istore_n 3, 1) := zrD zrw_cX8_kindOf_0 (i := 27) (by decide +kernel) rfl
theorem dX8_kindOf_28 : decode cX8_kindOf 28 = .ok (.iinc 4 1, 3) := zrD zrw_cX8_kindOf_0 (i := 28) (by decide +kernel) rfl
def zrk_cX8_kindOf_31 : ByteArray := .mk #[167, 255, 231, 29, 172]
theorem zrw_cX8_kindOf_31 : zrW 31 cX8_kindOf zrk_cX8_kindOf_31 := by unfold zrW; decide +kernel
theorem dX8_kindOf_31 : decode cX8_kindOf 31 = .ok (.goto (-25), 3) := zrD zrw_cX8_kindOf_31 (i := 0) (by decide +kernel) rfl
theorem dX8_kindOf_34 : decode cX8_kindOf 34 = .ok (.iload_n 3, 1) := zrD zrw_cX8_kindOf_31 (i := 3) (by decide +kernel) rfl
theorem dX8_kindOf_35 : decode cX8_kindOf 35 = .ok (.ireturn, 1) := zrD zrw_cX8_kindOf_31 (i := 4) (by decide +kernel) rfl
def zrk_cX8_add_0 : ByteArray := .mk #[42, 180, 0, 23, 42, 180, 0, 13, 190, 162, 0, 44, 42, 180, 0, 13, 42, 180, 0, 23, 27, 79, 42, 180, 0, 17, 42, 180, 0, 23, 32, 80]
theorem zrw_cX8_add_0 : zrW 0 cX8_add zrk_cX8_add_0 := by unfold zrW; decide +kernel
theorem dX8_add_0 : decode cX8_add 0 = .ok (.aload_n 0, 1) := zrD zrw_cX8_add_0 (i := 0) (by decide +kernel) rfl
theorem dX8_add_1 : decode cX8_add 1 = .ok (.getfield 23, 3) := zrD zrw_cX8_add_0 (i := 1) (by decide +kernel) rfl
theorem dX8_add_4 : decode cX8_add 4 = .ok (.aload_n 0, 1) := zrD zrw_cX8_add_0 (i := 4) (by decide +kernel) rfl
theorem dX8_add_5 : decode cX8_add 5 = .ok (.getfield 13, 3) := zrD zrw_cX8_add_0 (i := 5) (by decide +kernel) rfl
theorem dX8_add_8 : decode cX8_add 8 = .ok (.arraylength, 1) := zrD zrw_cX8_add_0 (i := 8) (by decide +kernel) rfl
theorem dX8_add_9 : decode cX8_add 9 = .ok (.if_icmp .ge 44, 3) := zrD zrw_cX8_add_0 (i := 9) (by decide +kernel) rfl
theorem dX8_add_12 : decode cX8_add 12 = .ok (.aload_n 0, 1) := zrD zrw_cX8_add_0 (i := 12) (by decide +kernel) rfl
theorem dX8_add_13 : decode cX8_add 13 = .ok (.getfield 13, 3) := zrD zrw_cX8_add_0 (i := 13) (by decide +kernel) rfl
theorem dX8_add_16 : decode cX8_add 16 = .ok (.aload_n 0, 1) := zrD zrw_cX8_add_0 (i := 16) (by decide +kernel) rfl
theorem dX8_add_17 : decode cX8_add 17 = .ok (.getfield 23, 3) := zrD zrw_cX8_add_0 (i := 17) (by decide +kernel) rfl
theorem dX8_add_20 : decode cX8_add 20 = .ok (.iload_n 1, 1) := zrD zrw_cX8_add_0 (i := 20) (by decide +kernel) rfl
theorem dX8_add_21 : decode cX8_add 21 = .ok (.iastore, 1) := zrD zrw_cX8_add_0 (i := 21) (by decide +kernel) rfl
theorem dX8_add_22 : decode cX8_add 22 = .ok (.aload_n 0, 1) := zrD zrw_cX8_add_0 (i := 22) (by decide +kernel) rfl
theorem dX8_add_23 : decode cX8_add 23 = .ok (.getfield 17, 3) := zrD zrw_cX8_add_0 (i := 23) (by decide +kernel) rfl
theorem dX8_add_26 : decode cX8_add 26 = .ok (.aload_n 0, 1) := zrD zrw_cX8_add_0 (i := 26) (by decide +kernel) rfl
theorem dX8_add_27 : decode cX8_add 27 = .ok (.getfield 23, 3) := zrD zrw_cX8_add_0 (i := 27) (by decide +kernel) rfl
theorem dX8_add_30 : decode cX8_add 30 = .ok (.lload_n 2, 1) := zrD zrw_cX8_add_0 (i := 30) (by decide +kernel) rfl
theorem dX8_add_31 : decode cX8_add 31 = .ok (.lastore, 1) := zrD zrw_cX8_add_0 (i := 31) (by decide +kernel) rfl
def zrk_cX8_add_32 : ByteArray := .mk #[42, 180, 0, 20, 42, 180, 0, 23, 21, 4, 79, 42, 89, 180, 0, 23, 4, 96, 181, 0, 23, 177]
theorem zrw_cX8_add_32 : zrW 32 cX8_add zrk_cX8_add_32 := by unfold zrW; decide +kernel
theorem dX8_add_32 : decode cX8_add 32 = .ok (.aload_n 0, 1) := zrD zrw_cX8_add_32 (i := 0) (by decide +kernel) rfl
theorem dX8_add_33 : decode cX8_add 33 = .ok (.getfield 20, 3) := zrD zrw_cX8_add_32 (i := 1) (by decide +kernel) rfl
theorem dX8_add_36 : decode cX8_add 36 = .ok (.aload_n 0, 1) := zrD zrw_cX8_add_32 (i := 4) (by decide +kernel) rfl
theorem dX8_add_37 : decode cX8_add 37 = .ok (.getfield 23, 3) := zrD zrw_cX8_add_32 (i := 5) (by decide +kernel) rfl
theorem dX8_add_40 : decode cX8_add 40 = .ok (.iload 4, 2) := zrD zrw_cX8_add_32 (i := 8) (by decide +kernel) rfl
theorem dX8_add_42 : decode cX8_add 42 = .ok (.iastore, 1) := zrD zrw_cX8_add_32 (i := 10) (by decide +kernel) rfl
theorem dX8_add_43 : decode cX8_add 43 = .ok (.aload_n 0, 1) := zrD zrw_cX8_add_32 (i := 11) (by decide +kernel) rfl
theorem dX8_add_44 : decode cX8_add 44 = .ok (.dup, 1) := zrD zrw_cX8_add_32 (i := 12) (by decide +kernel) rfl
theorem dX8_add_45 : decode cX8_add 45 = .ok (.getfield 23, 3) := zrD zrw_cX8_add_32 (i := 13) (by decide +kernel) rfl
theorem dX8_add_48 : decode cX8_add 48 = .ok (.iconst 1, 1) := zrD zrw_cX8_add_32 (i := 16) (by decide +kernel) rfl
theorem dX8_add_49 : decode cX8_add 49 = .ok (.iadd, 1) := zrD zrw_cX8_add_32 (i := 17) (by decide +kernel) rfl
theorem dX8_add_50 : decode cX8_add 50 = .ok (.putfield 23, 3) := zrD zrw_cX8_add_32 (i := 18) (by decide +kernel) rfl
theorem dX8_add_53 : decode cX8_add 53 = .ok (.return_, 1) := zrD zrw_cX8_add_32 (i := 21) (by decide +kernel) rfl
def zrk_cX8_pastBlanks_0 : ByteArray := .mk #[28, 62, 29, 27, 162, 0, 41, 42, 29, 51, 16, 32, 159, 0, 27, 42, 29, 51, 16, 9, 159, 0, 19, 42, 29, 51, 16, 10, 159, 0, 11, 42]
theorem zrw_cX8_pastBlanks_0 : zrW 0 cX8_pastBlanks zrk_cX8_pastBlanks_0 := by unfold zrW; decide +kernel
theorem dX8_pastBlanks_0 : decode cX8_pastBlanks 0 = .ok (.iload_n 2, 1) := zrD zrw_cX8_pastBlanks_0 (i := 0) (by decide +kernel) rfl
theorem dX8_pastBlanks_1 : decode cX8_pastBlanks 1 = .ok (.istore_n 3, 1) := zrD zrw_cX8_pastBlanks_0 (i := 1) (by decide +kernel) rfl
theorem dX8_pastBlanks_2 : decode cX8_pastBlanks 2 = .ok (.iload_n 3, 1) := zrD zrw_cX8_pastBlanks_0 (i := 2) (by decide +kernel) rfl
theorem dX8_pastBlanks_3 : decode cX8_pastBlanks 3 = .ok (.iload_n 1, 1) := zrD zrw_cX8_pastBlanks_0 (i := 3) (by decide +kernel) rfl
theorem dX8_pastBlanks_4 : decode cX8_pastBlanks 4 = .ok (.if_icmp .ge 41, 3) := zrD zrw_cX8_pastBlanks_0 (i := 4) (by decide +kernel) rfl
theorem dX8_pastBlanks_7 : decode cX8_pastBlanks 7 = .ok (.aload_n 0, 1) := zrD zrw_cX8_pastBlanks_0 (i := 7) (by decide +kernel) rfl
theorem dX8_pastBlanks_8 : decode cX8_pastBlanks 8 = .ok (.iload_n 3, 1) := zrD zrw_cX8_pastBlanks_0 (i := 8) (by decide +kernel) rfl
theorem dX8_pastBlanks_9 : decode cX8_pastBlanks 9 = .ok (.baload, 1) := zrD zrw_cX8_pastBlanks_0 (i := 9) (by decide +kernel) rfl
theorem dX8_pastBlanks_10 : decode cX8_pastBlanks 10 = .ok (.bipush 32, 2) := zrD zrw_cX8_pastBlanks_0 (i := 10) (by decide +kernel) rfl
theorem dX8_pastBlanks_12 : decode cX8_pastBlanks 12 = .ok (.if_icmp .eq 27, 3) := zrD zrw_cX8_pastBlanks_0 (i := 12) (by decide +kernel) rfl
theorem dX8_pastBlanks_15 : decode cX8_pastBlanks 15 = .ok (.aload_n 0, 1) := zrD zrw_cX8_pastBlanks_0 (i := 15) (by decide +kernel) rfl
theorem dX8_pastBlanks_16 : decode cX8_pastBlanks 16 = .ok (.iload_n 3, 1) := zrD zrw_cX8_pastBlanks_0 (i := 16) (by decide +kernel) rfl
theorem dX8_pastBlanks_17 : decode cX8_pastBlanks 17 = .ok (.baload, 1) := zrD zrw_cX8_pastBlanks_0 (i := 17) (by decide +kernel) rfl
theorem dX8_pastBlanks_18 : decode cX8_pastBlanks 18 = .ok (.bipush 9, 2) := zrD zrw_cX8_pastBlanks_0 (i := 18) (by decide +kernel) rfl
theorem dX8_pastBlanks_20 : decode cX8_pastBlanks 20 = .ok (.if_icmp .eq 19, 3) := zrD zrw_cX8_pastBlanks_0 (i := 20) (by decide +kernel) rfl
theorem dX8_pastBlanks_23 : decode cX8_pastBlanks 23 = .ok (.aload_n 0, 1) := zrD zrw_cX8_pastBlanks_0 (i := 23) (by decide +kernel) rfl
theorem dX8_pastBlanks_24 : decode cX8_pastBlanks 24 = .ok (.iload_n 3, 1) := zrD zrw_cX8_pastBlanks_0 (i := 24) (by decide +kernel) rfl
theorem dX8_pastBlanks_25 : decode cX8_pastBlanks 25 = .ok (.baload, 1) := zrD zrw_cX8_pastBlanks_0 (i := 25) (by decide +kernel) rfl
theorem dX8_pastBlanks_26 : decode cX8_pastBlanks 26 = .ok (.bipush 10, 2) := zrD zrw_cX8_pastBlanks_0 (i := 26) (by decide +kernel) rfl
theorem dX8_pastBlanks_28 : decode cX8_pastBlanks 28 = .ok (.if_icmp .eq 11, 3) := zrD zrw_cX8_pastBlanks_0 (i := 28) (by decide +kernel) rfl
theorem dX8_pastBlanks_31 : decode cX8_pastBlanks 31 = .ok (.aload_n 0, 1) := zrD zrw_cX8_pastBlanks_0 (i := 31) (by decide +kernel) rfl
def zrk_cX8_pastBlanks_32 : ByteArray := .mk #[29, 51, 16, 13, 160, 0, 9, 132, 3, 1, 167, 255, 216, 29, 172]
theorem zrw_cX8_pastBlanks_32 : zrW 32 cX8_pastBlanks zrk_cX8_pastBlanks_32 := by unfold zrW; decide +kernel
theorem dX8_pastBlanks_32 : decode cX8_pastBlanks 32 = .ok (.iload_n 3, 1) := zrD zrw_cX8_pastBlanks_32 (i := 0) (by decide +kernel) rfl
theorem dX8_pastBlanks_33 : decode cX8_pastBlanks 33 = .ok (.baload, 1) := zrD zrw_cX8_pastBlanks_32 (i := 1) (by decide +kernel) rfl
theorem dX8_pastBlanks_34 : decode cX8_pastBlanks 34 = .ok (.bipush 13, 2) := zrD zrw_cX8_pastBlanks_32 (i := 2) (by decide +kernel) rfl
theorem dX8_pastBlanks_36 : decode cX8_pastBlanks 36 = .ok (.if_icmp .ne 9, 3) := zrD zrw_cX8_pastBlanks_32 (i := 4) (by decide +kernel) rfl
theorem dX8_pastBlanks_39 : decode cX8_pastBlanks 39 = .ok (.iinc 3 1, 3) := zrD zrw_cX8_pastBlanks_32 (i := 7) (by decide +kernel) rfl
theorem dX8_pastBlanks_42 : decode cX8_pastBlanks 42 = .ok (.goto (-40), 3) := zrD zrw_cX8_pastBlanks_32 (i := 10) (by decide +kernel) rfl
theorem dX8_pastBlanks_45 : decode cX8_pastBlanks 45 = .ok (.iload_n 3, 1) := zrD zrw_cX8_pastBlanks_32 (i := 13) (by decide +kernel) rfl
theorem dX8_pastBlanks_46 : decode cX8_pastBlanks 46 = .ok (.ireturn, 1) := zrD zrw_cX8_pastBlanks_32 (i := 14) (by decide +kernel) rfl
def zrk_cX8_isLetter_0 : ByteArray := .mk #[26, 16, 97, 161, 0, 13, 26, 16, 122, 163, 0, 7, 4, 167, 0, 4, 3, 172]
theorem zrw_cX8_isLetter_0 : zrW 0 cX8_isLetter zrk_cX8_isLetter_0 := by unfold zrW; decide +kernel
theorem dX8_isLetter_0 : decode cX8_isLetter 0 = .ok (.iload_n 0, 1) := zrD zrw_cX8_isLetter_0 (i := 0) (by decide +kernel) rfl
theorem dX8_isLetter_1 : decode cX8_isLetter 1 = .ok (.bipush 97, 2) := zrD zrw_cX8_isLetter_0 (i := 1) (by decide +kernel) rfl
theorem dX8_isLetter_3 : decode cX8_isLetter 3 = .ok (.if_icmp .lt 13, 3) := zrD zrw_cX8_isLetter_0 (i := 3) (by decide +kernel) rfl
theorem dX8_isLetter_6 : decode cX8_isLetter 6 = .ok (.iload_n 0, 1) := zrD zrw_cX8_isLetter_0 (i := 6) (by decide +kernel) rfl
theorem dX8_isLetter_7 : decode cX8_isLetter 7 = .ok (.bipush 122, 2) := zrD zrw_cX8_isLetter_0 (i := 7) (by decide +kernel) rfl
theorem dX8_isLetter_9 : decode cX8_isLetter 9 = .ok (.if_icmp .gt 7, 3) := zrD zrw_cX8_isLetter_0 (i := 9) (by decide +kernel) rfl
theorem dX8_isLetter_12 : decode cX8_isLetter 12 = .ok (.iconst 1, 1) := zrD zrw_cX8_isLetter_0 (i := 12) (by decide +kernel) rfl
theorem dX8_isLetter_13 : decode cX8_isLetter 13 = .ok (.goto 4, 3) := zrD zrw_cX8_isLetter_0 (i := 13) (by decide +kernel) rfl
theorem dX8_isLetter_16 : decode cX8_isLetter 16 = .ok (.iconst 0, 1) := zrD zrw_cX8_isLetter_0 (i := 16) (by decide +kernel) rfl
theorem dX8_isLetter_17 : decode cX8_isLetter 17 = .ok (.ireturn, 1) := zrD zrw_cX8_isLetter_0 (i := 17) (by decide +kernel) rfl
def zrk_cX8_isDigit_0 : ByteArray := .mk #[26, 16, 48, 161, 0, 13, 26, 16, 57, 163, 0, 7, 4, 167, 0, 4, 3, 172]
theorem zrw_cX8_isDigit_0 : zrW 0 cX8_isDigit zrk_cX8_isDigit_0 := by unfold zrW; decide +kernel
theorem dX8_isDigit_0 : decode cX8_isDigit 0 = .ok (.iload_n 0, 1) := zrD zrw_cX8_isDigit_0 (i := 0) (by decide +kernel) rfl
theorem dX8_isDigit_1 : decode cX8_isDigit 1 = .ok (.bipush 48, 2) := zrD zrw_cX8_isDigit_0 (i := 1) (by decide +kernel) rfl
theorem dX8_isDigit_3 : decode cX8_isDigit 3 = .ok (.if_icmp .lt 13, 3) := zrD zrw_cX8_isDigit_0 (i := 3) (by decide +kernel) rfl
theorem dX8_isDigit_6 : decode cX8_isDigit 6 = .ok (.iload_n 0, 1) := zrD zrw_cX8_isDigit_0 (i := 6) (by decide +kernel) rfl
theorem dX8_isDigit_7 : decode cX8_isDigit 7 = .ok (.bipush 57, 2) := zrD zrw_cX8_isDigit_0 (i := 7) (by decide +kernel) rfl
theorem dX8_isDigit_9 : decode cX8_isDigit 9 = .ok (.if_icmp .gt 7, 3) := zrD zrw_cX8_isDigit_0 (i := 9) (by decide +kernel) rfl
theorem dX8_isDigit_12 : decode cX8_isDigit 12 = .ok (.iconst 1, 1) := zrD zrw_cX8_isDigit_0 (i := 12) (by decide +kernel) rfl
theorem dX8_isDigit_13 : decode cX8_isDigit 13 = .ok (.goto 4, 3) := zrD zrw_cX8_isDigit_0 (i := 13) (by decide +kernel) rfl
theorem dX8_isDigit_16 : decode cX8_isDigit 16 = .ok (.iconst 0, 1) := zrD zrw_cX8_isDigit_0 (i := 16) (by decide +kernel) rfl
theorem dX8_isDigit_17 : decode cX8_isDigit 17 = .ok (.ireturn, 1) := zrD zrw_cX8_isDigit_0 (i := 17) (by decide +kernel) rfl
def zrk_cX9_init_0 : ByteArray := .mk #[42, 183, 0, 3, 42, 16, 12]
theorem zrw_cX9_init_0 : zrW 0 cX9_init zrk_cX9_init_0 := by unfold zrW; decide +kernel
theorem dX9_init_0 : decode cX9_init 0 = .ok (.aload_n 0, 1) := zrD zrw_cX9_init_0 (i := 0) (by decide +kernel) rfl
theorem dX9_init_1 : decode cX9_init 1 = .ok (.invokespecial 3, 3) := zrD zrw_cX9_init_0 (i := 1) (by decide +kernel) rfl
theorem dX9_init_4 : decode cX9_init 4 = .ok (.aload_n 0, 1) := zrD zrw_cX9_init_0 (i := 4) (by decide +kernel) rfl
theorem dX9_init_5 : decode cX9_init 5 = .ok (.bipush 12, 2) := zrD zrw_cX9_init_0 (i := 5) (by decide +kernel) rfl
theorem dX9_init_7 : decode cX9_init 7 = .ok (.newarray .long, 2) := by decide +kernel
def zrk_cX9_init_9 : ByteArray := .mk #[181, 0, 9, 42, 16, 12]
theorem zrw_cX9_init_9 : zrW 9 cX9_init zrk_cX9_init_9 := by unfold zrW; decide +kernel
theorem dX9_init_9 : decode cX9_init 9 = .ok (.putfield 9, 3) := zrD zrw_cX9_init_9 (i := 0) (by decide +kernel) rfl
theorem dX9_init_12 : decode cX9_init 12 = .ok (.aload_n 0, 1) := zrD zrw_cX9_init_9 (i := 3) (by decide +kernel) rfl
theorem dX9_init_13 : decode cX9_init 13 = .ok (.bipush 12, 2) := zrD zrw_cX9_init_9 (i := 4) (by decide +kernel) rfl
theorem dX9_init_15 : decode cX9_init 15 = .ok (.newarray .int, 2) := by decide +kernel
def zrk_cX9_init_17 : ByteArray := .mk #[181, 0, 15, 42, 16, 12]
theorem zrw_cX9_init_17 : zrW 17 cX9_init zrk_cX9_init_17 := by unfold zrW; decide +kernel
theorem dX9_init_17 : decode cX9_init 17 = .ok (.putfield 15, 3) := zrD zrw_cX9_init_17 (i := 0) (by decide +kernel) rfl
theorem dX9_init_20 : decode cX9_init 20 = .ok (.aload_n 0, 1) := zrD zrw_cX9_init_17 (i := 3) (by decide +kernel) rfl
theorem dX9_init_21 : decode cX9_init 21 = .ok (.bipush 12, 2) := zrD zrw_cX9_init_17 (i := 4) (by decide +kernel) rfl
theorem dX9_init_23 : decode cX9_init 23 = .ok (.newarray .int, 2) := by decide +kernel
def zrk_cX9_init_25 : ByteArray := .mk #[181, 0, 19, 42, 16, 12]
theorem zrw_cX9_init_25 : zrW 25 cX9_init zrk_cX9_init_25 := by unfold zrW; decide +kernel
theorem dX9_init_25 : decode cX9_init 25 = .ok (.putfield 19, 3) := zrD zrw_cX9_init_25 (i := 0) (by decide +kernel) rfl
theorem dX9_init_28 : decode cX9_init 28 = .ok (.aload_n 0, 1) := zrD zrw_cX9_init_25 (i := 3) (by decide +kernel) rfl
theorem dX9_init_29 : decode cX9_init 29 = .ok (.bipush 12, 2) := zrD zrw_cX9_init_25 (i := 4) (by decide +kernel) rfl
theorem dX9_init_31 : decode cX9_init 31 = .ok (.newarray .int, 2) := by decide +kernel
def zrk_cX9_init_33 : ByteArray := .mk #[181, 0, 22, 42, 16, 12]
theorem zrw_cX9_init_33 : zrW 33 cX9_init zrk_cX9_init_33 := by unfold zrW; decide +kernel
theorem dX9_init_33 : decode cX9_init 33 = .ok (.putfield 22, 3) := zrD zrw_cX9_init_33 (i := 0) (by decide +kernel) rfl
theorem dX9_init_36 : decode cX9_init 36 = .ok (.aload_n 0, 1) := zrD zrw_cX9_init_33 (i := 3) (by decide +kernel) rfl
theorem dX9_init_37 : decode cX9_init 37 = .ok (.bipush 12, 2) := zrD zrw_cX9_init_33 (i := 4) (by decide +kernel) rfl
theorem dX9_init_39 : decode cX9_init 39 = .ok (.newarray .int, 2) := by decide +kernel
def zrk_cX9_init_41 : ByteArray := .mk #[181, 0, 25, 42, 17, 1, 164]
theorem zrw_cX9_init_41 : zrW 41 cX9_init zrk_cX9_init_41 := by unfold zrW; decide +kernel
theorem dX9_init_41 : decode cX9_init 41 = .ok (.putfield 25, 3) := zrD zrw_cX9_init_41 (i := 0) (by decide +kernel) rfl
theorem dX9_init_44 : decode cX9_init 44 = .ok (.aload_n 0, 1) := zrD zrw_cX9_init_41 (i := 3) (by decide +kernel) rfl
theorem dX9_init_45 : decode cX9_init 45 = .ok (.sipush 420, 3) := zrD zrw_cX9_init_41 (i := 4) (by decide +kernel) rfl
theorem dX9_init_48 : decode cX9_init 48 = .ok (.newarray .int, 2) := by decide +kernel
def zrk_cX9_init_50 : ByteArray := .mk #[181, 0, 28, 42, 17, 1, 164]
theorem zrw_cX9_init_50 : zrW 50 cX9_init zrk_cX9_init_50 := by unfold zrW; decide +kernel
theorem dX9_init_50 : decode cX9_init 50 = .ok (.putfield 28, 3) := zrD zrw_cX9_init_50 (i := 0) (by decide +kernel) rfl
theorem dX9_init_53 : decode cX9_init 53 = .ok (.aload_n 0, 1) := zrD zrw_cX9_init_50 (i := 3) (by decide +kernel) rfl
theorem dX9_init_54 : decode cX9_init 54 = .ok (.sipush 420, 3) := zrD zrw_cX9_init_50 (i := 4) (by decide +kernel) rfl
theorem dX9_init_57 : decode cX9_init 57 = .ok (.newarray .int, 2) := by decide +kernel
def zrk_cX9_init_59 : ByteArray := .mk #[181, 0, 31, 42, 8]
theorem zrw_cX9_init_59 : zrW 59 cX9_init zrk_cX9_init_59 := by unfold zrW; decide +kernel
theorem dX9_init_59 : decode cX9_init 59 = .ok (.putfield 31, 3) := zrD zrw_cX9_init_59 (i := 0) (by decide +kernel) rfl
theorem dX9_init_62 : decode cX9_init 62 = .ok (.aload_n 0, 1) := zrD zrw_cX9_init_59 (i := 3) (by decide +kernel) rfl
theorem dX9_init_63 : decode cX9_init 63 = .ok (.iconst 5, 1) := zrD zrw_cX9_init_59 (i := 4) (by decide +kernel) rfl
theorem dX9_init_64 : decode cX9_init 64 = .ok (.newarray .int, 2) := by decide +kernel
def zrk_cX9_init_66 : ByteArray := .mk #[181, 0, 34, 42, 182, 0, 37, 177]
theorem zrw_cX9_init_66 : zrW 66 cX9_init zrk_cX9_init_66 := by unfold zrW; decide +kernel
theorem dX9_init_66 : decode cX9_init 66 = .ok (.putfield 34, 3) := zrD zrw_cX9_init_66 (i := 0) (by decide +kernel) rfl
theorem dX9_init_69 : decode cX9_init 69 = .ok (.aload_n 0, 1) := zrD zrw_cX9_init_66 (i := 3) (by decide +kernel) rfl
theorem dX9_init_70 : decode cX9_init 70 = .ok (.invokevirtual 37, 3) := zrD zrw_cX9_init_66 (i := 4) (by decide +kernel) rfl
theorem dX9_init_73 : decode cX9_init 73 = .ok (.return_, 1) := zrD zrw_cX9_init_66 (i := 7) (by decide +kernel) rfl
def zrk_cX9_clear_0 : ByteArray := .mk #[42, 3, 181, 0, 40, 42, 3, 181, 0, 44, 3, 60, 27, 8, 162, 0, 56, 178, 0, 47, 27, 46, 61, 42, 180, 0, 34, 27, 42, 180, 0, 44]
theorem zrw_cX9_clear_0 : zrW 0 cX9_clear zrk_cX9_clear_0 := by unfold zrW; decide +kernel
theorem dX9_clear_0 : decode cX9_clear 0 = .ok (.aload_n 0, 1) := zrD zrw_cX9_clear_0 (i := 0) (by decide +kernel) rfl
theorem dX9_clear_1 : decode cX9_clear 1 = .ok (.iconst 0, 1) := zrD zrw_cX9_clear_0 (i := 1) (by decide +kernel) rfl
theorem dX9_clear_2 : decode cX9_clear 2 = .ok (.putfield 40, 3) := zrD zrw_cX9_clear_0 (i := 2) (by decide +kernel) rfl
theorem dX9_clear_5 : decode cX9_clear 5 = .ok (.aload_n 0, 1) := zrD zrw_cX9_clear_0 (i := 5) (by decide +kernel) rfl
theorem dX9_clear_6 : decode cX9_clear 6 = .ok (.iconst 0, 1) := zrD zrw_cX9_clear_0 (i := 6) (by decide +kernel) rfl
theorem dX9_clear_7 : decode cX9_clear 7 = .ok (.putfield 44, 3) := zrD zrw_cX9_clear_0 (i := 7) (by decide +kernel) rfl
theorem dX9_clear_10 : decode cX9_clear 10 = .ok (.iconst 0, 1) := zrD zrw_cX9_clear_0 (i := 10) (by decide +kernel) rfl
theorem dX9_clear_11 : decode cX9_clear 11 = .ok (.istore_n 1, 1) := zrD zrw_cX9_clear_0 (i := 11) (by decide +kernel) rfl
theorem dX9_clear_12 : decode cX9_clear 12 = .ok (.iload_n 1, 1) := zrD zrw_cX9_clear_0 (i := 12) (by decide +kernel) rfl
theorem dX9_clear_13 : decode cX9_clear 13 = .ok (.iconst 5, 1) := zrD zrw_cX9_clear_0 (i := 13) (by decide +kernel) rfl
theorem dX9_clear_14 : decode cX9_clear 14 = .ok (.if_icmp .ge 56, 3) := zrD zrw_cX9_clear_0 (i := 14) (by decide +kernel) rfl
theorem dX9_clear_17 : decode cX9_clear 17 = .ok (.getstatic 47, 3) := zrD zrw_cX9_clear_0 (i := 17) (by decide +kernel) rfl
theorem dX9_clear_20 : decode cX9_clear 20 = .ok (.iload_n 1, 1) := zrD zrw_cX9_clear_0 (i := 20) (by decide +kernel) rfl
theorem dX9_clear_21 : decode cX9_clear 21 = .ok (.iaload, 1) := zrD zrw_cX9_clear_0 (i := 21) (by decide +kernel) rfl
theorem dX9_clear_22 : decode cX9_clear 22 = .ok (.istore_n 2, 1) := zrD zrw_cX9_clear_0 (i := 22) (by decide +kernel) rfl
theorem dX9_clear_23 : decode cX9_clear 23 = .ok (.aload_n 0, 1) := zrD zrw_cX9_clear_0 (i := 23) (by decide +kernel) rfl
theorem dX9_clear_24 : decode cX9_clear 24 = .ok (.getfield 34, 3) := zrD zrw_cX9_clear_0 (i := 24) (by decide +kernel) rfl
theorem dX9_clear_27 : decode cX9_clear 27 = .ok (.iload_n 1, 1) := zrD zrw_cX9_clear_0 (i := 27) (by decide +kernel) rfl
theorem dX9_clear_28 : decode cX9_clear 28 = .ok (.aload_n 0, 1) := zrD zrw_cX9_clear_0 (i := 28) (by decide +kernel) rfl
theorem dX9_clear_29 : decode cX9_clear 29 = .ok (.getfield 44, 3) := zrD zrw_cX9_clear_0 (i := 29) (by decide +kernel) rfl
def zrk_cX9_clear_32 : ByteArray := .mk #[79, 42, 28, 2, 160, 0, 7, 3, 167, 0, 4, 4, 28, 2, 160, 0, 7, 3, 167, 0, 4, 28, 182, 0, 52, 42, 16, 7, 3, 182, 0, 52]
theorem zrw_cX9_clear_32 : zrW 32 cX9_clear zrk_cX9_clear_32 := by unfold zrW; decide +kernel
theorem dX9_clear_32 : decode cX9_clear 32 = .ok (.iastore, 1) := zrD zrw_cX9_clear_32 (i := 0) (by decide +kernel) rfl
theorem dX9_clear_33 : decode cX9_clear 33 = .ok (.aload_n 0, 1) := zrD zrw_cX9_clear_32 (i := 1) (by decide +kernel) rfl
theorem dX9_clear_34 : decode cX9_clear 34 = .ok (.iload_n 2, 1) := zrD zrw_cX9_clear_32 (i := 2) (by decide +kernel) rfl
theorem dX9_clear_35 : decode cX9_clear 35 = .ok (.iconst (-1), 1) := zrD zrw_cX9_clear_32 (i := 3) (by decide +kernel) rfl
theorem dX9_clear_36 : decode cX9_clear 36 = .ok (.if_icmp .ne 7, 3) := zrD zrw_cX9_clear_32 (i := 4) (by decide +kernel) rfl
theorem dX9_clear_39 : decode cX9_clear 39 = .ok (.iconst 0, 1) := zrD zrw_cX9_clear_32 (i := 7) (by decide +kernel) rfl
theorem dX9_clear_40 : decode cX9_clear 40 = .ok (.goto 4, 3) := zrD zrw_cX9_clear_32 (i := 8) (by decide +kernel) rfl
theorem dX9_clear_43 : decode cX9_clear 43 = .ok (.iconst 1, 1) := zrD zrw_cX9_clear_32 (i := 11) (by decide +kernel) rfl
theorem dX9_clear_44 : decode cX9_clear 44 = .ok (.iload_n 2, 1) := zrD zrw_cX9_clear_32 (i := 12) (by decide +kernel) rfl
theorem dX9_clear_45 : decode cX9_clear 45 = .ok (.iconst (-1), 1) := zrD zrw_cX9_clear_32 (i := 13) (by decide +kernel) rfl
theorem dX9_clear_46 : decode cX9_clear 46 = .ok (.if_icmp .ne 7, 3) := zrD zrw_cX9_clear_32 (i := 14) (by decide +kernel) rfl
theorem dX9_clear_49 : decode cX9_clear 49 = .ok (.iconst 0, 1) := zrD zrw_cX9_clear_32 (i := 17) (by decide +kernel) rfl
theorem dX9_clear_50 : decode cX9_clear 50 = .ok (.goto 4, 3) := zrD zrw_cX9_clear_32 (i := 18) (by decide +kernel) rfl
theorem dX9_clear_53 : decode cX9_clear 53 = .ok (.iload_n 2, 1) := zrD zrw_cX9_clear_32 (i := 21) (by decide +kernel) rfl
theorem dX9_clear_54 : decode cX9_clear 54 = .ok (.invokevirtual 52, 3) := zrD zrw_cX9_clear_32 (i := 22) (by decide +kernel) rfl
theorem dX9_clear_57 : decode cX9_clear 57 = .ok (.aload_n 0, 1) := zrD zrw_cX9_clear_32 (i := 25) (by decide +kernel) rfl
theorem dX9_clear_58 : decode cX9_clear 58 = .ok (.bipush 7, 2) := zrD zrw_cX9_clear_32 (i := 26) (by decide +kernel) rfl
theorem dX9_clear_60 : decode cX9_clear 60 = .ok (.iconst 0, 1) := zrD zrw_cX9_clear_32 (i := 28) (by decide +kernel) rfl
theorem dX9_clear_61 : decode cX9_clear 61 = .ok (.invokevirtual 52, 3) := zrD zrw_cX9_clear_32 (i := 29) (by decide +kernel) rfl
def zrk_cX9_clear_64 : ByteArray := .mk #[132, 1, 1, 167, 255, 201, 42, 3, 181, 0, 56, 42, 3, 181, 0, 59, 42, 4, 181, 0, 62, 42, 3, 181, 0, 65, 177]
theorem zrw_cX9_clear_64 : zrW 64 cX9_clear zrk_cX9_clear_64 := by unfold zrW; decide +kernel
theorem dX9_clear_64 : decode cX9_clear 64 = .ok (.iinc 1 1, 3) := zrD zrw_cX9_clear_64 (i := 0) (by decide +kernel) rfl
theorem dX9_clear_67 : decode cX9_clear 67 = .ok (.goto (-55), 3) := zrD zrw_cX9_clear_64 (i := 3) (by decide +kernel) rfl
theorem dX9_clear_70 : decode cX9_clear 70 = .ok (.aload_n 0, 1) := zrD zrw_cX9_clear_64 (i := 6) (by decide +kernel) rfl
theorem dX9_clear_71 : decode cX9_clear 71 = .ok (.iconst 0, 1) := zrD zrw_cX9_clear_64 (i := 7) (by decide +kernel) rfl
theorem dX9_clear_72 : decode cX9_clear 72 = .ok (.putfield 56, 3) := zrD zrw_cX9_clear_64 (i := 8) (by decide +kernel) rfl
theorem dX9_clear_75 : decode cX9_clear 75 = .ok (.aload_n 0, 1) := zrD zrw_cX9_clear_64 (i := 11) (by decide +kernel) rfl
theorem dX9_clear_76 : decode cX9_clear 76 = .ok (.iconst 0, 1) := zrD zrw_cX9_clear_64 (i := 12) (by decide +kernel) rfl
theorem dX9_clear_77 : decode cX9_clear 77 = .ok (.putfield 59, 3) := zrD zrw_cX9_clear_64 (i := 13) (by decide +kernel) rfl
theorem dX9_clear_80 : decode cX9_clear 80 = .ok (.aload_n 0, 1) := zrD zrw_cX9_clear_64 (i := 16) (by decide +kernel) rfl
theorem dX9_clear_81 : decode cX9_clear 81 = .ok (.iconst 1, 1) := zrD zrw_cX9_clear_64 (i := 17) (by decide +kernel) rfl
theorem dX9_clear_82 : decode cX9_clear 82 = .ok (.putfield 62, 3) := zrD zrw_cX9_clear_64 (i := 18) (by decide +kernel) rfl
theorem dX9_clear_85 : decode cX9_clear 85 = .ok (.aload_n 0, 1) := zrD zrw_cX9_clear_64 (i := 21) (by decide +kernel) rfl
theorem dX9_clear_86 : decode cX9_clear 86 = .ok (.iconst 0, 1) := zrD zrw_cX9_clear_64 (i := 22) (by decide +kernel) rfl
theorem dX9_clear_87 : decode cX9_clear 87 = .ok (.putfield 65, 3) := zrD zrw_cX9_clear_64 (i := 23) (by decide +kernel) rfl
theorem dX9_clear_90 : decode cX9_clear 90 = .ok (.return_, 1) := zrD zrw_cX9_clear_64 (i := 26) (by decide +kernel) rfl
def zrk_cX9_addStep_0 : ByteArray := .mk #[42, 180, 0, 44, 17, 1, 164, 162, 0, 33, 42, 180, 0, 28, 42, 180, 0, 44, 27, 79, 42, 180, 0, 31, 42, 180, 0, 44, 28, 79, 42, 89]
theorem zrw_cX9_addStep_0 : zrW 0 cX9_addStep zrk_cX9_addStep_0 := by unfold zrW; decide +kernel
theorem dX9_addStep_0 : decode cX9_addStep 0 = .ok (.aload_n 0, 1) := zrD zrw_cX9_addStep_0 (i := 0) (by decide +kernel) rfl
theorem dX9_addStep_1 : decode cX9_addStep 1 = .ok (.getfield 44, 3) := zrD zrw_cX9_addStep_0 (i := 1) (by decide +kernel) rfl
theorem dX9_addStep_4 : decode cX9_addStep 4 = .ok (.sipush 420, 3) := zrD zrw_cX9_addStep_0 (i := 4) (by decide +kernel) rfl
theorem dX9_addStep_7 : decode cX9_addStep 7 = .ok (.if_icmp .ge 33, 3) := zrD zrw_cX9_addStep_0 (i := 7) (by decide +kernel) rfl
theorem dX9_addStep_10 : decode cX9_addStep 10 = .ok (.aload_n 0, 1) := zrD zrw_cX9_addStep_0 (i := 10) (by decide +kernel) rfl
theorem dX9_addStep_11 : decode cX9_addStep 11 = .ok (.getfield 28, 3) := zrD zrw_cX9_addStep_0 (i := 11) (by decide +kernel) rfl
theorem dX9_addStep_14 : decode cX9_addStep 14 = .ok (.aload_n 0, 1) := zrD zrw_cX9_addStep_0 (i := 14) (by decide +kernel) rfl
theorem dX9_addStep_15 : decode cX9_addStep 15 = .ok (.getfield 44, 3) := zrD zrw_cX9_addStep_0 (i := 15) (by decide +kernel) rfl
theorem dX9_addStep_18 : decode cX9_addStep 18 = .ok (.iload_n 1, 1) := zrD zrw_cX9_addStep_0 (i := 18) (by decide +kernel) rfl
theorem dX9_addStep_19 : decode cX9_addStep 19 = .ok (.iastore, 1) := zrD zrw_cX9_addStep_0 (i := 19) (by decide +kernel) rfl
theorem dX9_addStep_20 : decode cX9_addStep 20 = .ok (.aload_n 0, 1) := zrD zrw_cX9_addStep_0 (i := 20) (by decide +kernel) rfl
theorem dX9_addStep_21 : decode cX9_addStep 21 = .ok (.getfield 31, 3) := zrD zrw_cX9_addStep_0 (i := 21) (by decide +kernel) rfl
theorem dX9_addStep_24 : decode cX9_addStep 24 = .ok (.aload_n 0, 1) := zrD zrw_cX9_addStep_0 (i := 24) (by decide +kernel) rfl
theorem dX9_addStep_25 : decode cX9_addStep 25 = .ok (.getfield 44, 3) := zrD zrw_cX9_addStep_0 (i := 25) (by decide +kernel) rfl
theorem dX9_addStep_28 : decode cX9_addStep 28 = .ok (.iload_n 2, 1) := zrD zrw_cX9_addStep_0 (i := 28) (by decide +kernel) rfl
theorem dX9_addStep_29 : decode cX9_addStep 29 = .ok (.iastore, 1) := zrD zrw_cX9_addStep_0 (i := 29) (by decide +kernel) rfl
theorem dX9_addStep_30 : decode cX9_addStep 30 = .ok (.aload_n 0, 1) := zrD zrw_cX9_addStep_0 (i := 30) (by decide +kernel) rfl
theorem dX9_addStep_31 : decode cX9_addStep 31 = .ok (.dup, 1) := zrD zrw_cX9_addStep_0 (i := 31) (by decide +kernel) rfl
def zrk_cX9_addStep_32 : ByteArray := .mk #[180, 0, 44, 4, 96, 181, 0, 44, 177]
theorem zrw_cX9_addStep_32 : zrW 32 cX9_addStep zrk_cX9_addStep_32 := by unfold zrW; decide +kernel
theorem dX9_addStep_32 : decode cX9_addStep 32 = .ok (.getfield 44, 3) := zrD zrw_cX9_addStep_32 (i := 0) (by decide +kernel) rfl
theorem dX9_addStep_35 : decode cX9_addStep 35 = .ok (.iconst 1, 1) := zrD zrw_cX9_addStep_32 (i := 3) (by decide +kernel) rfl
theorem dX9_addStep_36 : decode cX9_addStep 36 = .ok (.iadd, 1) := zrD zrw_cX9_addStep_32 (i := 4) (by decide +kernel) rfl
theorem dX9_addStep_37 : decode cX9_addStep 37 = .ok (.putfield 44, 3) := zrD zrw_cX9_addStep_32 (i := 5) (by decide +kernel) rfl
theorem dX9_addStep_40 : decode cX9_addStep 40 = .ok (.return_, 1) := zrD zrw_cX9_addStep_32 (i := 8) (by decide +kernel) rfl
def zrk_cX9_setValue_0 : ByteArray := .mk #[27, 155, 0, 18, 27, 42, 180, 0, 44, 162, 0, 10, 42, 180, 0, 31, 27, 28, 79, 177]
theorem zrw_cX9_setValue_0 : zrW 0 cX9_setValue zrk_cX9_setValue_0 := by unfold zrW; decide +kernel
theorem dX9_setValue_0 : decode cX9_setValue 0 = .ok (.iload_n 1, 1) := zrD zrw_cX9_setValue_0 (i := 0) (by decide +kernel) rfl
theorem dX9_setValue_1 : decode cX9_setValue 1 = .ok (.ifCond .lt 18, 3) := zrD zrw_cX9_setValue_0 (i := 1) (by decide +kernel) rfl
theorem dX9_setValue_4 : decode cX9_setValue 4 = .ok (.iload_n 1, 1) := zrD zrw_cX9_setValue_0 (i := 4) (by decide +kernel) rfl
theorem dX9_setValue_5 : decode cX9_setValue 5 = .ok (.aload_n 0, 1) := zrD zrw_cX9_setValue_0 (i := 5) (by decide +kernel) rfl
theorem dX9_setValue_6 : decode cX9_setValue 6 = .ok (.getfield 44, 3) := zrD zrw_cX9_setValue_0 (i := 6) (by decide +kernel) rfl
theorem dX9_setValue_9 : decode cX9_setValue 9 = .ok (.if_icmp .ge 10, 3) := zrD zrw_cX9_setValue_0 (i := 9) (by decide +kernel) rfl
theorem dX9_setValue_12 : decode cX9_setValue 12 = .ok (.aload_n 0, 1) := zrD zrw_cX9_setValue_0 (i := 12) (by decide +kernel) rfl
theorem dX9_setValue_13 : decode cX9_setValue 13 = .ok (.getfield 31, 3) := zrD zrw_cX9_setValue_0 (i := 13) (by decide +kernel) rfl
theorem dX9_setValue_16 : decode cX9_setValue 16 = .ok (.iload_n 1, 1) := zrD zrw_cX9_setValue_0 (i := 16) (by decide +kernel) rfl
theorem dX9_setValue_17 : decode cX9_setValue 17 = .ok (.iload_n 2, 1) := zrD zrw_cX9_setValue_0 (i := 17) (by decide +kernel) rfl
theorem dX9_setValue_18 : decode cX9_setValue 18 = .ok (.iastore, 1) := zrD zrw_cX9_setValue_0 (i := 18) (by decide +kernel) rfl
theorem dX9_setValue_19 : decode cX9_setValue 19 = .ok (.return_, 1) := zrD zrw_cX9_setValue_0 (i := 19) (by decide +kernel) rfl
def zrk_cX9_setPlace_0 : ByteArray := .mk #[27, 155, 0, 39, 27, 16, 12, 162, 0, 33, 42, 180, 0, 15, 27, 28, 79, 42, 180, 0, 19, 27, 29, 79, 42, 180, 0, 22, 27, 21, 4, 79]
theorem zrw_cX9_setPlace_0 : zrW 0 cX9_setPlace zrk_cX9_setPlace_0 := by unfold zrW; decide +kernel
theorem dX9_setPlace_0 : decode cX9_setPlace 0 = .ok (.iload_n 1, 1) := zrD zrw_cX9_setPlace_0 (i := 0) (by decide +kernel) rfl
theorem dX9_setPlace_1 : decode cX9_setPlace 1 = .ok (.ifCond .lt 39, 3) := zrD zrw_cX9_setPlace_0 (i := 1) (by decide +kernel) rfl
theorem dX9_setPlace_4 : decode cX9_setPlace 4 = .ok (.iload_n 1, 1) := zrD zrw_cX9_setPlace_0 (i := 4) (by decide +kernel) rfl
theorem dX9_setPlace_5 : decode cX9_setPlace 5 = .ok (.bipush 12, 2) := zrD zrw_cX9_setPlace_0 (i := 5) (by decide +kernel) rfl
theorem dX9_setPlace_7 : decode cX9_setPlace 7 = .ok (.if_icmp .ge 33, 3) := zrD zrw_cX9_setPlace_0 (i := 7) (by decide +kernel) rfl
theorem dX9_setPlace_10 : decode cX9_setPlace 10 = .ok (.aload_n 0, 1) := zrD zrw_cX9_setPlace_0 (i := 10) (by decide +kernel) rfl
theorem dX9_setPlace_11 : decode cX9_setPlace 11 = .ok (.getfield 15, 3) := zrD zrw_cX9_setPlace_0 (i := 11) (by decide +kernel) rfl
theorem dX9_setPlace_14 : decode cX9_setPlace 14 = .ok (.iload_n 1, 1) := zrD zrw_cX9_setPlace_0 (i := 14) (by decide +kernel) rfl
theorem dX9_setPlace_15 : decode cX9_setPlace 15 = .ok (.iload_n 2, 1) := zrD zrw_cX9_setPlace_0 (i := 15) (by decide +kernel) rfl
theorem dX9_setPlace_16 : decode cX9_setPlace 16 = .ok (.iastore, 1) := zrD zrw_cX9_setPlace_0 (i := 16) (by decide +kernel) rfl
theorem dX9_setPlace_17 : decode cX9_setPlace 17 = .ok (.aload_n 0, 1) := zrD zrw_cX9_setPlace_0 (i := 17) (by decide +kernel) rfl
theorem dX9_setPlace_18 : decode cX9_setPlace 18 = .ok (.getfield 19, 3) := zrD zrw_cX9_setPlace_0 (i := 18) (by decide +kernel) rfl
theorem dX9_setPlace_21 : decode cX9_setPlace 21 = .ok (.iload_n 1, 1) := zrD zrw_cX9_setPlace_0 (i := 21) (by decide +kernel) rfl
theorem dX9_setPlace_22 : decode cX9_setPlace 22 = .ok (.iload_n 3, 1) := zrD zrw_cX9_setPlace_0 (i := 22) (by decide +kernel) rfl
theorem dX9_setPlace_23 : decode cX9_setPlace 23 = .ok (.iastore, 1) := zrD zrw_cX9_setPlace_0 (i := 23) (by decide +kernel) rfl
theorem dX9_setPlace_24 : decode cX9_setPlace 24 = .ok (.aload_n 0, 1) := zrD zrw_cX9_setPlace_0 (i := 24) (by decide +kernel) rfl
theorem dX9_setPlace_25 : decode cX9_setPlace 25 = .ok (.getfield 22, 3) := zrD zrw_cX9_setPlace_0 (i := 25) (by decide +kernel) rfl
theorem dX9_setPlace_28 : decode cX9_setPlace 28 = .ok (.iload_n 1, 1) := zrD zrw_cX9_setPlace_0 (i := 28) (by decide +kernel) rfl
theorem dX9_setPlace_29 : decode cX9_setPlace 29 = .ok (.iload 4, 2) := zrD zrw_cX9_setPlace_0 (i := 29) (by decide +kernel) rfl
theorem dX9_setPlace_31 : decode cX9_setPlace 31 = .ok (.iastore, 1) := zrD zrw_cX9_setPlace_0 (i := 31) (by decide +kernel) rfl
def zrk_cX9_setPlace_32 : ByteArray := .mk #[42, 180, 0, 25, 27, 21, 5, 79, 177]
theorem zrw_cX9_setPlace_32 : zrW 32 cX9_setPlace zrk_cX9_setPlace_32 := by unfold zrW; decide +kernel
theorem dX9_setPlace_32 : decode cX9_setPlace 32 = .ok (.aload_n 0, 1) := zrD zrw_cX9_setPlace_32 (i := 0) (by decide +kernel) rfl
theorem dX9_setPlace_33 : decode cX9_setPlace 33 = .ok (.getfield 25, 3) := zrD zrw_cX9_setPlace_32 (i := 1) (by decide +kernel) rfl
theorem dX9_setPlace_36 : decode cX9_setPlace 36 = .ok (.iload_n 1, 1) := zrD zrw_cX9_setPlace_32 (i := 4) (by decide +kernel) rfl
theorem dX9_setPlace_37 : decode cX9_setPlace 37 = .ok (.iload 5, 2) := zrD zrw_cX9_setPlace_32 (i := 5) (by decide +kernel) rfl
theorem dX9_setPlace_39 : decode cX9_setPlace 39 = .ok (.iastore, 1) := zrD zrw_cX9_setPlace_32 (i := 7) (by decide +kernel) rfl
theorem dX9_setPlace_40 : decode cX9_setPlace 40 = .ok (.return_, 1) := zrD zrw_cX9_setPlace_32 (i := 8) (by decide +kernel) rfl
def zrk_cX9_isStorm_0 : ByteArray := .mk #[16, 100, 27, 7, 28, 104, 184, 0, 68, 42, 180, 0, 56, 162, 0, 7, 4, 167, 0, 4, 3, 172]
theorem zrw_cX9_isStorm_0 : zrW 0 cX9_isStorm zrk_cX9_isStorm_0 := by unfold zrW; decide +kernel
theorem dX9_isStorm_0 : decode cX9_isStorm 0 = .ok (.bipush 100, 2) := zrD zrw_cX9_isStorm_0 (i := 0) (by decide +kernel) rfl
theorem dX9_isStorm_2 : decode cX9_isStorm 2 = .ok (.iload_n 1, 1) := zrD zrw_cX9_isStorm_0 (i := 2) (by decide +kernel) rfl
theorem dX9_isStorm_3 : decode cX9_isStorm 3 = .ok (.iconst 4, 1) := zrD zrw_cX9_isStorm_0 (i := 3) (by decide +kernel) rfl
theorem dX9_isStorm_4 : decode cX9_isStorm 4 = .ok (.iload_n 2, 1) := zrD zrw_cX9_isStorm_0 (i := 4) (by decide +kernel) rfl
theorem dX9_isStorm_5 : decode cX9_isStorm 5 = .ok (.imul, 1) := zrD zrw_cX9_isStorm_0 (i := 5) (by decide +kernel) rfl
theorem dX9_isStorm_6 : decode cX9_isStorm 6 = .ok (.invokestatic 68, 3) := zrD zrw_cX9_isStorm_0 (i := 6) (by decide +kernel) rfl
theorem dX9_isStorm_9 : decode cX9_isStorm 9 = .ok (.aload_n 0, 1) := zrD zrw_cX9_isStorm_0 (i := 9) (by decide +kernel) rfl
theorem dX9_isStorm_10 : decode cX9_isStorm 10 = .ok (.getfield 56, 3) := zrD zrw_cX9_isStorm_0 (i := 10) (by decide +kernel) rfl
theorem dX9_isStorm_13 : decode cX9_isStorm 13 = .ok (.if_icmp .ge 7, 3) := zrD zrw_cX9_isStorm_0 (i := 13) (by decide +kernel) rfl
theorem dX9_isStorm_16 : decode cX9_isStorm 16 = .ok (.iconst 1, 1) := zrD zrw_cX9_isStorm_0 (i := 16) (by decide +kernel) rfl
theorem dX9_isStorm_17 : decode cX9_isStorm 17 = .ok (.goto 4, 3) := zrD zrw_cX9_isStorm_0 (i := 17) (by decide +kernel) rfl
theorem dX9_isStorm_20 : decode cX9_isStorm 20 = .ok (.iconst 0, 1) := zrD zrw_cX9_isStorm_0 (i := 20) (by decide +kernel) rfl
theorem dX9_isStorm_21 : decode cX9_isStorm 21 = .ok (.ireturn, 1) := zrD zrw_cX9_isStorm_0 (i := 21) (by decide +kernel) rfl
def zrk_cX9_lot_0 : ByteArray := .mk #[27, 17, 0, 147, 184, 0, 72, 28, 184, 0, 72, 4, 124, 4, 26, 184, 0, 76, 112, 172]
theorem zrw_cX9_lot_0 : zrW 0 cX9_lot zrk_cX9_lot_0 := by unfold zrW; decide +kernel
theorem dX9_lot_0 : decode cX9_lot 0 = .ok (.iload_n 1, 1) := zrD zrw_cX9_lot_0 (i := 0) (by decide +kernel) rfl
theorem dX9_lot_1 : decode cX9_lot 1 = .ok (.sipush 147, 3) := zrD zrw_cX9_lot_0 (i := 1) (by decide +kernel) rfl
theorem dX9_lot_4 : decode cX9_lot 4 = .ok (.invokestatic 72, 3) := zrD zrw_cX9_lot_0 (i := 4) (by decide +kernel) rfl
theorem dX9_lot_7 : decode cX9_lot 7 = .ok (.iload_n 2, 1) := zrD zrw_cX9_lot_0 (i := 7) (by decide +kernel) rfl
theorem dX9_lot_8 : decode cX9_lot 8 = .ok (.invokestatic 72, 3) := zrD zrw_cX9_lot_0 (i := 8) (by decide +kernel) rfl
theorem dX9_lot_11 : decode cX9_lot 11 = .ok (.iconst 1, 1) := zrD zrw_cX9_lot_0 (i := 11) (by decide +kernel) rfl
theorem dX9_lot_12 : decode cX9_lot 12 = .ok (.iushr, 1) := zrD zrw_cX9_lot_0 (i := 12) (by decide +kernel) rfl
theorem dX9_lot_13 : decode cX9_lot 13 = .ok (.iconst 1, 1) := zrD zrw_cX9_lot_0 (i := 13) (by decide +kernel) rfl
theorem dX9_lot_14 : decode cX9_lot 14 = .ok (.iload_n 0, 1) := zrD zrw_cX9_lot_0 (i := 14) (by decide +kernel) rfl
theorem dX9_lot_15 : decode cX9_lot 15 = .ok (.invokestatic 76, 3) := zrD zrw_cX9_lot_0 (i := 15) (by decide +kernel) rfl
theorem dX9_lot_18 : decode cX9_lot 18 = .ok (.irem, 1) := zrD zrw_cX9_lot_0 (i := 18) (by decide +kernel) rfl
theorem dX9_lot_19 : decode cX9_lot 19 = .ok (.ireturn, 1) := zrD zrw_cX9_lot_0 (i := 19) (by decide +kernel) rfl
def zrk_cX9_stirred_0 : ByteArray := .mk #[26, 27, 130, 18, 81, 104, 17, 48, 57, 96, 61, 28, 28, 16, 15, 124, 130, 172]
theorem zrw_cX9_stirred_0 : zrW 0 cX9_stirred zrk_cX9_stirred_0 := by unfold zrW; decide +kernel
theorem dX9_stirred_0 : decode cX9_stirred 0 = .ok (.iload_n 0, 1) := zrD zrw_cX9_stirred_0 (i := 0) (by decide +kernel) rfl
theorem dX9_stirred_1 : decode cX9_stirred 1 = .ok (.iload_n 1, 1) := zrD zrw_cX9_stirred_0 (i := 1) (by decide +kernel) rfl
theorem dX9_stirred_2 : decode cX9_stirred 2 = .ok (.ixor, 1) := zrD zrw_cX9_stirred_0 (i := 2) (by decide +kernel) rfl
theorem dX9_stirred_3 : decode cX9_stirred 3 = .ok (.ldc 81, 2) := zrD zrw_cX9_stirred_0 (i := 3) (by decide +kernel) rfl
theorem dX9_stirred_5 : decode cX9_stirred 5 = .ok (.imul, 1) := zrD zrw_cX9_stirred_0 (i := 5) (by decide +kernel) rfl
theorem dX9_stirred_6 : decode cX9_stirred 6 = .ok (.sipush 12345, 3) := zrD zrw_cX9_stirred_0 (i := 6) (by decide +kernel) rfl
theorem dX9_stirred_9 : decode cX9_stirred 9 = .ok (.iadd, 1) := zrD zrw_cX9_stirred_0 (i := 9) (by decide +kernel) rfl
theorem dX9_stirred_10 : decode cX9_stirred 10 = .ok (.istore_n 2, 1) := zrD zrw_cX9_stirred_0 (i := 10) (by decide +kernel) rfl
theorem dX9_stirred_11 : decode cX9_stirred 11 = .ok (.iload_n 2, 1) := zrD zrw_cX9_stirred_0 (i := 11) (by decide +kernel) rfl
theorem dX9_stirred_12 : decode cX9_stirred 12 = .ok (.iload_n 2, 1) := zrD zrw_cX9_stirred_0 (i := 12) (by decide +kernel) rfl
theorem dX9_stirred_13 : decode cX9_stirred 13 = .ok (.bipush 15, 2) := zrD zrw_cX9_stirred_0 (i := 13) (by decide +kernel) rfl
theorem dX9_stirred_15 : decode cX9_stirred 15 = .ok (.iushr, 1) := zrD zrw_cX9_stirred_0 (i := 15) (by decide +kernel) rfl
theorem dX9_stirred_16 : decode cX9_stirred 16 = .ok (.ixor, 1) := zrD zrw_cX9_stirred_0 (i := 16) (by decide +kernel) rfl
theorem dX9_stirred_17 : decode cX9_stirred 17 = .ok (.ireturn, 1) := zrD zrw_cX9_stirred_0 (i := 17) (by decide +kernel) rfl
end
-- 04.decX10
section
def zrk_cX10_init_0 : ByteArray := .mk #[42, 183, 0, 1, 42, 187, 0, 7, 89, 183, 0, 9, 181, 0, 10, 42, 187, 0, 16, 89, 183, 0, 18, 181, 0, 19, 42, 187, 0, 23, 89]
theorem zrw_cX10_init_0 : zrW 0 cX10_init zrk_cX10_init_0 := by unfold zrW; decide +kernel
theorem dX10_init_0 : decode cX10_init 0 = .ok (.aload_n 0, 1) := zrD zrw_cX10_init_0 (i := 0) (by decide +kernel) rfl
theorem dX10_init_1 : decode cX10_init 1 = .ok (.invokespecial 1, 3) := zrD zrw_cX10_init_0 (i := 1) (by decide +kernel) rfl
theorem dX10_init_4 : decode cX10_init 4 = .ok (.aload_n 0, 1) := zrD zrw_cX10_init_0 (i := 4) (by decide +kernel) rfl
theorem dX10_init_5 : decode cX10_init 5 = .ok (.new 7, 3) := zrD zrw_cX10_init_0 (i := 5) (by decide +kernel) rfl
theorem dX10_init_8 : decode cX10_init 8 = .ok (.dup, 1) := zrD zrw_cX10_init_0 (i := 8) (by decide +kernel) rfl
theorem dX10_init_9 : decode cX10_init 9 = .ok (.invokespecial 9, 3) := zrD zrw_cX10_init_0 (i := 9) (by decide +kernel) rfl
theorem dX10_init_12 : decode cX10_init 12 = .ok (.putfield 10, 3) := zrD zrw_cX10_init_0 (i := 12) (by decide +kernel) rfl
theorem dX10_init_15 : decode cX10_init 15 = .ok (.aload_n 0, 1) := zrD zrw_cX10_init_0 (i := 15) (by decide +kernel) rfl
theorem dX10_init_16 : decode cX10_init 16 = .ok (.new 16, 3) := zrD zrw_cX10_init_0 (i := 16) (by decide +kernel) rfl
theorem dX10_init_19 : decode cX10_init 19 = .ok (.dup, 1) := zrD zrw_cX10_init_0 (i := 19) (by decide +kernel) rfl
theorem dX10_init_20 : decode cX10_init 20 = .ok (.invokespecial 18, 3) := zrD zrw_cX10_init_0 (i := 20) (by decide +kernel) rfl
theorem dX10_init_23 : decode cX10_init 23 = .ok (.putfield 19, 3) := zrD zrw_cX10_init_0 (i := 23) (by decide +kernel) rfl
theorem dX10_init_26 : decode cX10_init 26 = .ok (.aload_n 0, 1) := zrD zrw_cX10_init_0 (i := 26) (by decide +kernel) rfl
theorem dX10_init_27 : decode cX10_init 27 = .ok (.new 23, 3) := zrD zrw_cX10_init_0 (i := 27) (by decide +kernel) rfl
theorem dX10_init_30 : decode cX10_init 30 = .ok (.dup, 1) := zrD zrw_cX10_init_0 (i := 30) (by decide +kernel) rfl
def zrk_cX10_init_31 : ByteArray := .mk #[183, 0, 25, 181, 0, 26, 42, 42, 180, 0, 26, 180, 0, 30, 181, 0, 34, 42, 187, 0, 35, 89, 183, 0, 37, 181, 0, 38, 42, 187, 0, 42]
theorem zrw_cX10_init_31 : zrW 31 cX10_init zrk_cX10_init_31 := by unfold zrW; decide +kernel
theorem dX10_init_31 : decode cX10_init 31 = .ok (.invokespecial 25, 3) := zrD zrw_cX10_init_31 (i := 0) (by decide +kernel) rfl
theorem dX10_init_34 : decode cX10_init 34 = .ok (.putfield 26, 3) := zrD zrw_cX10_init_31 (i := 3) (by decide +kernel) rfl
theorem dX10_init_37 : decode cX10_init 37 = .ok (.aload_n 0, 1) := zrD zrw_cX10_init_31 (i := 6) (by decide +kernel) rfl
theorem dX10_init_38 : decode cX10_init 38 = .ok (.aload_n 0, 1) := zrD zrw_cX10_init_31 (i := 7) (by decide +kernel) rfl
theorem dX10_init_39 : decode cX10_init 39 = .ok (.getfield 26, 3) := zrD zrw_cX10_init_31 (i := 8) (by decide +kernel) rfl
theorem dX10_init_42 : decode cX10_init 42 = .ok (.getfield 30, 3) := zrD zrw_cX10_init_31 (i := 11) (by decide +kernel) rfl
theorem dX10_init_45 : decode cX10_init 45 = .ok (.putfield 34, 3) := zrD zrw_cX10_init_31 (i := 14) (by decide +kernel) rfl
theorem dX10_init_48 : decode cX10_init 48 = .ok (.aload_n 0, 1) := zrD zrw_cX10_init_31 (i := 17) (by decide +kernel) rfl
theorem dX10_init_49 : decode cX10_init 49 = .ok (.new 35, 3) := zrD zrw_cX10_init_31 (i := 18) (by decide +kernel) rfl
theorem dX10_init_52 : decode cX10_init 52 = .ok (.dup, 1) := zrD zrw_cX10_init_31 (i := 21) (by decide +kernel) rfl
theorem dX10_init_53 : decode cX10_init 53 = .ok (.invokespecial 37, 3) := zrD zrw_cX10_init_31 (i := 22) (by decide +kernel) rfl
theorem dX10_init_56 : decode cX10_init 56 = .ok (.putfield 38, 3) := zrD zrw_cX10_init_31 (i := 25) (by decide +kernel) rfl
theorem dX10_init_59 : decode cX10_init 59 = .ok (.aload_n 0, 1) := zrD zrw_cX10_init_31 (i := 28) (by decide +kernel) rfl
theorem dX10_init_60 : decode cX10_init 60 = .ok (.new 42, 3) := zrD zrw_cX10_init_31 (i := 29) (by decide +kernel) rfl
def zrk_cX10_init_63 : ByteArray := .mk #[89, 183, 0, 44, 181, 0, 45, 42, 187, 0, 49, 89, 183, 0, 51, 181, 0, 52, 42, 187, 0, 49, 89, 183, 0, 51, 181, 0, 56, 42, 6]
theorem zrw_cX10_init_63 : zrW 63 cX10_init zrk_cX10_init_63 := by unfold zrW; decide +kernel
theorem dX10_init_63 : decode cX10_init 63 = .ok (.dup, 1) := zrD zrw_cX10_init_63 (i := 0) (by decide +kernel) rfl
theorem dX10_init_64 : decode cX10_init 64 = .ok (.invokespecial 44, 3) := zrD zrw_cX10_init_63 (i := 1) (by decide +kernel) rfl
theorem dX10_init_67 : decode cX10_init 67 = .ok (.putfield 45, 3) := zrD zrw_cX10_init_63 (i := 4) (by decide +kernel) rfl
theorem dX10_init_70 : decode cX10_init 70 = .ok (.aload_n 0, 1) := zrD zrw_cX10_init_63 (i := 7) (by decide +kernel) rfl
theorem dX10_init_71 : decode cX10_init 71 = .ok (.new 49, 3) := zrD zrw_cX10_init_63 (i := 8) (by decide +kernel) rfl
theorem dX10_init_74 : decode cX10_init 74 = .ok (.dup, 1) := zrD zrw_cX10_init_63 (i := 11) (by decide +kernel) rfl
theorem dX10_init_75 : decode cX10_init 75 = .ok (.invokespecial 51, 3) := zrD zrw_cX10_init_63 (i := 12) (by decide +kernel) rfl
theorem dX10_init_78 : decode cX10_init 78 = .ok (.putfield 52, 3) := zrD zrw_cX10_init_63 (i := 15) (by decide +kernel) rfl
theorem dX10_init_81 : decode cX10_init 81 = .ok (.aload_n 0, 1) := zrD zrw_cX10_init_63 (i := 18) (by decide +kernel) rfl
theorem dX10_init_82 : decode cX10_init 82 = .ok (.new 49, 3) := zrD zrw_cX10_init_63 (i := 19) (by decide +kernel) rfl
theorem dX10_init_85 : decode cX10_init 85 = .ok (.dup, 1) := zrD zrw_cX10_init_63 (i := 22) (by decide +kernel) rfl
theorem dX10_init_86 : decode cX10_init 86 = .ok (.invokespecial 51, 3) := zrD zrw_cX10_init_63 (i := 23) (by decide +kernel) rfl
theorem dX10_init_89 : decode cX10_init 89 = .ok (.putfield 56, 3) := zrD zrw_cX10_init_63 (i := 26) (by decide +kernel) rfl
theorem dX10_init_92 : decode cX10_init 92 = .ok (.aload_n 0, 1) := zrD zrw_cX10_init_63 (i := 29) (by decide +kernel) rfl
theorem dX10_init_93 : decode cX10_init 93 = .ok (.iconst 3, 1) := zrD zrw_cX10_init_63 (i := 30) (by decide +kernel) rfl
def zrk_cX10_init_94 : ByteArray := .mk #[189, 0, 49, 181, 0, 59, 3, 60, 27, 6, 162, 0, 22, 42, 180, 0, 59, 27, 187, 0, 49, 89, 183, 0, 51, 83, 132, 1, 1, 167, 255, 235]
theorem zrw_cX10_init_94 : zrW 94 cX10_init zrk_cX10_init_94 := by unfold zrW; decide +kernel
theorem dX10_init_94 : decode cX10_init 94 = .ok (.anewarray 49, 3) := zrD zrw_cX10_init_94 (i := 0) (by decide +kernel) rfl
theorem dX10_init_97 : decode cX10_init 97 = .ok (.putfield 59, 3) := zrD zrw_cX10_init_94 (i := 3) (by decide +kernel) rfl
theorem dX10_init_100 : decode cX10_init 100 = .ok (.iconst 0, 1) := zrD zrw_cX10_init_94 (i := 6) (by decide +kernel) rfl
theorem dX10_init_101 : decode cX10_init 101 = .ok (.istore_n 1, 1) := zrD zrw_cX10_init_94 (i := 7) (by decide +kernel) rfl
theorem dX10_init_102 : decode cX10_init 102 = .ok (.iload_n 1, 1) := zrD zrw_cX10_init_94 (i := 8) (by decide +kernel) rfl
theorem dX10_init_103 : decode cX10_init 103 = .ok (.iconst 3, 1) := zrD zrw_cX10_init_94 (i := 9) (by decide +kernel) rfl
theorem dX10_init_104 : decode cX10_init 104 = .ok (.if_icmp .ge 22, 3) := zrD zrw_cX10_init_94 (i := 10) (by decide +kernel) rfl
theorem dX10_init_107 : decode cX10_init 107 = .ok (.aload_n 0, 1) := zrD zrw_cX10_init_94 (i := 13) (by decide +kernel) rfl
theorem dX10_init_108 : decode cX10_init 108 = .ok (.getfield 59, 3) := zrD zrw_cX10_init_94 (i := 14) (by decide +kernel) rfl
theorem dX10_init_111 : decode cX10_init 111 = .ok (.iload_n 1, 1) := zrD zrw_cX10_init_94 (i := 17) (by decide +kernel) rfl
theorem dX10_init_112 : decode cX10_init 112 = .ok (.new 49, 3) := zrD zrw_cX10_init_94 (i := 18) (by decide +kernel) rfl
theorem dX10_init_115 : decode cX10_init 115 = .ok (.dup, 1) := zrD zrw_cX10_init_94 (i := 21) (by decide +kernel) rfl
theorem dX10_init_116 : decode cX10_init 116 = .ok (.invokespecial 51, 3) := zrD zrw_cX10_init_94 (i := 22) (by decide +kernel) rfl
theorem dX10_init_119 : decode cX10_init 119 = .ok (.aastore, 1) := zrD zrw_cX10_init_94 (i := 25) (by decide +kernel) rfl
theorem dX10_init_120 : decode cX10_init 120 = .ok (.iinc 1 1, 3) := zrD zrw_cX10_init_94 (i := 26) (by decide +kernel) rfl
theorem dX10_init_123 : decode cX10_init 123 = .ok (.goto (-21), 3) := zrD zrw_cX10_init_94 (i := 29) (by decide +kernel) rfl
def zrk_cX10_init_126 : ByteArray := .mk #[42, 16, 12]
theorem zrw_cX10_init_126 : zrW 126 cX10_init zrk_cX10_init_126 := by unfold zrW; decide +kernel
theorem dX10_init_126 : decode cX10_init 126 = .ok (.aload_n 0, 1) := zrD zrw_cX10_init_126 (i := 0) (by decide +kernel) rfl
theorem dX10_init_127 : decode cX10_init 127 = .ok (.bipush 12, 2) := zrD zrw_cX10_init_126 (i := 1) (by decide +kernel) rfl
theorem dX10_init_129 : decode cX10_init 129 = .ok (.newarray .int, 2) := by decide +kernel
def zrk_cX10_init_131 : ByteArray := .mk #[181, 0, 63, 42, 187, 0, 67, 89, 183, 0, 69, 181, 0, 70, 42, 187, 0, 67, 89, 183, 0, 69, 181, 0, 74, 42, 3, 181, 0, 77, 42, 2]
theorem zrw_cX10_init_131 : zrW 131 cX10_init zrk_cX10_init_131 := by unfold zrW; decide +kernel
theorem dX10_init_131 : decode cX10_init 131 = .ok (.putfield 63, 3) := zrD zrw_cX10_init_131 (i := 0) (by decide +kernel) rfl
theorem dX10_init_134 : decode cX10_init 134 = .ok (.aload_n 0, 1) := zrD zrw_cX10_init_131 (i := 3) (by decide +kernel) rfl
theorem dX10_init_135 : decode cX10_init 135 = .ok (.new 67, 3) := zrD zrw_cX10_init_131 (i := 4) (by decide +kernel) rfl
theorem dX10_init_138 : decode cX10_init 138 = .ok (.dup, 1) := zrD zrw_cX10_init_131 (i := 7) (by decide +kernel) rfl
theorem dX10_init_139 : decode cX10_init 139 = .ok (.invokespecial 69, 3) := zrD zrw_cX10_init_131 (i := 8) (by decide +kernel) rfl
theorem dX10_init_142 : decode cX10_init 142 = .ok (.putfield 70, 3) := zrD zrw_cX10_init_131 (i := 11) (by decide +kernel) rfl
theorem dX10_init_145 : decode cX10_init 145 = .ok (.aload_n 0, 1) := zrD zrw_cX10_init_131 (i := 14) (by decide +kernel) rfl
theorem dX10_init_146 : decode cX10_init 146 = .ok (.new 67, 3) := zrD zrw_cX10_init_131 (i := 15) (by decide +kernel) rfl
theorem dX10_init_149 : decode cX10_init 149 = .ok (.dup, 1) := zrD zrw_cX10_init_131 (i := 18) (by decide +kernel) rfl
theorem dX10_init_150 : decode cX10_init 150 = .ok (.invokespecial 69, 3) := zrD zrw_cX10_init_131 (i := 19) (by decide +kernel) rfl
theorem dX10_init_153 : decode cX10_init 153 = .ok (.putfield 74, 3) := zrD zrw_cX10_init_131 (i := 22) (by decide +kernel) rfl
theorem dX10_init_156 : decode cX10_init 156 = .ok (.aload_n 0, 1) := zrD zrw_cX10_init_131 (i := 25) (by decide +kernel) rfl
theorem dX10_init_157 : decode cX10_init 157 = .ok (.iconst 0, 1) := zrD zrw_cX10_init_131 (i := 26) (by decide +kernel) rfl
theorem dX10_init_158 : decode cX10_init 158 = .ok (.putfield 77, 3) := zrD zrw_cX10_init_131 (i := 27) (by decide +kernel) rfl
theorem dX10_init_161 : decode cX10_init 161 = .ok (.aload_n 0, 1) := zrD zrw_cX10_init_131 (i := 30) (by decide +kernel) rfl
theorem dX10_init_162 : decode cX10_init 162 = .ok (.iconst (-1), 1) := zrD zrw_cX10_init_131 (i := 31) (by decide +kernel) rfl
def zrk_cX10_init_163 : ByteArray := .mk #[181, 0, 81, 177]
theorem zrw_cX10_init_163 : zrW 163 cX10_init zrk_cX10_init_163 := by unfold zrW; decide +kernel
theorem dX10_init_163 : decode cX10_init 163 = .ok (.putfield 81, 3) := zrD zrw_cX10_init_163 (i := 0) (by decide +kernel) rfl
theorem dX10_init_166 : decode cX10_init 166 = .ok (.return_, 1) := zrD zrw_cX10_init_163 (i := 3) (by decide +kernel) rfl
def zrk_cX10_feed_0 : ByteArray := .mk #[42, 180, 0, 10, 180, 0, 84, 16, 20, 96, 17, 7, 208, 164, 0, 5, 2, 172, 42, 180, 0, 10, 27, 182, 0, 87, 42, 180, 0, 10, 28]
theorem zrw_cX10_feed_0 : zrW 0 cX10_feed zrk_cX10_feed_0 := by unfold zrW; decide +kernel
theorem dX10_feed_0 : decode cX10_feed 0 = .ok (.aload_n 0, 1) := zrD zrw_cX10_feed_0 (i := 0) (by decide +kernel) rfl
theorem dX10_feed_1 : decode cX10_feed 1 = .ok (.getfield 10, 3) := zrD zrw_cX10_feed_0 (i := 1) (by decide +kernel) rfl
theorem dX10_feed_4 : decode cX10_feed 4 = .ok (.getfield 84, 3) := zrD zrw_cX10_feed_0 (i := 4) (by decide +kernel) rfl
theorem dX10_feed_7 : decode cX10_feed 7 = .ok (.bipush 20, 2) := zrD zrw_cX10_feed_0 (i := 7) (by decide +kernel) rfl
theorem dX10_feed_9 : decode cX10_feed 9 = .ok (.iadd, 1) := zrD zrw_cX10_feed_0 (i := 9) (by decide +kernel) rfl
theorem dX10_feed_10 : decode cX10_feed 10 = .ok (.sipush 2000, 3) := zrD zrw_cX10_feed_0 (i := 10) (by decide +kernel) rfl
theorem dX10_feed_13 : decode cX10_feed 13 = .ok (.if_icmp .le 5, 3) := zrD zrw_cX10_feed_0 (i := 13) (by decide +kernel) rfl
theorem dX10_feed_16 : decode cX10_feed 16 = .ok (.iconst (-1), 1) := zrD zrw_cX10_feed_0 (i := 16) (by decide +kernel) rfl
theorem dX10_feed_17 : decode cX10_feed 17 = .ok (.ireturn, 1) := zrD zrw_cX10_feed_0 (i := 17) (by decide +kernel) rfl
theorem dX10_feed_18 : decode cX10_feed 18 = .ok (.aload_n 0, 1) := zrD zrw_cX10_feed_0 (i := 18) (by decide +kernel) rfl
theorem dX10_feed_19 : decode cX10_feed 19 = .ok (.getfield 10, 3) := zrD zrw_cX10_feed_0 (i := 19) (by decide +kernel) rfl
theorem dX10_feed_22 : decode cX10_feed 22 = .ok (.iload_n 1, 1) := zrD zrw_cX10_feed_0 (i := 22) (by decide +kernel) rfl
theorem dX10_feed_23 : decode cX10_feed 23 = .ok (.invokevirtual 87, 3) := zrD zrw_cX10_feed_0 (i := 23) (by decide +kernel) rfl
theorem dX10_feed_26 : decode cX10_feed 26 = .ok (.aload_n 0, 1) := zrD zrw_cX10_feed_0 (i := 26) (by decide +kernel) rfl
theorem dX10_feed_27 : decode cX10_feed 27 = .ok (.getfield 10, 3) := zrD zrw_cX10_feed_0 (i := 27) (by decide +kernel) rfl
theorem dX10_feed_30 : decode cX10_feed 30 = .ok (.iload_n 2, 1) := zrD zrw_cX10_feed_0 (i := 30) (by decide +kernel) rfl
def zrk_cX10_feed_31 : ByteArray := .mk #[182, 0, 87, 42, 180, 0, 10, 29, 182, 0, 87, 42, 180, 0, 10, 21, 4, 182, 0, 87, 42, 180, 0, 10, 21, 5, 182, 0, 87, 42]
theorem zrw_cX10_feed_31 : zrW 31 cX10_feed zrk_cX10_feed_31 := by unfold zrW; decide +kernel
theorem dX10_feed_31 : decode cX10_feed 31 = .ok (.invokevirtual 87, 3) := zrD zrw_cX10_feed_31 (i := 0) (by decide +kernel) rfl
theorem dX10_feed_34 : decode cX10_feed 34 = .ok (.aload_n 0, 1) := zrD zrw_cX10_feed_31 (i := 3) (by decide +kernel) rfl
theorem dX10_feed_35 : decode cX10_feed 35 = .ok (.getfield 10, 3) := zrD zrw_cX10_feed_31 (i := 4) (by decide +kernel) rfl
theorem dX10_feed_38 : decode cX10_feed 38 = .ok (.iload_n 3, 1) := zrD zrw_cX10_feed_31 (i := 7) (by decide +kernel) rfl
theorem dX10_feed_39 : decode cX10_feed 39 = .ok (.invokevirtual 87, 3) := zrD zrw_cX10_feed_31 (i := 8) (by decide +kernel) rfl
theorem dX10_feed_42 : decode cX10_feed 42 = .ok (.aload_n 0, 1) := zrD zrw_cX10_feed_31 (i := 11) (by decide +kernel) rfl
theorem dX10_feed_43 : decode cX10_feed 43 = .ok (.getfield 10, 3) := zrD zrw_cX10_feed_31 (i := 12) (by decide +kernel) rfl
theorem dX10_feed_46 : decode cX10_feed 46 = .ok (.iload 4, 2) := zrD zrw_cX10_feed_31 (i := 15) (by decide +kernel) rfl
theorem dX10_feed_48 : decode cX10_feed 48 = .ok (.invokevirtual 87, 3) := zrD zrw_cX10_feed_31 (i := 17) (by decide +kernel) rfl
theorem dX10_feed_51 : decode cX10_feed 51 = .ok (.aload_n 0, 1) := zrD zrw_cX10_feed_31 (i := 20) (by decide +kernel) rfl
theorem dX10_feed_52 : decode cX10_feed 52 = .ok (.getfield 10, 3) := zrD zrw_cX10_feed_31 (i := 21) (by decide +kernel) rfl
theorem dX10_feed_55 : decode cX10_feed 55 = .ok (.iload 5, 2) := zrD zrw_cX10_feed_31 (i := 24) (by decide +kernel) rfl
theorem dX10_feed_57 : decode cX10_feed 57 = .ok (.invokevirtual 87, 3) := zrD zrw_cX10_feed_31 (i := 26) (by decide +kernel) rfl
theorem dX10_feed_60 : decode cX10_feed 60 = .ok (.aload_n 0, 1) := zrD zrw_cX10_feed_31 (i := 29) (by decide +kernel) rfl
def zrk_cX10_feed_61 : ByteArray := .mk #[180, 0, 10, 180, 0, 84, 172]
theorem zrw_cX10_feed_61 : zrW 61 cX10_feed zrk_cX10_feed_61 := by unfold zrW; decide +kernel
theorem dX10_feed_61 : decode cX10_feed 61 = .ok (.getfield 10, 3) := zrD zrw_cX10_feed_61 (i := 0) (by decide +kernel) rfl
theorem dX10_feed_64 : decode cX10_feed 64 = .ok (.getfield 84, 3) := zrD zrw_cX10_feed_61 (i := 3) (by decide +kernel) rfl
theorem dX10_feed_67 : decode cX10_feed 67 = .ok (.ireturn, 1) := zrD zrw_cX10_feed_61 (i := 6) (by decide +kernel) rfl
def zrk_cX10_back_0 : ByteArray := .mk #[27, 155, 0, 14, 27, 42, 180, 0, 10, 180, 0, 84, 164, 0, 5, 2, 172, 42, 180, 0, 10, 89, 180, 0, 84, 27, 100, 181, 0, 84, 42]
theorem zrw_cX10_back_0 : zrW 0 cX10_back zrk_cX10_back_0 := by unfold zrW; decide +kernel
theorem dX10_back_0 : decode cX10_back 0 = .ok (.iload_n 1, 1) := zrD zrw_cX10_back_0 (i := 0) (by decide +kernel) rfl
theorem dX10_back_1 : decode cX10_back 1 = .ok (.ifCond .lt 14, 3) := zrD zrw_cX10_back_0 (i := 1) (by decide +kernel) rfl
theorem dX10_back_4 : decode cX10_back 4 = .ok (.iload_n 1, 1) := zrD zrw_cX10_back_0 (i := 4) (by decide +kernel) rfl
theorem dX10_back_5 : decode cX10_back 5 = .ok (.aload_n 0, 1) := zrD zrw_cX10_back_0 (i := 5) (by decide +kernel) rfl
theorem dX10_back_6 : decode cX10_back 6 = .ok (.getfield 10, 3) := zrD zrw_cX10_back_0 (i := 6) (by decide +kernel) rfl
theorem dX10_back_9 : decode cX10_back 9 = .ok (.getfield 84, 3) := zrD zrw_cX10_back_0 (i := 9) (by decide +kernel) rfl
theorem dX10_back_12 : decode cX10_back 12 = .ok (.if_icmp .le 5, 3) := zrD zrw_cX10_back_0 (i := 12) (by decide +kernel) rfl
theorem dX10_back_15 : decode cX10_back 15 = .ok (.iconst (-1), 1) := zrD zrw_cX10_back_0 (i := 15) (by decide +kernel) rfl
theorem dX10_back_16 : decode cX10_back 16 = .ok (.ireturn, 1) := zrD zrw_cX10_back_0 (i := 16) (by decide +kernel) rfl
theorem dX10_back_17 : decode cX10_back 17 = .ok (.aload_n 0, 1) := zrD zrw_cX10_back_0 (i := 17) (by decide +kernel) rfl
theorem dX10_back_18 : decode cX10_back 18 = .ok (.getfield 10, 3) := zrD zrw_cX10_back_0 (i := 18) (by decide +kernel) rfl
theorem dX10_back_21 : decode cX10_back 21 = .ok (.dup, 1) := zrD zrw_cX10_back_0 (i := 21) (by decide +kernel) rfl
theorem dX10_back_22 : decode cX10_back 22 = .ok (.getfield 84, 3) := zrD zrw_cX10_back_0 (i := 22) (by decide +kernel) rfl
theorem dX10_back_25 : decode cX10_back 25 = .ok (.iload_n 1, 1) := zrD zrw_cX10_back_0 (i := 25) (by decide +kernel) rfl
theorem dX10_back_26 : decode cX10_back 26 = .ok (.isub, 1) := zrD zrw_cX10_back_0 (i := 26) (by decide +kernel) rfl
theorem dX10_back_27 : decode cX10_back 27 = .ok (.putfield 84, 3) := zrD zrw_cX10_back_0 (i := 27) (by decide +kernel) rfl
theorem dX10_back_30 : decode cX10_back 30 = .ok (.aload_n 0, 1) := zrD zrw_cX10_back_0 (i := 30) (by decide +kernel) rfl
def zrk_cX10_back_31 : ByteArray := .mk #[180, 0, 10, 180, 0, 84, 172]
theorem zrw_cX10_back_31 : zrW 31 cX10_back zrk_cX10_back_31 := by unfold zrW; decide +kernel
theorem dX10_back_31 : decode cX10_back 31 = .ok (.getfield 10, 3) := zrD zrw_cX10_back_31 (i := 0) (by decide +kernel) rfl
theorem dX10_back_34 : decode cX10_back 34 = .ok (.getfield 84, 3) := zrD zrw_cX10_back_31 (i := 3) (by decide +kernel) rfl
theorem dX10_back_37 : decode cX10_back 37 = .ok (.ireturn, 1) := zrD zrw_cX10_back_31 (i := 6) (by decide +kernel) rfl
def zrk_cX10_read_0 : ByteArray := .mk #[42, 180, 0, 19, 42, 180, 0, 10, 180, 0, 91, 42, 180, 0, 10, 180, 0, 84, 42, 180, 0, 74, 182, 0, 95, 60, 42, 42, 180, 0, 19]
theorem zrw_cX10_read_0 : zrW 0 cX10_read zrk_cX10_read_0 := by unfold zrW; decide +kernel
theorem dX10_read_0 : decode cX10_read 0 = .ok (.aload_n 0, 1) := zrD zrw_cX10_read_0 (i := 0) (by decide +kernel) rfl
theorem dX10_read_1 : decode cX10_read 1 = .ok (.getfield 19, 3) := zrD zrw_cX10_read_0 (i := 1) (by decide +kernel) rfl
theorem dX10_read_4 : decode cX10_read 4 = .ok (.aload_n 0, 1) := zrD zrw_cX10_read_0 (i := 4) (by decide +kernel) rfl
theorem dX10_read_5 : decode cX10_read 5 = .ok (.getfield 10, 3) := zrD zrw_cX10_read_0 (i := 5) (by decide +kernel) rfl
theorem dX10_read_8 : decode cX10_read 8 = .ok (.getfield 91, 3) := zrD zrw_cX10_read_0 (i := 8) (by decide +kernel) rfl
theorem dX10_read_11 : decode cX10_read 11 = .ok (.aload_n 0, 1) := zrD zrw_cX10_read_0 (i := 11) (by decide +kernel) rfl
theorem dX10_read_12 : decode cX10_read 12 = .ok (.getfield 10, 3) := zrD zrw_cX10_read_0 (i := 12) (by decide +kernel) rfl
theorem dX10_read_15 : decode cX10_read 15 = .ok (.getfield 84, 3) := zrD zrw_cX10_read_0 (i := 15) (by decide +kernel) rfl
theorem dX10_read_18 : decode cX10_read 18 = .ok (.aload_n 0, 1) := zrD zrw_cX10_read_0 (i := 18) (by decide +kernel) rfl
theorem dX10_read_19 : decode cX10_read 19 = .ok (.getfield 74, 3) := zrD zrw_cX10_read_0 (i := 19) (by decide +kernel) rfl
theorem dX10_read_22 : decode cX10_read 22 = .ok (.invokevirtual 95, 3) := zrD zrw_cX10_read_0 (i := 22) (by decide +kernel) rfl
theorem dX10_read_25 : decode cX10_read 25 = .ok (.istore_n 1, 1) := zrD zrw_cX10_read_0 (i := 25) (by decide +kernel) rfl
theorem dX10_read_26 : decode cX10_read 26 = .ok (.aload_n 0, 1) := zrD zrw_cX10_read_0 (i := 26) (by decide +kernel) rfl
theorem dX10_read_27 : decode cX10_read 27 = .ok (.aload_n 0, 1) := zrD zrw_cX10_read_0 (i := 27) (by decide +kernel) rfl
theorem dX10_read_28 : decode cX10_read 28 = .ok (.getfield 19, 3) := zrD zrw_cX10_read_0 (i := 28) (by decide +kernel) rfl
def zrk_cX10_read_31 : ByteArray := .mk #[180, 0, 99, 181, 0, 81, 42, 180, 0, 10, 3, 181, 0, 84, 27, 154, 0, 25, 42, 180, 0, 74, 77, 42, 42, 180, 0, 70, 181, 0, 74, 42]
theorem zrw_cX10_read_31 : zrW 31 cX10_read zrk_cX10_read_31 := by unfold zrW; decide +kernel
theorem dX10_read_31 : decode cX10_read 31 = .ok (.getfield 99, 3) := zrD zrw_cX10_read_31 (i := 0) (by decide +kernel) rfl
theorem dX10_read_34 : decode cX10_read 34 = .ok (.putfield 81, 3) := zrD zrw_cX10_read_31 (i := 3) (by decide +kernel) rfl
theorem dX10_read_37 : decode cX10_read 37 = .ok (.aload_n 0, 1) := zrD zrw_cX10_read_31 (i := 6) (by decide +kernel) rfl
theorem dX10_read_38 : decode cX10_read 38 = .ok (.getfield 10, 3) := zrD zrw_cX10_read_31 (i := 7) (by decide +kernel) rfl
theorem dX10_read_41 : decode cX10_read 41 = .ok (.iconst 0, 1) := zrD zrw_cX10_read_31 (i := 10) (by decide +kernel) rfl
theorem dX10_read_42 : decode cX10_read 42 = .ok (.putfield 84, 3) := zrD zrw_cX10_read_31 (i := 11) (by decide +kernel) rfl
theorem dX10_read_45 : decode cX10_read 45 = .ok (.iload_n 1, 1) := zrD zrw_cX10_read_31 (i := 14) (by decide +kernel) rfl
theorem dX10_read_46 : decode cX10_read 46 = .ok (.ifCond .ne 25, 3) := zrD zrw_cX10_read_31 (i := 15) (by decide +kernel) rfl
theorem dX10_read_49 : decode cX10_read 49 = .ok (.aload_n 0, 1) := zrD zrw_cX10_read_31 (i := 18) (by decide +kernel) rfl
theorem dX10_read_50 : decode cX10_read 50 = .ok (.getfield 74, 3) := zrD zrw_cX10_read_31 (i := 19) (by decide +kernel) rfl
theorem dX10_read_53 : decode cX10_read 53 = .ok (.astore_n 2, 1) := zrD zrw_cX10_read_31 (i := 22) (by decide +kernel) rfl
theorem dX10_read_54 : decode cX10_read 54 = .ok (.aload_n 0, 1) := zrD zrw_cX10_read_31 (i := 23) (by decide +kernel) rfl
theorem dX10_read_55 : decode cX10_read 55 = .ok (.aload_n 0, 1) := zrD zrw_cX10_read_31 (i := 24) (by decide +kernel) rfl
theorem dX10_read_56 : decode cX10_read 56 = .ok (.getfield 70, 3) := zrD zrw_cX10_read_31 (i := 25) (by decide +kernel) rfl
theorem dX10_read_59 : decode cX10_read 59 = .ok (.putfield 74, 3) := zrD zrw_cX10_read_31 (i := 28) (by decide +kernel) rfl
theorem dX10_read_62 : decode cX10_read 62 = .ok (.aload_n 0, 1) := zrD zrw_cX10_read_31 (i := 31) (by decide +kernel) rfl
def zrk_cX10_read_63 : ByteArray := .mk #[44, 181, 0, 70, 42, 182, 0, 100, 27, 172]
theorem zrw_cX10_read_63 : zrW 63 cX10_read zrk_cX10_read_63 := by unfold zrW; decide +kernel
theorem dX10_read_63 : decode cX10_read 63 = .ok (.aload_n 2, 1) := zrD zrw_cX10_read_63 (i := 0) (by decide +kernel) rfl
theorem dX10_read_64 : decode cX10_read 64 = .ok (.putfield 70, 3) := zrD zrw_cX10_read_63 (i := 1) (by decide +kernel) rfl
theorem dX10_read_67 : decode cX10_read 67 = .ok (.aload_n 0, 1) := zrD zrw_cX10_read_63 (i := 4) (by decide +kernel) rfl
theorem dX10_read_68 : decode cX10_read 68 = .ok (.invokevirtual 100, 3) := zrD zrw_cX10_read_63 (i := 5) (by decide +kernel) rfl
theorem dX10_read_71 : decode cX10_read 71 = .ok (.iload_n 1, 1) := zrD zrw_cX10_read_63 (i := 8) (by decide +kernel) rfl
theorem dX10_read_72 : decode cX10_read 72 = .ok (.ireturn, 1) := zrD zrw_cX10_read_63 (i := 9) (by decide +kernel) rfl
def zrk_cX10_beginAnew_0 : ByteArray := .mk #[42, 180, 0, 52, 42, 180, 0, 70, 182, 0, 103, 42, 180, 0, 38, 3, 181, 0, 107, 42, 180, 0, 45, 3, 181, 0, 108, 42, 3, 181, 0, 77]
theorem zrw_cX10_beginAnew_0 : zrW 0 cX10_beginAnew zrk_cX10_beginAnew_0 := by unfold zrW; decide +kernel
theorem dX10_beginAnew_0 : decode cX10_beginAnew 0 = .ok (.aload_n 0, 1) := zrD zrw_cX10_beginAnew_0 (i := 0) (by decide +kernel) rfl
theorem dX10_beginAnew_1 : decode cX10_beginAnew 1 = .ok (.getfield 52, 3) := zrD zrw_cX10_beginAnew_0 (i := 1) (by decide +kernel) rfl
theorem dX10_beginAnew_4 : decode cX10_beginAnew 4 = .ok (.aload_n 0, 1) := zrD zrw_cX10_beginAnew_0 (i := 4) (by decide +kernel) rfl
theorem dX10_beginAnew_5 : decode cX10_beginAnew 5 = .ok (.getfield 70, 3) := zrD zrw_cX10_beginAnew_0 (i := 5) (by decide +kernel) rfl
theorem dX10_beginAnew_8 : decode cX10_beginAnew 8 = .ok (.invokevirtual 103, 3) := zrD zrw_cX10_beginAnew_0 (i := 8) (by decide +kernel) rfl
theorem dX10_beginAnew_11 : decode cX10_beginAnew 11 = .ok (.aload_n 0, 1) := zrD zrw_cX10_beginAnew_0 (i := 11) (by decide +kernel) rfl
theorem dX10_beginAnew_12 : decode cX10_beginAnew 12 = .ok (.getfield 38, 3) := zrD zrw_cX10_beginAnew_0 (i := 12) (by decide +kernel) rfl
theorem dX10_beginAnew_15 : decode cX10_beginAnew 15 = .ok (.iconst 0, 1) := zrD zrw_cX10_beginAnew_0 (i := 15) (by decide +kernel) rfl
theorem dX10_beginAnew_16 : decode cX10_beginAnew 16 = .ok (.putfield 107, 3) := zrD zrw_cX10_beginAnew_0 (i := 16) (by decide +kernel) rfl
theorem dX10_beginAnew_19 : decode cX10_beginAnew 19 = .ok (.aload_n 0, 1) := zrD zrw_cX10_beginAnew_0 (i := 19) (by decide +kernel) rfl
theorem dX10_beginAnew_20 : decode cX10_beginAnew 20 = .ok (.getfield 45, 3) := zrD zrw_cX10_beginAnew_0 (i := 20) (by decide +kernel) rfl
theorem dX10_beginAnew_23 : decode cX10_beginAnew 23 = .ok (.iconst 0, 1) := zrD zrw_cX10_beginAnew_0 (i := 23) (by decide +kernel) rfl
theorem dX10_beginAnew_24 : decode cX10_beginAnew 24 = .ok (.putfield 108, 3) := zrD zrw_cX10_beginAnew_0 (i := 24) (by decide +kernel) rfl
theorem dX10_beginAnew_27 : decode cX10_beginAnew 27 = .ok (.aload_n 0, 1) := zrD zrw_cX10_beginAnew_0 (i := 27) (by decide +kernel) rfl
theorem dX10_beginAnew_28 : decode cX10_beginAnew 28 = .ok (.iconst 0, 1) := zrD zrw_cX10_beginAnew_0 (i := 28) (by decide +kernel) rfl
theorem dX10_beginAnew_29 : decode cX10_beginAnew 29 = .ok (.putfield 77, 3) := zrD zrw_cX10_beginAnew_0 (i := 29) (by decide +kernel) rfl
def zrk_cX10_beginAnew_32 : ByteArray := .mk #[177]
theorem zrw_cX10_beginAnew_32 : zrW 32 cX10_beginAnew zrk_cX10_beginAnew_32 := by unfold zrW; decide +kernel
theorem dX10_beginAnew_32 : decode cX10_beginAnew 32 = .ok (.return_, 1) := zrD zrw_cX10_beginAnew_32 (i := 0) (by decide +kernel) rfl
def zrk_cX10_place_0 : ByteArray := .mk #[42, 180, 0, 81, 172]
theorem zrw_cX10_place_0 : zrW 0 cX10_place zrk_cX10_place_0 := by unfold zrW; decide +kernel
theorem dX10_place_0 : decode cX10_place 0 = .ok (.aload_n 0, 1) := zrD zrw_cX10_place_0 (i := 0) (by decide +kernel) rfl
theorem dX10_place_1 : decode cX10_place 1 = .ok (.getfield 81, 3) := zrD zrw_cX10_place_0 (i := 1) (by decide +kernel) rfl
theorem dX10_place_4 : decode cX10_place 4 = .ok (.ireturn, 1) := zrD zrw_cX10_place_0 (i := 4) (by decide +kernel) rfl
def zrk_cX10_spot_0 : ByteArray := .mk #[42, 27, 182, 0, 109, 153, 0, 13, 28, 155, 0, 9, 28, 16, 12, 164, 0, 5, 2, 172, 42, 182, 0, 113, 28]
theorem zrw_cX10_spot_0 : zrW 0 cX10_spot zrk_cX10_spot_0 := by unfold zrW; decide +kernel
theorem dX10_spot_0 : decode cX10_spot 0 = .ok (.aload_n 0, 1) := zrD zrw_cX10_spot_0 (i := 0) (by decide +kernel) rfl
theorem dX10_spot_1 : decode cX10_spot 1 = .ok (.iload_n 1, 1) := zrD zrw_cX10_spot_0 (i := 1) (by decide +kernel) rfl
theorem dX10_spot_2 : decode cX10_spot 2 = .ok (.invokevirtual 109, 3) := zrD zrw_cX10_spot_0 (i := 2) (by decide +kernel) rfl
theorem dX10_spot_5 : decode cX10_spot 5 = .ok (.ifCond .eq 13, 3) := zrD zrw_cX10_spot_0 (i := 5) (by decide +kernel) rfl
theorem dX10_spot_8 : decode cX10_spot 8 = .ok (.iload_n 2, 1) := zrD zrw_cX10_spot_0 (i := 8) (by decide +kernel) rfl
theorem dX10_spot_9 : decode cX10_spot 9 = .ok (.ifCond .lt 9, 3) := zrD zrw_cX10_spot_0 (i := 9) (by decide +kernel) rfl
theorem dX10_spot_12 : decode cX10_spot 12 = .ok (.iload_n 2, 1) := zrD zrw_cX10_spot_0 (i := 12) (by decide +kernel) rfl
theorem dX10_spot_13 : decode cX10_spot 13 = .ok (.bipush 12, 2) := zrD zrw_cX10_spot_0 (i := 13) (by decide +kernel) rfl
theorem dX10_spot_15 : decode cX10_spot 15 = .ok (.if_icmp .le 5, 3) := zrD zrw_cX10_spot_0 (i := 15) (by decide +kernel) rfl
theorem dX10_spot_18 : decode cX10_spot 18 = .ok (.iconst (-1), 1) := zrD zrw_cX10_spot_0 (i := 18) (by decide +kernel) rfl
theorem dX10_spot_19 : decode cX10_spot 19 = .ok (.ireturn, 1) := zrD zrw_cX10_spot_0 (i := 19) (by decide +kernel) rfl
theorem dX10_spot_20 : decode cX10_spot 20 = .ok (.aload_n 0, 1) := zrD zrw_cX10_spot_0 (i := 20) (by decide +kernel) rfl
theorem dX10_spot_21 : decode cX10_spot 21 = .ok (.invokevirtual 113, 3) := zrD zrw_cX10_spot_0 (i := 21) (by decide +kernel) rfl
theorem dX10_spot_24 : decode cX10_spot 24 = .ok (.iload_n 2, 1) := zrD zrw_cX10_spot_0 (i := 24) (by decide +kernel) rfl
theorem dX10_spot_25 : decode cX10_spot 25 = .ok (.tableswitch 209 0 11 #[63, 82, 92, 102, 112, 132, 142, 152, 162, 179, 189, 199], 63) := by decide +kernel
def zrk_cX10_spot_88 : ByteArray := .mk #[27, 154, 0, 8, 16, 254, 167, 0, 12, 42, 180, 0, 52, 180, 0, 116, 27, 46, 172, 42, 180, 0, 70, 180, 0, 119, 27, 46, 172, 42]
theorem zrw_cX10_spot_88 : zrW 88 cX10_spot zrk_cX10_spot_88 := by unfold zrW; decide +kernel
theorem dX10_spot_88 : decode cX10_spot 88 = .ok (.iload_n 1, 1) := zrD zrw_cX10_spot_88 (i := 0) (by decide +kernel) rfl
theorem dX10_spot_89 : decode cX10_spot 89 = .ok (.ifCond .ne 8, 3) := zrD zrw_cX10_spot_88 (i := 1) (by decide +kernel) rfl
theorem dX10_spot_92 : decode cX10_spot 92 = .ok (.bipush (-2), 2) := zrD zrw_cX10_spot_88 (i := 4) (by decide +kernel) rfl
theorem dX10_spot_94 : decode cX10_spot 94 = .ok (.goto 12, 3) := zrD zrw_cX10_spot_88 (i := 6) (by decide +kernel) rfl
theorem dX10_spot_97 : decode cX10_spot 97 = .ok (.aload_n 0, 1) := zrD zrw_cX10_spot_88 (i := 9) (by decide +kernel) rfl
theorem dX10_spot_98 : decode cX10_spot 98 = .ok (.getfield 52, 3) := zrD zrw_cX10_spot_88 (i := 10) (by decide +kernel) rfl
theorem dX10_spot_101 : decode cX10_spot 101 = .ok (.getfield 116, 3) := zrD zrw_cX10_spot_88 (i := 13) (by decide +kernel) rfl
theorem dX10_spot_104 : decode cX10_spot 104 = .ok (.iload_n 1, 1) := zrD zrw_cX10_spot_88 (i := 16) (by decide +kernel) rfl
theorem dX10_spot_105 : decode cX10_spot 105 = .ok (.iaload, 1) := zrD zrw_cX10_spot_88 (i := 17) (by decide +kernel) rfl
theorem dX10_spot_106 : decode cX10_spot 106 = .ok (.ireturn, 1) := zrD zrw_cX10_spot_88 (i := 18) (by decide +kernel) rfl
theorem dX10_spot_107 : decode cX10_spot 107 = .ok (.aload_n 0, 1) := zrD zrw_cX10_spot_88 (i := 19) (by decide +kernel) rfl
theorem dX10_spot_108 : decode cX10_spot 108 = .ok (.getfield 70, 3) := zrD zrw_cX10_spot_88 (i := 20) (by decide +kernel) rfl
theorem dX10_spot_111 : decode cX10_spot 111 = .ok (.getfield 119, 3) := zrD zrw_cX10_spot_88 (i := 23) (by decide +kernel) rfl
theorem dX10_spot_114 : decode cX10_spot 114 = .ok (.iload_n 1, 1) := zrD zrw_cX10_spot_88 (i := 26) (by decide +kernel) rfl
theorem dX10_spot_115 : decode cX10_spot 115 = .ok (.iaload, 1) := zrD zrw_cX10_spot_88 (i := 27) (by decide +kernel) rfl
theorem dX10_spot_116 : decode cX10_spot 116 = .ok (.ireturn, 1) := zrD zrw_cX10_spot_88 (i := 28) (by decide +kernel) rfl
theorem dX10_spot_117 : decode cX10_spot 117 = .ok (.aload_n 0, 1) := zrD zrw_cX10_spot_88 (i := 29) (by decide +kernel) rfl
def zrk_cX10_spot_118 : ByteArray := .mk #[180, 0, 70, 180, 0, 122, 27, 46, 172, 42, 180, 0, 70, 180, 0, 125, 27, 46, 172, 42, 180, 0, 52, 180, 0, 128, 27, 184, 0, 131]
theorem zrw_cX10_spot_118 : zrW 118 cX10_spot zrk_cX10_spot_118 := by unfold zrW; decide +kernel
theorem dX10_spot_118 : decode cX10_spot 118 = .ok (.getfield 70, 3) := zrD zrw_cX10_spot_118 (i := 0) (by decide +kernel) rfl
theorem dX10_spot_121 : decode cX10_spot 121 = .ok (.getfield 122, 3) := zrD zrw_cX10_spot_118 (i := 3) (by decide +kernel) rfl
theorem dX10_spot_124 : decode cX10_spot 124 = .ok (.iload_n 1, 1) := zrD zrw_cX10_spot_118 (i := 6) (by decide +kernel) rfl
theorem dX10_spot_125 : decode cX10_spot 125 = .ok (.iaload, 1) := zrD zrw_cX10_spot_118 (i := 7) (by decide +kernel) rfl
theorem dX10_spot_126 : decode cX10_spot 126 = .ok (.ireturn, 1) := zrD zrw_cX10_spot_118 (i := 8) (by decide +kernel) rfl
theorem dX10_spot_127 : decode cX10_spot 127 = .ok (.aload_n 0, 1) := zrD zrw_cX10_spot_118 (i := 9) (by decide +kernel) rfl
theorem dX10_spot_128 : decode cX10_spot 128 = .ok (.getfield 70, 3) := zrD zrw_cX10_spot_118 (i := 10) (by decide +kernel) rfl
theorem dX10_spot_131 : decode cX10_spot 131 = .ok (.getfield 125, 3) := zrD zrw_cX10_spot_118 (i := 13) (by decide +kernel) rfl
theorem dX10_spot_134 : decode cX10_spot 134 = .ok (.iload_n 1, 1) := zrD zrw_cX10_spot_118 (i := 16) (by decide +kernel) rfl
theorem dX10_spot_135 : decode cX10_spot 135 = .ok (.iaload, 1) := zrD zrw_cX10_spot_118 (i := 17) (by decide +kernel) rfl
theorem dX10_spot_136 : decode cX10_spot 136 = .ok (.ireturn, 1) := zrD zrw_cX10_spot_118 (i := 18) (by decide +kernel) rfl
theorem dX10_spot_137 : decode cX10_spot 137 = .ok (.aload_n 0, 1) := zrD zrw_cX10_spot_118 (i := 19) (by decide +kernel) rfl
theorem dX10_spot_138 : decode cX10_spot 138 = .ok (.getfield 52, 3) := zrD zrw_cX10_spot_118 (i := 20) (by decide +kernel) rfl
theorem dX10_spot_141 : decode cX10_spot 141 = .ok (.getfield 128, 3) := zrD zrw_cX10_spot_118 (i := 23) (by decide +kernel) rfl
theorem dX10_spot_144 : decode cX10_spot 144 = .ok (.iload_n 1, 1) := zrD zrw_cX10_spot_118 (i := 26) (by decide +kernel) rfl
theorem dX10_spot_145 : decode cX10_spot 145 = .ok (.invokestatic 131, 3) := zrD zrw_cX10_spot_118 (i := 27) (by decide +kernel) rfl
def zrk_cX10_spot_148 : ByteArray := .mk #[153, 0, 7, 4, 167, 0, 4, 3, 172, 42, 180, 0, 26, 180, 0, 135, 27, 46, 172, 42, 180, 0, 34, 180, 0, 138, 27, 46, 172, 42]
theorem zrw_cX10_spot_148 : zrW 148 cX10_spot zrk_cX10_spot_148 := by unfold zrW; decide +kernel
theorem dX10_spot_148 : decode cX10_spot 148 = .ok (.ifCond .eq 7, 3) := zrD zrw_cX10_spot_148 (i := 0) (by decide +kernel) rfl
theorem dX10_spot_151 : decode cX10_spot 151 = .ok (.iconst 1, 1) := zrD zrw_cX10_spot_148 (i := 3) (by decide +kernel) rfl
theorem dX10_spot_152 : decode cX10_spot 152 = .ok (.goto 4, 3) := zrD zrw_cX10_spot_148 (i := 4) (by decide +kernel) rfl
theorem dX10_spot_155 : decode cX10_spot 155 = .ok (.iconst 0, 1) := zrD zrw_cX10_spot_148 (i := 7) (by decide +kernel) rfl
theorem dX10_spot_156 : decode cX10_spot 156 = .ok (.ireturn, 1) := zrD zrw_cX10_spot_148 (i := 8) (by decide +kernel) rfl
theorem dX10_spot_157 : decode cX10_spot 157 = .ok (.aload_n 0, 1) := zrD zrw_cX10_spot_148 (i := 9) (by decide +kernel) rfl
theorem dX10_spot_158 : decode cX10_spot 158 = .ok (.getfield 26, 3) := zrD zrw_cX10_spot_148 (i := 10) (by decide +kernel) rfl
theorem dX10_spot_161 : decode cX10_spot 161 = .ok (.getfield 135, 3) := zrD zrw_cX10_spot_148 (i := 13) (by decide +kernel) rfl
theorem dX10_spot_164 : decode cX10_spot 164 = .ok (.iload_n 1, 1) := zrD zrw_cX10_spot_148 (i := 16) (by decide +kernel) rfl
theorem dX10_spot_165 : decode cX10_spot 165 = .ok (.iaload, 1) := zrD zrw_cX10_spot_148 (i := 17) (by decide +kernel) rfl
theorem dX10_spot_166 : decode cX10_spot 166 = .ok (.ireturn, 1) := zrD zrw_cX10_spot_148 (i := 18) (by decide +kernel) rfl
theorem dX10_spot_167 : decode cX10_spot 167 = .ok (.aload_n 0, 1) := zrD zrw_cX10_spot_148 (i := 19) (by decide +kernel) rfl
theorem dX10_spot_168 : decode cX10_spot 168 = .ok (.getfield 34, 3) := zrD zrw_cX10_spot_148 (i := 20) (by decide +kernel) rfl
theorem dX10_spot_171 : decode cX10_spot 171 = .ok (.getfield 138, 3) := zrD zrw_cX10_spot_148 (i := 23) (by decide +kernel) rfl
theorem dX10_spot_174 : decode cX10_spot 174 = .ok (.iload_n 1, 1) := zrD zrw_cX10_spot_148 (i := 26) (by decide +kernel) rfl
theorem dX10_spot_175 : decode cX10_spot 175 = .ok (.iaload, 1) := zrD zrw_cX10_spot_148 (i := 27) (by decide +kernel) rfl
theorem dX10_spot_176 : decode cX10_spot 176 = .ok (.ireturn, 1) := zrD zrw_cX10_spot_148 (i := 28) (by decide +kernel) rfl
theorem dX10_spot_177 : decode cX10_spot 177 = .ok (.aload_n 0, 1) := zrD zrw_cX10_spot_148 (i := 29) (by decide +kernel) rfl
def zrk_cX10_spot_178 : ByteArray := .mk #[180, 0, 34, 180, 0, 143, 27, 46, 172, 42, 180, 0, 34, 27, 182, 0, 146, 153, 0, 7, 4, 167, 0, 4, 3, 172, 42, 180, 0, 52]
theorem zrw_cX10_spot_178 : zrW 178 cX10_spot zrk_cX10_spot_178 := by unfold zrW; decide +kernel
theorem dX10_spot_178 : decode cX10_spot 178 = .ok (.getfield 34, 3) := zrD zrw_cX10_spot_178 (i := 0) (by decide +kernel) rfl
theorem dX10_spot_181 : decode cX10_spot 181 = .ok (.getfield 143, 3) := zrD zrw_cX10_spot_178 (i := 3) (by decide +kernel) rfl
theorem dX10_spot_184 : decode cX10_spot 184 = .ok (.iload_n 1, 1) := zrD zrw_cX10_spot_178 (i := 6) (by decide +kernel) rfl
theorem dX10_spot_185 : decode cX10_spot 185 = .ok (.iaload, 1) := zrD zrw_cX10_spot_178 (i := 7) (by decide +kernel) rfl
theorem dX10_spot_186 : decode cX10_spot 186 = .ok (.ireturn, 1) := zrD zrw_cX10_spot_178 (i := 8) (by decide +kernel) rfl
theorem dX10_spot_187 : decode cX10_spot 187 = .ok (.aload_n 0, 1) := zrD zrw_cX10_spot_178 (i := 9) (by decide +kernel) rfl
theorem dX10_spot_188 : decode cX10_spot 188 = .ok (.getfield 34, 3) := zrD zrw_cX10_spot_178 (i := 10) (by decide +kernel) rfl
theorem dX10_spot_191 : decode cX10_spot 191 = .ok (.iload_n 1, 1) := zrD zrw_cX10_spot_178 (i := 13) (by decide +kernel) rfl
theorem dX10_spot_192 : decode cX10_spot 192 = .ok (.invokevirtual 146, 3) := zrD zrw_cX10_spot_178 (i := 14) (by decide +kernel) rfl
theorem dX10_spot_195 : decode cX10_spot 195 = .ok (.ifCond .eq 7, 3) := zrD zrw_cX10_spot_178 (i := 17) (by decide +kernel) rfl
theorem dX10_spot_198 : decode cX10_spot 198 = .ok (.iconst 1, 1) := zrD zrw_cX10_spot_178 (i := 20) (by decide +kernel) rfl
theorem dX10_spot_199 : decode cX10_spot 199 = .ok (.goto 4, 3) := zrD zrw_cX10_spot_178 (i := 21) (by decide +kernel) rfl
theorem dX10_spot_202 : decode cX10_spot 202 = .ok (.iconst 0, 1) := zrD zrw_cX10_spot_178 (i := 24) (by decide +kernel) rfl
theorem dX10_spot_203 : decode cX10_spot 203 = .ok (.ireturn, 1) := zrD zrw_cX10_spot_178 (i := 25) (by decide +kernel) rfl
theorem dX10_spot_204 : decode cX10_spot 204 = .ok (.aload_n 0, 1) := zrD zrw_cX10_spot_178 (i := 26) (by decide +kernel) rfl
theorem dX10_spot_205 : decode cX10_spot 205 = .ok (.getfield 52, 3) := zrD zrw_cX10_spot_178 (i := 27) (by decide +kernel) rfl
def zrk_cX10_spot_208 : ByteArray := .mk #[180, 0, 149, 27, 46, 172, 42, 180, 0, 52, 180, 0, 152, 27, 46, 172, 42, 180, 0, 26, 180, 0, 155, 27, 46, 172, 42, 180, 0, 26, 27]
theorem zrw_cX10_spot_208 : zrW 208 cX10_spot zrk_cX10_spot_208 := by unfold zrW; decide +kernel
theorem dX10_spot_208 : decode cX10_spot 208 = .ok (.getfield 149, 3) := zrD zrw_cX10_spot_208 (i := 0) (by decide +kernel) rfl
theorem dX10_spot_211 : decode cX10_spot 211 = .ok (.iload_n 1, 1) := zrD zrw_cX10_spot_208 (i := 3) (by decide +kernel) rfl
theorem dX10_spot_212 : decode cX10_spot 212 = .ok (.iaload, 1) := zrD zrw_cX10_spot_208 (i := 4) (by decide +kernel) rfl
theorem dX10_spot_213 : decode cX10_spot 213 = .ok (.ireturn, 1) := zrD zrw_cX10_spot_208 (i := 5) (by decide +kernel) rfl
theorem dX10_spot_214 : decode cX10_spot 214 = .ok (.aload_n 0, 1) := zrD zrw_cX10_spot_208 (i := 6) (by decide +kernel) rfl
theorem dX10_spot_215 : decode cX10_spot 215 = .ok (.getfield 52, 3) := zrD zrw_cX10_spot_208 (i := 7) (by decide +kernel) rfl
theorem dX10_spot_218 : decode cX10_spot 218 = .ok (.getfield 152, 3) := zrD zrw_cX10_spot_208 (i := 10) (by decide +kernel) rfl
theorem dX10_spot_221 : decode cX10_spot 221 = .ok (.iload_n 1, 1) := zrD zrw_cX10_spot_208 (i := 13) (by decide +kernel) rfl
theorem dX10_spot_222 : decode cX10_spot 222 = .ok (.iaload, 1) := zrD zrw_cX10_spot_208 (i := 14) (by decide +kernel) rfl
theorem dX10_spot_223 : decode cX10_spot 223 = .ok (.ireturn, 1) := zrD zrw_cX10_spot_208 (i := 15) (by decide +kernel) rfl
theorem dX10_spot_224 : decode cX10_spot 224 = .ok (.aload_n 0, 1) := zrD zrw_cX10_spot_208 (i := 16) (by decide +kernel) rfl
theorem dX10_spot_225 : decode cX10_spot 225 = .ok (.getfield 26, 3) := zrD zrw_cX10_spot_208 (i := 17) (by decide +kernel) rfl
theorem dX10_spot_228 : decode cX10_spot 228 = .ok (.getfield 155, 3) := zrD zrw_cX10_spot_208 (i := 20) (by decide +kernel) rfl
theorem dX10_spot_231 : decode cX10_spot 231 = .ok (.iload_n 1, 1) := zrD zrw_cX10_spot_208 (i := 23) (by decide +kernel) rfl
theorem dX10_spot_232 : decode cX10_spot 232 = .ok (.iaload, 1) := zrD zrw_cX10_spot_208 (i := 24) (by decide +kernel) rfl
theorem dX10_spot_233 : decode cX10_spot 233 = .ok (.ireturn, 1) := zrD zrw_cX10_spot_208 (i := 25) (by decide +kernel) rfl
theorem dX10_spot_234 : decode cX10_spot 234 = .ok (.aload_n 0, 1) := zrD zrw_cX10_spot_208 (i := 26) (by decide +kernel) rfl
theorem dX10_spot_235 : decode cX10_spot 235 = .ok (.getfield 26, 3) := zrD zrw_cX10_spot_208 (i := 27) (by decide +kernel) rfl
theorem dX10_spot_238 : decode cX10_spot 238 = .ok (.iload_n 1, 1) := zrD zrw_cX10_spot_208 (i := 30) (by decide +kernel) rfl
def zrk_cX10_spot_239 : ByteArray := .mk #[182, 0, 158, 172]
theorem zrw_cX10_spot_239 : zrW 239 cX10_spot zrk_cX10_spot_239 := by unfold zrW; decide +kernel
theorem dX10_spot_239 : decode cX10_spot 239 = .ok (.invokevirtual 158, 3) := zrD zrw_cX10_spot_239 (i := 0) (by decide +kernel) rfl
theorem dX10_spot_242 : decode cX10_spot 242 = .ok (.ireturn, 1) := zrD zrw_cX10_spot_239 (i := 3) (by decide +kernel) rfl
def zrk_cX10_claim_0 : ByteArray := .mk #[42, 27, 28, 182, 0, 162, 153, 0, 15, 42, 180, 0, 26, 27, 28, 182, 0, 165, 167, 0, 4, 2, 172]
theorem zrw_cX10_claim_0 : zrW 0 cX10_claim zrk_cX10_claim_0 := by unfold zrW; decide +kernel
theorem dX10_claim_0 : decode cX10_claim 0 = .ok (.aload_n 0, 1) := zrD zrw_cX10_claim_0 (i := 0) (by decide +kernel) rfl
theorem dX10_claim_1 : decode cX10_claim 1 = .ok (.iload_n 1, 1) := zrD zrw_cX10_claim_0 (i := 1) (by decide +kernel) rfl
theorem dX10_claim_2 : decode cX10_claim 2 = .ok (.iload_n 2, 1) := zrD zrw_cX10_claim_0 (i := 2) (by decide +kernel) rfl
theorem dX10_claim_3 : decode cX10_claim 3 = .ok (.invokevirtual 162, 3) := zrD zrw_cX10_claim_0 (i := 3) (by decide +kernel) rfl
theorem dX10_claim_6 : decode cX10_claim 6 = .ok (.ifCond .eq 15, 3) := zrD zrw_cX10_claim_0 (i := 6) (by decide +kernel) rfl
theorem dX10_claim_9 : decode cX10_claim 9 = .ok (.aload_n 0, 1) := zrD zrw_cX10_claim_0 (i := 9) (by decide +kernel) rfl
theorem dX10_claim_10 : decode cX10_claim 10 = .ok (.getfield 26, 3) := zrD zrw_cX10_claim_0 (i := 10) (by decide +kernel) rfl
theorem dX10_claim_13 : decode cX10_claim 13 = .ok (.iload_n 1, 1) := zrD zrw_cX10_claim_0 (i := 13) (by decide +kernel) rfl
theorem dX10_claim_14 : decode cX10_claim 14 = .ok (.iload_n 2, 1) := zrD zrw_cX10_claim_0 (i := 14) (by decide +kernel) rfl
theorem dX10_claim_15 : decode cX10_claim 15 = .ok (.invokevirtual 165, 3) := zrD zrw_cX10_claim_0 (i := 15) (by decide +kernel) rfl
theorem dX10_claim_18 : decode cX10_claim 18 = .ok (.goto 4, 3) := zrD zrw_cX10_claim_0 (i := 18) (by decide +kernel) rfl
theorem dX10_claim_21 : decode cX10_claim 21 = .ok (.iconst (-1), 1) := zrD zrw_cX10_claim_0 (i := 21) (by decide +kernel) rfl
theorem dX10_claim_22 : decode cX10_claim 22 = .ok (.ireturn, 1) := zrD zrw_cX10_claim_0 (i := 22) (by decide +kernel) rfl
def zrk_cX10_winner_0 : ByteArray := .mk #[42, 27, 182, 0, 169, 154, 0, 5, 2, 172, 42, 182, 0, 113, 42, 180, 0, 26, 27, 182, 0, 172, 172]
theorem zrw_cX10_winner_0 : zrW 0 cX10_winner zrk_cX10_winner_0 := by unfold zrW; decide +kernel
theorem dX10_winner_0 : decode cX10_winner 0 = .ok (.aload_n 0, 1) := zrD zrw_cX10_winner_0 (i := 0) (by decide +kernel) rfl
theorem dX10_winner_1 : decode cX10_winner 1 = .ok (.iload_n 1, 1) := zrD zrw_cX10_winner_0 (i := 1) (by decide +kernel) rfl
theorem dX10_winner_2 : decode cX10_winner 2 = .ok (.invokevirtual 169, 3) := zrD zrw_cX10_winner_0 (i := 2) (by decide +kernel) rfl
theorem dX10_winner_5 : decode cX10_winner 5 = .ok (.ifCond .ne 5, 3) := zrD zrw_cX10_winner_0 (i := 5) (by decide +kernel) rfl
theorem dX10_winner_8 : decode cX10_winner 8 = .ok (.iconst (-1), 1) := zrD zrw_cX10_winner_0 (i := 8) (by decide +kernel) rfl
theorem dX10_winner_9 : decode cX10_winner 9 = .ok (.ireturn, 1) := zrD zrw_cX10_winner_0 (i := 9) (by decide +kernel) rfl
theorem dX10_winner_10 : decode cX10_winner 10 = .ok (.aload_n 0, 1) := zrD zrw_cX10_winner_0 (i := 10) (by decide +kernel) rfl
theorem dX10_winner_11 : decode cX10_winner 11 = .ok (.invokevirtual 113, 3) := zrD zrw_cX10_winner_0 (i := 11) (by decide +kernel) rfl
theorem dX10_winner_14 : decode cX10_winner 14 = .ok (.aload_n 0, 1) := zrD zrw_cX10_winner_0 (i := 14) (by decide +kernel) rfl
theorem dX10_winner_15 : decode cX10_winner 15 = .ok (.getfield 26, 3) := zrD zrw_cX10_winner_0 (i := 15) (by decide +kernel) rfl
theorem dX10_winner_18 : decode cX10_winner 18 = .ok (.iload_n 1, 1) := zrD zrw_cX10_winner_0 (i := 18) (by decide +kernel) rfl
theorem dX10_winner_19 : decode cX10_winner 19 = .ok (.invokevirtual 172, 3) := zrD zrw_cX10_winner_0 (i := 19) (by decide +kernel) rfl
theorem dX10_winner_22 : decode cX10_winner 22 = .ok (.ireturn, 1) := zrD zrw_cX10_winner_0 (i := 22) (by decide +kernel) rfl
def zrk_cX10_count_0 : ByteArray := .mk #[42, 182, 0, 113, 27]
theorem zrw_cX10_count_0 : zrW 0 cX10_count zrk_cX10_count_0 := by unfold zrW; decide +kernel
theorem dX10_count_0 : decode cX10_count 0 = .ok (.aload_n 0, 1) := zrD zrw_cX10_count_0 (i := 0) (by decide +kernel) rfl
theorem dX10_count_1 : decode cX10_count 1 = .ok (.invokevirtual 113, 3) := zrD zrw_cX10_count_0 (i := 1) (by decide +kernel) rfl
theorem dX10_count_4 : decode cX10_count 4 = .ok (.iload_n 1, 1) := zrD zrw_cX10_count_0 (i := 4) (by decide +kernel) rfl
theorem dX10_count_5 : decode cX10_count 5 = .ok (.tableswitch 247 0 16 #[83, 91, 99, 107, 115, 123, 131, 136, 148, 156, 164, 172, 180, 210, 222, 227, 239], 83) := by decide +kernel
def zrk_cX10_count_88 : ByteArray := .mk #[42, 180, 0, 70, 180, 0, 175, 172, 42, 180, 0, 52, 180, 0, 178, 172, 42, 180, 0, 52, 182, 0, 181, 172, 42, 180, 0, 52, 180, 0, 185, 172]
theorem zrw_cX10_count_88 : zrW 88 cX10_count zrk_cX10_count_88 := by unfold zrW; decide +kernel
theorem dX10_count_88 : decode cX10_count 88 = .ok (.aload_n 0, 1) := zrD zrw_cX10_count_88 (i := 0) (by decide +kernel) rfl
theorem dX10_count_89 : decode cX10_count 89 = .ok (.getfield 70, 3) := zrD zrw_cX10_count_88 (i := 1) (by decide +kernel) rfl
theorem dX10_count_92 : decode cX10_count 92 = .ok (.getfield 175, 3) := zrD zrw_cX10_count_88 (i := 4) (by decide +kernel) rfl
theorem dX10_count_95 : decode cX10_count 95 = .ok (.ireturn, 1) := zrD zrw_cX10_count_88 (i := 7) (by decide +kernel) rfl
theorem dX10_count_96 : decode cX10_count 96 = .ok (.aload_n 0, 1) := zrD zrw_cX10_count_88 (i := 8) (by decide +kernel) rfl
theorem dX10_count_97 : decode cX10_count 97 = .ok (.getfield 52, 3) := zrD zrw_cX10_count_88 (i := 9) (by decide +kernel) rfl
theorem dX10_count_100 : decode cX10_count 100 = .ok (.getfield 178, 3) := zrD zrw_cX10_count_88 (i := 12) (by decide +kernel) rfl
theorem dX10_count_103 : decode cX10_count 103 = .ok (.ireturn, 1) := zrD zrw_cX10_count_88 (i := 15) (by decide +kernel) rfl
theorem dX10_count_104 : decode cX10_count 104 = .ok (.aload_n 0, 1) := zrD zrw_cX10_count_88 (i := 16) (by decide +kernel) rfl
theorem dX10_count_105 : decode cX10_count 105 = .ok (.getfield 52, 3) := zrD zrw_cX10_count_88 (i := 17) (by decide +kernel) rfl
theorem dX10_count_108 : decode cX10_count 108 = .ok (.invokevirtual 181, 3) := zrD zrw_cX10_count_88 (i := 20) (by decide +kernel) rfl
theorem dX10_count_111 : decode cX10_count 111 = .ok (.ireturn, 1) := zrD zrw_cX10_count_88 (i := 23) (by decide +kernel) rfl
theorem dX10_count_112 : decode cX10_count 112 = .ok (.aload_n 0, 1) := zrD zrw_cX10_count_88 (i := 24) (by decide +kernel) rfl
theorem dX10_count_113 : decode cX10_count 113 = .ok (.getfield 52, 3) := zrD zrw_cX10_count_88 (i := 25) (by decide +kernel) rfl
theorem dX10_count_116 : decode cX10_count 116 = .ok (.getfield 185, 3) := zrD zrw_cX10_count_88 (i := 28) (by decide +kernel) rfl
theorem dX10_count_119 : decode cX10_count 119 = .ok (.ireturn, 1) := zrD zrw_cX10_count_88 (i := 31) (by decide +kernel) rfl
def zrk_cX10_count_120 : ByteArray := .mk #[42, 180, 0, 34, 182, 0, 188, 172, 42, 180, 0, 52, 180, 0, 128, 172, 42, 182, 0, 191, 172, 42, 42, 180, 0, 52, 180, 0, 152, 182, 0, 194]
theorem zrw_cX10_count_120 : zrW 120 cX10_count zrk_cX10_count_120 := by unfold zrW; decide +kernel
theorem dX10_count_120 : decode cX10_count 120 = .ok (.aload_n 0, 1) := zrD zrw_cX10_count_120 (i := 0) (by decide +kernel) rfl
theorem dX10_count_121 : decode cX10_count 121 = .ok (.getfield 34, 3) := zrD zrw_cX10_count_120 (i := 1) (by decide +kernel) rfl
theorem dX10_count_124 : decode cX10_count 124 = .ok (.invokevirtual 188, 3) := zrD zrw_cX10_count_120 (i := 4) (by decide +kernel) rfl
theorem dX10_count_127 : decode cX10_count 127 = .ok (.ireturn, 1) := zrD zrw_cX10_count_120 (i := 7) (by decide +kernel) rfl
theorem dX10_count_128 : decode cX10_count 128 = .ok (.aload_n 0, 1) := zrD zrw_cX10_count_120 (i := 8) (by decide +kernel) rfl
theorem dX10_count_129 : decode cX10_count 129 = .ok (.getfield 52, 3) := zrD zrw_cX10_count_120 (i := 9) (by decide +kernel) rfl
theorem dX10_count_132 : decode cX10_count 132 = .ok (.getfield 128, 3) := zrD zrw_cX10_count_120 (i := 12) (by decide +kernel) rfl
theorem dX10_count_135 : decode cX10_count 135 = .ok (.ireturn, 1) := zrD zrw_cX10_count_120 (i := 15) (by decide +kernel) rfl
theorem dX10_count_136 : decode cX10_count 136 = .ok (.aload_n 0, 1) := zrD zrw_cX10_count_120 (i := 16) (by decide +kernel) rfl
theorem dX10_count_137 : decode cX10_count 137 = .ok (.invokevirtual 191, 3) := zrD zrw_cX10_count_120 (i := 17) (by decide +kernel) rfl
theorem dX10_count_140 : decode cX10_count 140 = .ok (.ireturn, 1) := zrD zrw_cX10_count_120 (i := 20) (by decide +kernel) rfl
theorem dX10_count_141 : decode cX10_count 141 = .ok (.aload_n 0, 1) := zrD zrw_cX10_count_120 (i := 21) (by decide +kernel) rfl
theorem dX10_count_142 : decode cX10_count 142 = .ok (.aload_n 0, 1) := zrD zrw_cX10_count_120 (i := 22) (by decide +kernel) rfl
theorem dX10_count_143 : decode cX10_count 143 = .ok (.getfield 52, 3) := zrD zrw_cX10_count_120 (i := 23) (by decide +kernel) rfl
theorem dX10_count_146 : decode cX10_count 146 = .ok (.getfield 152, 3) := zrD zrw_cX10_count_120 (i := 26) (by decide +kernel) rfl
theorem dX10_count_149 : decode cX10_count 149 = .ok (.invokevirtual 194, 3) := zrD zrw_cX10_count_120 (i := 29) (by decide +kernel) rfl
def zrk_cX10_count_152 : ByteArray := .mk #[172, 42, 180, 0, 10, 180, 0, 84, 172, 42, 180, 0, 38, 180, 0, 107, 172, 42, 180, 0, 45, 180, 0, 108, 172, 42, 180, 0, 77, 184, 0, 198]
theorem zrw_cX10_count_152 : zrW 152 cX10_count zrk_cX10_count_152 := by unfold zrW; decide +kernel
theorem dX10_count_152 : decode cX10_count 152 = .ok (.ireturn, 1) := zrD zrw_cX10_count_152 (i := 0) (by decide +kernel) rfl
theorem dX10_count_153 : decode cX10_count 153 = .ok (.aload_n 0, 1) := zrD zrw_cX10_count_152 (i := 1) (by decide +kernel) rfl
theorem dX10_count_154 : decode cX10_count 154 = .ok (.getfield 10, 3) := zrD zrw_cX10_count_152 (i := 2) (by decide +kernel) rfl
theorem dX10_count_157 : decode cX10_count 157 = .ok (.getfield 84, 3) := zrD zrw_cX10_count_152 (i := 5) (by decide +kernel) rfl
theorem dX10_count_160 : decode cX10_count 160 = .ok (.ireturn, 1) := zrD zrw_cX10_count_152 (i := 8) (by decide +kernel) rfl
theorem dX10_count_161 : decode cX10_count 161 = .ok (.aload_n 0, 1) := zrD zrw_cX10_count_152 (i := 9) (by decide +kernel) rfl
theorem dX10_count_162 : decode cX10_count 162 = .ok (.getfield 38, 3) := zrD zrw_cX10_count_152 (i := 10) (by decide +kernel) rfl
theorem dX10_count_165 : decode cX10_count 165 = .ok (.getfield 107, 3) := zrD zrw_cX10_count_152 (i := 13) (by decide +kernel) rfl
theorem dX10_count_168 : decode cX10_count 168 = .ok (.ireturn, 1) := zrD zrw_cX10_count_152 (i := 16) (by decide +kernel) rfl
theorem dX10_count_169 : decode cX10_count 169 = .ok (.aload_n 0, 1) := zrD zrw_cX10_count_152 (i := 17) (by decide +kernel) rfl
theorem dX10_count_170 : decode cX10_count 170 = .ok (.getfield 45, 3) := zrD zrw_cX10_count_152 (i := 18) (by decide +kernel) rfl
theorem dX10_count_173 : decode cX10_count 173 = .ok (.getfield 108, 3) := zrD zrw_cX10_count_152 (i := 21) (by decide +kernel) rfl
theorem dX10_count_176 : decode cX10_count 176 = .ok (.ireturn, 1) := zrD zrw_cX10_count_152 (i := 24) (by decide +kernel) rfl
theorem dX10_count_177 : decode cX10_count 177 = .ok (.aload_n 0, 1) := zrD zrw_cX10_count_152 (i := 25) (by decide +kernel) rfl
theorem dX10_count_178 : decode cX10_count 178 = .ok (.getfield 77, 3) := zrD zrw_cX10_count_152 (i := 26) (by decide +kernel) rfl
theorem dX10_count_181 : decode cX10_count 181 = .ok (.invokestatic 198, 3) := zrD zrw_cX10_count_152 (i := 29) (by decide +kernel) rfl
def zrk_cX10_count_184 : ByteArray := .mk #[172, 42, 180, 0, 70, 42, 180, 0, 70, 180, 0, 203, 42, 180, 0, 52, 180, 0, 178, 182, 0, 206, 153, 0, 7, 4, 167, 0, 4, 3, 172, 42]
theorem zrw_cX10_count_184 : zrW 184 cX10_count zrk_cX10_count_184 := by unfold zrW; decide +kernel
theorem dX10_count_184 : decode cX10_count 184 = .ok (.ireturn, 1) := zrD zrw_cX10_count_184 (i := 0) (by decide +kernel) rfl
theorem dX10_count_185 : decode cX10_count 185 = .ok (.aload_n 0, 1) := zrD zrw_cX10_count_184 (i := 1) (by decide +kernel) rfl
theorem dX10_count_186 : decode cX10_count 186 = .ok (.getfield 70, 3) := zrD zrw_cX10_count_184 (i := 2) (by decide +kernel) rfl
theorem dX10_count_189 : decode cX10_count 189 = .ok (.aload_n 0, 1) := zrD zrw_cX10_count_184 (i := 5) (by decide +kernel) rfl
theorem dX10_count_190 : decode cX10_count 190 = .ok (.getfield 70, 3) := zrD zrw_cX10_count_184 (i := 6) (by decide +kernel) rfl
theorem dX10_count_193 : decode cX10_count 193 = .ok (.getfield 203, 3) := zrD zrw_cX10_count_184 (i := 9) (by decide +kernel) rfl
theorem dX10_count_196 : decode cX10_count 196 = .ok (.aload_n 0, 1) := zrD zrw_cX10_count_184 (i := 12) (by decide +kernel) rfl
theorem dX10_count_197 : decode cX10_count 197 = .ok (.getfield 52, 3) := zrD zrw_cX10_count_184 (i := 13) (by decide +kernel) rfl
theorem dX10_count_200 : decode cX10_count 200 = .ok (.getfield 178, 3) := zrD zrw_cX10_count_184 (i := 16) (by decide +kernel) rfl
theorem dX10_count_203 : decode cX10_count 203 = .ok (.invokevirtual 206, 3) := zrD zrw_cX10_count_184 (i := 19) (by decide +kernel) rfl
theorem dX10_count_206 : decode cX10_count 206 = .ok (.ifCond .eq 7, 3) := zrD zrw_cX10_count_184 (i := 22) (by decide +kernel) rfl
theorem dX10_count_209 : decode cX10_count 209 = .ok (.iconst 1, 1) := zrD zrw_cX10_count_184 (i := 25) (by decide +kernel) rfl
theorem dX10_count_210 : decode cX10_count 210 = .ok (.goto 4, 3) := zrD zrw_cX10_count_184 (i := 26) (by decide +kernel) rfl
theorem dX10_count_213 : decode cX10_count 213 = .ok (.iconst 0, 1) := zrD zrw_cX10_count_184 (i := 29) (by decide +kernel) rfl
theorem dX10_count_214 : decode cX10_count 214 = .ok (.ireturn, 1) := zrD zrw_cX10_count_184 (i := 30) (by decide +kernel) rfl
theorem dX10_count_215 : decode cX10_count 215 = .ok (.aload_n 0, 1) := zrD zrw_cX10_count_184 (i := 31) (by decide +kernel) rfl
def zrk_cX10_count_216 : ByteArray := .mk #[42, 180, 0, 70, 180, 0, 119, 182, 0, 194, 172, 42, 182, 0, 209, 172, 42, 42, 180, 0, 70, 180, 0, 122, 182, 0, 194, 172, 42, 180, 0, 34]
theorem zrw_cX10_count_216 : zrW 216 cX10_count zrk_cX10_count_216 := by unfold zrW; decide +kernel
theorem dX10_count_216 : decode cX10_count 216 = .ok (.aload_n 0, 1) := zrD zrw_cX10_count_216 (i := 0) (by decide +kernel) rfl
theorem dX10_count_217 : decode cX10_count 217 = .ok (.getfield 70, 3) := zrD zrw_cX10_count_216 (i := 1) (by decide +kernel) rfl
theorem dX10_count_220 : decode cX10_count 220 = .ok (.getfield 119, 3) := zrD zrw_cX10_count_216 (i := 4) (by decide +kernel) rfl
theorem dX10_count_223 : decode cX10_count 223 = .ok (.invokevirtual 194, 3) := zrD zrw_cX10_count_216 (i := 7) (by decide +kernel) rfl
theorem dX10_count_226 : decode cX10_count 226 = .ok (.ireturn, 1) := zrD zrw_cX10_count_216 (i := 10) (by decide +kernel) rfl
theorem dX10_count_227 : decode cX10_count 227 = .ok (.aload_n 0, 1) := zrD zrw_cX10_count_216 (i := 11) (by decide +kernel) rfl
theorem dX10_count_228 : decode cX10_count 228 = .ok (.invokevirtual 209, 3) := zrD zrw_cX10_count_216 (i := 12) (by decide +kernel) rfl
theorem dX10_count_231 : decode cX10_count 231 = .ok (.ireturn, 1) := zrD zrw_cX10_count_216 (i := 15) (by decide +kernel) rfl
theorem dX10_count_232 : decode cX10_count 232 = .ok (.aload_n 0, 1) := zrD zrw_cX10_count_216 (i := 16) (by decide +kernel) rfl
theorem dX10_count_233 : decode cX10_count 233 = .ok (.aload_n 0, 1) := zrD zrw_cX10_count_216 (i := 17) (by decide +kernel) rfl
theorem dX10_count_234 : decode cX10_count 234 = .ok (.getfield 70, 3) := zrD zrw_cX10_count_216 (i := 18) (by decide +kernel) rfl
theorem dX10_count_237 : decode cX10_count 237 = .ok (.getfield 122, 3) := zrD zrw_cX10_count_216 (i := 21) (by decide +kernel) rfl
theorem dX10_count_240 : decode cX10_count 240 = .ok (.invokevirtual 194, 3) := zrD zrw_cX10_count_216 (i := 24) (by decide +kernel) rfl
theorem dX10_count_243 : decode cX10_count 243 = .ok (.ireturn, 1) := zrD zrw_cX10_count_216 (i := 27) (by decide +kernel) rfl
theorem dX10_count_244 : decode cX10_count 244 = .ok (.aload_n 0, 1) := zrD zrw_cX10_count_216 (i := 28) (by decide +kernel) rfl
theorem dX10_count_245 : decode cX10_count 245 = .ok (.getfield 34, 3) := zrD zrw_cX10_count_216 (i := 29) (by decide +kernel) rfl
def zrk_cX10_count_248 : ByteArray := .mk #[182, 0, 212, 172, 2, 172]
theorem zrw_cX10_count_248 : zrW 248 cX10_count zrk_cX10_count_248 := by unfold zrW; decide +kernel
theorem dX10_count_248 : decode cX10_count 248 = .ok (.invokevirtual 212, 3) := zrD zrw_cX10_count_248 (i := 0) (by decide +kernel) rfl
theorem dX10_count_251 : decode cX10_count 251 = .ok (.ireturn, 1) := zrD zrw_cX10_count_248 (i := 3) (by decide +kernel) rfl
theorem dX10_count_252 : decode cX10_count 252 = .ok (.iconst (-1), 1) := zrD zrw_cX10_count_248 (i := 4) (by decide +kernel) rfl
theorem dX10_count_253 : decode cX10_count 253 = .ok (.ireturn, 1) := zrD zrw_cX10_count_248 (i := 5) (by decide +kernel) rfl
def zrk_cX10_sumOf_0 : ByteArray := .mk #[3, 61, 3, 62, 29, 42, 180, 0, 70, 180, 0, 175, 162, 0, 15, 28, 43, 29, 46, 96, 61, 132, 3, 1, 167, 255, 236, 28, 172]
theorem zrw_cX10_sumOf_0 : zrW 0 cX10_sumOf zrk_cX10_sumOf_0 := by unfold zrW; decide +kernel
theorem dX10_sumOf_0 : decode cX10_sumOf 0 = .ok (.iconst 0, 1) := zrD zrw_cX10_sumOf_0 (i := 0) (by decide +kernel) rfl
theorem dX10_sumOf_1 : decode cX10_sumOf 1 = .ok (.istore_n 2, 1) := zrD zrw_cX10_sumOf_0 (i := 1) (by decide +kernel) rfl
theorem dX10_sumOf_2 : decode cX10_sumOf 2 = .ok (.iconst 0, 1) := zrD zrw_cX10_sumOf_0 (i := 2) (by decide +kernel) rfl
theorem dX10_sumOf_3 : decode cX10_sumOf 3 = .ok (.istore_n 3, 1) := zrD zrw_cX10_sumOf_0 (i := 3) (by decide +kernel) rfl
theorem dX10_sumOf_4 : decode cX10_sumOf 4 = .ok (.iload_n 3, 1) := zrD zrw_cX10_sumOf_0 (i := 4) (by decide +kernel) rfl
theorem dX10_sumOf_5 : decode cX10_sumOf 5 = .ok (.aload_n 0, 1) := zrD zrw_cX10_sumOf_0 (i := 5) (by decide +kernel) rfl
theorem dX10_sumOf_6 : decode cX10_sumOf 6 = .ok (.getfield 70, 3) := zrD zrw_cX10_sumOf_0 (i := 6) (by decide +kernel) rfl
theorem dX10_sumOf_9 : decode cX10_sumOf 9 = .ok (.getfield 175, 3) := zrD zrw_cX10_sumOf_0 (i := 9) (by decide +kernel) rfl
theorem dX10_sumOf_12 : decode cX10_sumOf 12 = .ok (.if_icmp .ge 15, 3) := zrD zrw_cX10_sumOf_0 (i := 12) (by decide +kernel) rfl
theorem dX10_sumOf_15 : decode cX10_sumOf 15 = .ok (.iload_n 2, 1) := zrD zrw_cX10_sumOf_0 (i := 15) (by decide +kernel) rfl
theorem dX10_sumOf_16 : decode cX10_sumOf 16 = .ok (.aload_n 1, 1) := zrD zrw_cX10_sumOf_0 (i := 16) (by decide +kernel) rfl
theorem dX10_sumOf_17 : decode cX10_sumOf 17 = .ok (.iload_n 3, 1) := zrD zrw_cX10_sumOf_0 (i := 17) (by decide +kernel) rfl
theorem dX10_sumOf_18 : decode cX10_sumOf 18 = .ok (.iaload, 1) := zrD zrw_cX10_sumOf_0 (i := 18) (by decide +kernel) rfl
theorem dX10_sumOf_19 : decode cX10_sumOf 19 = .ok (.iadd, 1) := zrD zrw_cX10_sumOf_0 (i := 19) (by decide +kernel) rfl
theorem dX10_sumOf_20 : decode cX10_sumOf 20 = .ok (.istore_n 2, 1) := zrD zrw_cX10_sumOf_0 (i := 20) (by decide +kernel) rfl
theorem dX10_sumOf_21 : decode cX10_sumOf 21 = .ok (.iinc 3 1, 3) := zrD zrw_cX10_sumOf_0 (i := 21) (by decide +kernel) rfl
theorem dX10_sumOf_24 : decode cX10_sumOf 24 = .ok (.goto (-20), 3) := zrD zrw_cX10_sumOf_0 (i := 24) (by decide +kernel) rfl
theorem dX10_sumOf_27 : decode cX10_sumOf 27 = .ok (.iload_n 2, 1) := zrD zrw_cX10_sumOf_0 (i := 27) (by decide +kernel) rfl
theorem dX10_sumOf_28 : decode cX10_sumOf 28 = .ok (.ireturn, 1) := zrD zrw_cX10_sumOf_0 (i := 28) (by decide +kernel) rfl
def zrk_cX10_turnedPlaces_0 : ByteArray := .mk #[3, 60, 4, 61, 28, 42, 180, 0, 70, 180, 0, 175, 162, 0, 37, 42, 180, 0, 52, 180, 0, 116, 28, 46, 42, 180, 0, 70, 180, 0, 215, 28]
theorem zrw_cX10_turnedPlaces_0 : zrW 0 cX10_turnedPlaces zrk_cX10_turnedPlaces_0 := by unfold zrW; decide +kernel
theorem dX10_turnedPlaces_0 : decode cX10_turnedPlaces 0 = .ok (.iconst 0, 1) := zrD zrw_cX10_turnedPlaces_0 (i := 0) (by decide +kernel) rfl
theorem dX10_turnedPlaces_1 : decode cX10_turnedPlaces 1 = .ok (.istore_n 1, 1) := zrD zrw_cX10_turnedPlaces_0 (i := 1) (by decide +kernel) rfl
theorem dX10_turnedPlaces_2 : decode cX10_turnedPlaces 2 = .ok (.iconst 1, 1) := zrD zrw_cX10_turnedPlaces_0 (i := 2) (by decide +kernel) rfl
theorem dX10_turnedPlaces_3 : decode cX10_turnedPlaces 3 = .ok (.istore_n 2, 1) := zrD zrw_cX10_turnedPlaces_0 (i := 3) (by decide +kernel) rfl
theorem dX10_turnedPlaces_4 : decode cX10_turnedPlaces 4 = .ok (.iload_n 2, 1) := zrD zrw_cX10_turnedPlaces_0 (i := 4) (by decide +kernel) rfl
theorem dX10_turnedPlaces_5 : decode cX10_turnedPlaces 5 = .ok (.aload_n 0, 1) := zrD zrw_cX10_turnedPlaces_0 (i := 5) (by decide +kernel) rfl
theorem dX10_turnedPlaces_6 : decode cX10_turnedPlaces 6 = .ok (.getfield 70, 3) := zrD zrw_cX10_turnedPlaces_0 (i := 6) (by decide +kernel) rfl
theorem dX10_turnedPlaces_9 : decode cX10_turnedPlaces 9 = .ok (.getfield 175, 3) := zrD zrw_cX10_turnedPlaces_0 (i := 9) (by decide +kernel) rfl
theorem dX10_turnedPlaces_12 : decode cX10_turnedPlaces 12 = .ok (.if_icmp .ge 37, 3) := zrD zrw_cX10_turnedPlaces_0 (i := 12) (by decide +kernel) rfl
theorem dX10_turnedPlaces_15 : decode cX10_turnedPlaces 15 = .ok (.aload_n 0, 1) := zrD zrw_cX10_turnedPlaces_0 (i := 15) (by decide +kernel) rfl
theorem dX10_turnedPlaces_16 : decode cX10_turnedPlaces 16 = .ok (.getfield 52, 3) := zrD zrw_cX10_turnedPlaces_0 (i := 16) (by decide +kernel) rfl
theorem dX10_turnedPlaces_19 : decode cX10_turnedPlaces 19 = .ok (.getfield 116, 3) := zrD zrw_cX10_turnedPlaces_0 (i := 19) (by decide +kernel) rfl
theorem dX10_turnedPlaces_22 : decode cX10_turnedPlaces 22 = .ok (.iload_n 2, 1) := zrD zrw_cX10_turnedPlaces_0 (i := 22) (by decide +kernel) rfl
theorem dX10_turnedPlaces_23 : decode cX10_turnedPlaces 23 = .ok (.iaload, 1) := zrD zrw_cX10_turnedPlaces_0 (i := 23) (by decide +kernel) rfl
theorem dX10_turnedPlaces_24 : decode cX10_turnedPlaces 24 = .ok (.aload_n 0, 1) := zrD zrw_cX10_turnedPlaces_0 (i := 24) (by decide +kernel) rfl
theorem dX10_turnedPlaces_25 : decode cX10_turnedPlaces 25 = .ok (.getfield 70, 3) := zrD zrw_cX10_turnedPlaces_0 (i := 25) (by decide +kernel) rfl
theorem dX10_turnedPlaces_28 : decode cX10_turnedPlaces 28 = .ok (.getfield 215, 3) := zrD zrw_cX10_turnedPlaces_0 (i := 28) (by decide +kernel) rfl
theorem dX10_turnedPlaces_31 : decode cX10_turnedPlaces 31 = .ok (.iload_n 2, 1) := zrD zrw_cX10_turnedPlaces_0 (i := 31) (by decide +kernel) rfl
def zrk_cX10_turnedPlaces_32 : ByteArray := .mk #[46, 159, 0, 10, 27, 28, 184, 0, 216, 128, 60, 132, 2, 1, 167, 255, 214, 27, 172]
theorem zrw_cX10_turnedPlaces_32 : zrW 32 cX10_turnedPlaces zrk_cX10_turnedPlaces_32 := by unfold zrW; decide +kernel
theorem dX10_turnedPlaces_32 : decode cX10_turnedPlaces 32 = .ok (.iaload, 1) := zrD zrw_cX10_turnedPlaces_32 (i := 0) (by decide +kernel) rfl
theorem dX10_turnedPlaces_33 : decode cX10_turnedPlaces 33 = .ok (.if_icmp .eq 10, 3) := zrD zrw_cX10_turnedPlaces_32 (i := 1) (by decide +kernel) rfl
theorem dX10_turnedPlaces_36 : decode cX10_turnedPlaces 36 = .ok (.iload_n 1, 1) := zrD zrw_cX10_turnedPlaces_32 (i := 4) (by decide +kernel) rfl
theorem dX10_turnedPlaces_37 : decode cX10_turnedPlaces 37 = .ok (.iload_n 2, 1) := zrD zrw_cX10_turnedPlaces_32 (i := 5) (by decide +kernel) rfl
theorem dX10_turnedPlaces_38 : decode cX10_turnedPlaces 38 = .ok (.invokestatic 216, 3) := zrD zrw_cX10_turnedPlaces_32 (i := 6) (by decide +kernel) rfl
theorem dX10_turnedPlaces_41 : decode cX10_turnedPlaces 41 = .ok (.ior, 1) := zrD zrw_cX10_turnedPlaces_32 (i := 9) (by decide +kernel) rfl
theorem dX10_turnedPlaces_42 : decode cX10_turnedPlaces 42 = .ok (.istore_n 1, 1) := zrD zrw_cX10_turnedPlaces_32 (i := 10) (by decide +kernel) rfl
theorem dX10_turnedPlaces_43 : decode cX10_turnedPlaces 43 = .ok (.iinc 2 1, 3) := zrD zrw_cX10_turnedPlaces_32 (i := 11) (by decide +kernel) rfl
theorem dX10_turnedPlaces_46 : decode cX10_turnedPlaces 46 = .ok (.goto (-42), 3) := zrD zrw_cX10_turnedPlaces_32 (i := 14) (by decide +kernel) rfl
theorem dX10_turnedPlaces_49 : decode cX10_turnedPlaces 49 = .ok (.iload_n 1, 1) := zrD zrw_cX10_turnedPlaces_32 (i := 17) (by decide +kernel) rfl
theorem dX10_turnedPlaces_50 : decode cX10_turnedPlaces 50 = .ok (.ireturn, 1) := zrD zrw_cX10_turnedPlaces_32 (i := 18) (by decide +kernel) rfl
def zrk_cX10_dam_0 : ByteArray := .mk #[27, 153, 0, 26, 42, 27, 182, 0, 109, 153, 0, 18, 42, 180, 0, 52, 180, 0, 128, 27, 184, 0, 131, 28, 160, 0, 5, 3, 172, 42]
theorem zrw_cX10_dam_0 : zrW 0 cX10_dam zrk_cX10_dam_0 := by unfold zrW; decide +kernel
theorem dX10_dam_0 : decode cX10_dam 0 = .ok (.iload_n 1, 1) := zrD zrw_cX10_dam_0 (i := 0) (by decide +kernel) rfl
theorem dX10_dam_1 : decode cX10_dam 1 = .ok (.ifCond .eq 26, 3) := zrD zrw_cX10_dam_0 (i := 1) (by decide +kernel) rfl
theorem dX10_dam_4 : decode cX10_dam 4 = .ok (.aload_n 0, 1) := zrD zrw_cX10_dam_0 (i := 4) (by decide +kernel) rfl
theorem dX10_dam_5 : decode cX10_dam 5 = .ok (.iload_n 1, 1) := zrD zrw_cX10_dam_0 (i := 5) (by decide +kernel) rfl
theorem dX10_dam_6 : decode cX10_dam 6 = .ok (.invokevirtual 109, 3) := zrD zrw_cX10_dam_0 (i := 6) (by decide +kernel) rfl
theorem dX10_dam_9 : decode cX10_dam 9 = .ok (.ifCond .eq 18, 3) := zrD zrw_cX10_dam_0 (i := 9) (by decide +kernel) rfl
theorem dX10_dam_12 : decode cX10_dam 12 = .ok (.aload_n 0, 1) := zrD zrw_cX10_dam_0 (i := 12) (by decide +kernel) rfl
theorem dX10_dam_13 : decode cX10_dam 13 = .ok (.getfield 52, 3) := zrD zrw_cX10_dam_0 (i := 13) (by decide +kernel) rfl
theorem dX10_dam_16 : decode cX10_dam 16 = .ok (.getfield 128, 3) := zrD zrw_cX10_dam_0 (i := 16) (by decide +kernel) rfl
theorem dX10_dam_19 : decode cX10_dam 19 = .ok (.iload_n 1, 1) := zrD zrw_cX10_dam_0 (i := 19) (by decide +kernel) rfl
theorem dX10_dam_20 : decode cX10_dam 20 = .ok (.invokestatic 131, 3) := zrD zrw_cX10_dam_0 (i := 20) (by decide +kernel) rfl
theorem dX10_dam_23 : decode cX10_dam 23 = .ok (.iload_n 2, 1) := zrD zrw_cX10_dam_0 (i := 23) (by decide +kernel) rfl
theorem dX10_dam_24 : decode cX10_dam 24 = .ok (.if_icmp .ne 5, 3) := zrD zrw_cX10_dam_0 (i := 24) (by decide +kernel) rfl
theorem dX10_dam_27 : decode cX10_dam 27 = .ok (.iconst 0, 1) := zrD zrw_cX10_dam_0 (i := 27) (by decide +kernel) rfl
theorem dX10_dam_28 : decode cX10_dam 28 = .ok (.ireturn, 1) := zrD zrw_cX10_dam_0 (i := 28) (by decide +kernel) rfl
theorem dX10_dam_29 : decode cX10_dam 29 = .ok (.aload_n 0, 1) := zrD zrw_cX10_dam_0 (i := 29) (by decide +kernel) rfl
def zrk_cX10_dam_30 : ByteArray := .mk #[180, 0, 38, 42, 180, 0, 52, 182, 0, 219, 42, 180, 0, 52, 89, 180, 0, 128, 27, 184, 0, 216, 130, 181, 0, 128, 4, 172]
theorem zrw_cX10_dam_30 : zrW 30 cX10_dam zrk_cX10_dam_30 := by unfold zrW; decide +kernel
theorem dX10_dam_30 : decode cX10_dam 30 = .ok (.getfield 38, 3) := zrD zrw_cX10_dam_30 (i := 0) (by decide +kernel) rfl
theorem dX10_dam_33 : decode cX10_dam 33 = .ok (.aload_n 0, 1) := zrD zrw_cX10_dam_30 (i := 3) (by decide +kernel) rfl
theorem dX10_dam_34 : decode cX10_dam 34 = .ok (.getfield 52, 3) := zrD zrw_cX10_dam_30 (i := 4) (by decide +kernel) rfl
theorem dX10_dam_37 : decode cX10_dam 37 = .ok (.invokevirtual 219, 3) := zrD zrw_cX10_dam_30 (i := 7) (by decide +kernel) rfl
theorem dX10_dam_40 : decode cX10_dam 40 = .ok (.aload_n 0, 1) := zrD zrw_cX10_dam_30 (i := 10) (by decide +kernel) rfl
theorem dX10_dam_41 : decode cX10_dam 41 = .ok (.getfield 52, 3) := zrD zrw_cX10_dam_30 (i := 11) (by decide +kernel) rfl
theorem dX10_dam_44 : decode cX10_dam 44 = .ok (.dup, 1) := zrD zrw_cX10_dam_30 (i := 14) (by decide +kernel) rfl
theorem dX10_dam_45 : decode cX10_dam 45 = .ok (.getfield 128, 3) := zrD zrw_cX10_dam_30 (i := 15) (by decide +kernel) rfl
theorem dX10_dam_48 : decode cX10_dam 48 = .ok (.iload_n 1, 1) := zrD zrw_cX10_dam_30 (i := 18) (by decide +kernel) rfl
theorem dX10_dam_49 : decode cX10_dam 49 = .ok (.invokestatic 216, 3) := zrD zrw_cX10_dam_30 (i := 19) (by decide +kernel) rfl
theorem dX10_dam_52 : decode cX10_dam 52 = .ok (.ixor, 1) := zrD zrw_cX10_dam_30 (i := 22) (by decide +kernel) rfl
theorem dX10_dam_53 : decode cX10_dam 53 = .ok (.putfield 128, 3) := zrD zrw_cX10_dam_30 (i := 23) (by decide +kernel) rfl
theorem dX10_dam_56 : decode cX10_dam 56 = .ok (.iconst 1, 1) := zrD zrw_cX10_dam_30 (i := 26) (by decide +kernel) rfl
theorem dX10_dam_57 : decode cX10_dam 57 = .ok (.ireturn, 1) := zrD zrw_cX10_dam_30 (i := 27) (by decide +kernel) rfl
def zrk_cX10_turn_0 : ByteArray := .mk #[42, 27, 28, 182, 0, 223, 154, 0, 5, 3, 172, 42, 180, 0, 38, 42, 180, 0, 52, 182, 0, 219, 42, 180, 0, 52, 180, 0, 116, 27, 28, 79]
theorem zrw_cX10_turn_0 : zrW 0 cX10_turn zrk_cX10_turn_0 := by unfold zrW; decide +kernel
theorem dX10_turn_0 : decode cX10_turn 0 = .ok (.aload_n 0, 1) := zrD zrw_cX10_turn_0 (i := 0) (by decide +kernel) rfl
theorem dX10_turn_1 : decode cX10_turn 1 = .ok (.iload_n 1, 1) := zrD zrw_cX10_turn_0 (i := 1) (by decide +kernel) rfl
theorem dX10_turn_2 : decode cX10_turn 2 = .ok (.iload_n 2, 1) := zrD zrw_cX10_turn_0 (i := 2) (by decide +kernel) rfl
theorem dX10_turn_3 : decode cX10_turn 3 = .ok (.invokevirtual 223, 3) := zrD zrw_cX10_turn_0 (i := 3) (by decide +kernel) rfl
theorem dX10_turn_6 : decode cX10_turn 6 = .ok (.ifCond .ne 5, 3) := zrD zrw_cX10_turn_0 (i := 6) (by decide +kernel) rfl
theorem dX10_turn_9 : decode cX10_turn 9 = .ok (.iconst 0, 1) := zrD zrw_cX10_turn_0 (i := 9) (by decide +kernel) rfl
theorem dX10_turn_10 : decode cX10_turn 10 = .ok (.ireturn, 1) := zrD zrw_cX10_turn_0 (i := 10) (by decide +kernel) rfl
theorem dX10_turn_11 : decode cX10_turn 11 = .ok (.aload_n 0, 1) := zrD zrw_cX10_turn_0 (i := 11) (by decide +kernel) rfl
theorem dX10_turn_12 : decode cX10_turn 12 = .ok (.getfield 38, 3) := zrD zrw_cX10_turn_0 (i := 12) (by decide +kernel) rfl
theorem dX10_turn_15 : decode cX10_turn 15 = .ok (.aload_n 0, 1) := zrD zrw_cX10_turn_0 (i := 15) (by decide +kernel) rfl
theorem dX10_turn_16 : decode cX10_turn 16 = .ok (.getfield 52, 3) := zrD zrw_cX10_turn_0 (i := 16) (by decide +kernel) rfl
theorem dX10_turn_19 : decode cX10_turn 19 = .ok (.invokevirtual 219, 3) := zrD zrw_cX10_turn_0 (i := 19) (by decide +kernel) rfl
theorem dX10_turn_22 : decode cX10_turn 22 = .ok (.aload_n 0, 1) := zrD zrw_cX10_turn_0 (i := 22) (by decide +kernel) rfl
theorem dX10_turn_23 : decode cX10_turn 23 = .ok (.getfield 52, 3) := zrD zrw_cX10_turn_0 (i := 23) (by decide +kernel) rfl
theorem dX10_turn_26 : decode cX10_turn 26 = .ok (.getfield 116, 3) := zrD zrw_cX10_turn_0 (i := 26) (by decide +kernel) rfl
theorem dX10_turn_29 : decode cX10_turn 29 = .ok (.iload_n 1, 1) := zrD zrw_cX10_turn_0 (i := 29) (by decide +kernel) rfl
theorem dX10_turn_30 : decode cX10_turn 30 = .ok (.iload_n 2, 1) := zrD zrw_cX10_turn_0 (i := 30) (by decide +kernel) rfl
theorem dX10_turn_31 : decode cX10_turn 31 = .ok (.iastore, 1) := zrD zrw_cX10_turn_0 (i := 31) (by decide +kernel) rfl
def zrk_cX10_turn_32 : ByteArray := .mk #[4, 172]
theorem zrw_cX10_turn_32 : zrW 32 cX10_turn zrk_cX10_turn_32 := by unfold zrW; decide +kernel
theorem dX10_turn_32 : decode cX10_turn 32 = .ok (.iconst 1, 1) := zrD zrw_cX10_turn_32 (i := 0) (by decide +kernel) rfl
theorem dX10_turn_33 : decode cX10_turn 33 = .ok (.ireturn, 1) := zrD zrw_cX10_turn_32 (i := 1) (by decide +kernel) rfl
def zrk_cX10_isTurn_0 : ByteArray := .mk #[27, 153, 0, 48, 42, 27, 182, 0, 109, 153, 0, 40, 42, 28, 182, 0, 109, 153, 0, 32, 42, 180, 0, 52, 180, 0, 116, 27, 46, 28]
theorem zrw_cX10_isTurn_0 : zrW 0 cX10_isTurn zrk_cX10_isTurn_0 := by unfold zrW; decide +kernel
theorem dX10_isTurn_0 : decode cX10_isTurn 0 = .ok (.iload_n 1, 1) := zrD zrw_cX10_isTurn_0 (i := 0) (by decide +kernel) rfl
theorem dX10_isTurn_1 : decode cX10_isTurn 1 = .ok (.ifCond .eq 48, 3) := zrD zrw_cX10_isTurn_0 (i := 1) (by decide +kernel) rfl
theorem dX10_isTurn_4 : decode cX10_isTurn 4 = .ok (.aload_n 0, 1) := zrD zrw_cX10_isTurn_0 (i := 4) (by decide +kernel) rfl
theorem dX10_isTurn_5 : decode cX10_isTurn 5 = .ok (.iload_n 1, 1) := zrD zrw_cX10_isTurn_0 (i := 5) (by decide +kernel) rfl
theorem dX10_isTurn_6 : decode cX10_isTurn 6 = .ok (.invokevirtual 109, 3) := zrD zrw_cX10_isTurn_0 (i := 6) (by decide +kernel) rfl
theorem dX10_isTurn_9 : decode cX10_isTurn 9 = .ok (.ifCond .eq 40, 3) := zrD zrw_cX10_isTurn_0 (i := 9) (by decide +kernel) rfl
theorem dX10_isTurn_12 : decode cX10_isTurn 12 = .ok (.aload_n 0, 1) := zrD zrw_cX10_isTurn_0 (i := 12) (by decide +kernel) rfl
theorem dX10_isTurn_13 : decode cX10_isTurn 13 = .ok (.iload_n 2, 1) := zrD zrw_cX10_isTurn_0 (i := 13) (by decide +kernel) rfl
theorem dX10_isTurn_14 : decode cX10_isTurn 14 = .ok (.invokevirtual 109, 3) := zrD zrw_cX10_isTurn_0 (i := 14) (by decide +kernel) rfl
theorem dX10_isTurn_17 : decode cX10_isTurn 17 = .ok (.ifCond .eq 32, 3) := zrD zrw_cX10_isTurn_0 (i := 17) (by decide +kernel) rfl
theorem dX10_isTurn_20 : decode cX10_isTurn 20 = .ok (.aload_n 0, 1) := zrD zrw_cX10_isTurn_0 (i := 20) (by decide +kernel) rfl
theorem dX10_isTurn_21 : decode cX10_isTurn 21 = .ok (.getfield 52, 3) := zrD zrw_cX10_isTurn_0 (i := 21) (by decide +kernel) rfl
theorem dX10_isTurn_24 : decode cX10_isTurn 24 = .ok (.getfield 116, 3) := zrD zrw_cX10_isTurn_0 (i := 24) (by decide +kernel) rfl
theorem dX10_isTurn_27 : decode cX10_isTurn 27 = .ok (.iload_n 1, 1) := zrD zrw_cX10_isTurn_0 (i := 27) (by decide +kernel) rfl
theorem dX10_isTurn_28 : decode cX10_isTurn 28 = .ok (.iaload, 1) := zrD zrw_cX10_isTurn_0 (i := 28) (by decide +kernel) rfl
theorem dX10_isTurn_29 : decode cX10_isTurn 29 = .ok (.iload_n 2, 1) := zrD zrw_cX10_isTurn_0 (i := 29) (by decide +kernel) rfl
def zrk_cX10_isTurn_30 : ByteArray := .mk #[159, 0, 19, 42, 180, 0, 52, 28, 27, 182, 0, 226, 154, 0, 7, 4, 167, 0, 4, 3, 172]
theorem zrw_cX10_isTurn_30 : zrW 30 cX10_isTurn zrk_cX10_isTurn_30 := by unfold zrW; decide +kernel
theorem dX10_isTurn_30 : decode cX10_isTurn 30 = .ok (.if_icmp .eq 19, 3) := zrD zrw_cX10_isTurn_30 (i := 0) (by decide +kernel) rfl
theorem dX10_isTurn_33 : decode cX10_isTurn 33 = .ok (.aload_n 0, 1) := zrD zrw_cX10_isTurn_30 (i := 3) (by decide +kernel) rfl
theorem dX10_isTurn_34 : decode cX10_isTurn 34 = .ok (.getfield 52, 3) := zrD zrw_cX10_isTurn_30 (i := 4) (by decide +kernel) rfl
theorem dX10_isTurn_37 : decode cX10_isTurn 37 = .ok (.iload_n 2, 1) := zrD zrw_cX10_isTurn_30 (i := 7) (by decide +kernel) rfl
theorem dX10_isTurn_38 : decode cX10_isTurn 38 = .ok (.iload_n 1, 1) := zrD zrw_cX10_isTurn_30 (i := 8) (by decide +kernel) rfl
theorem dX10_isTurn_39 : decode cX10_isTurn 39 = .ok (.invokevirtual 226, 3) := zrD zrw_cX10_isTurn_30 (i := 9) (by decide +kernel) rfl
theorem dX10_isTurn_42 : decode cX10_isTurn 42 = .ok (.ifCond .ne 7, 3) := zrD zrw_cX10_isTurn_30 (i := 12) (by decide +kernel) rfl
theorem dX10_isTurn_45 : decode cX10_isTurn 45 = .ok (.iconst 1, 1) := zrD zrw_cX10_isTurn_30 (i := 15) (by decide +kernel) rfl
theorem dX10_isTurn_46 : decode cX10_isTurn 46 = .ok (.goto 4, 3) := zrD zrw_cX10_isTurn_30 (i := 16) (by decide +kernel) rfl
theorem dX10_isTurn_49 : decode cX10_isTurn 49 = .ok (.iconst 0, 1) := zrD zrw_cX10_isTurn_30 (i := 19) (by decide +kernel) rfl
theorem dX10_isTurn_50 : decode cX10_isTurn 50 = .ok (.ireturn, 1) := zrD zrw_cX10_isTurn_30 (i := 20) (by decide +kernel) rfl
def zrk_cX10_rule_0 : ByteArray := .mk #[42, 27, 182, 0, 169, 153, 0, 14, 42, 180, 0, 52, 180, 0, 185, 27, 160, 0, 5, 3, 172, 42, 180, 0, 38, 42, 180, 0, 52, 182, 0, 219]
theorem zrw_cX10_rule_0 : zrW 0 cX10_rule zrk_cX10_rule_0 := by unfold zrW; decide +kernel
theorem dX10_rule_0 : decode cX10_rule 0 = .ok (.aload_n 0, 1) := zrD zrw_cX10_rule_0 (i := 0) (by decide +kernel) rfl
theorem dX10_rule_1 : decode cX10_rule 1 = .ok (.iload_n 1, 1) := zrD zrw_cX10_rule_0 (i := 1) (by decide +kernel) rfl
theorem dX10_rule_2 : decode cX10_rule 2 = .ok (.invokevirtual 169, 3) := zrD zrw_cX10_rule_0 (i := 2) (by decide +kernel) rfl
theorem dX10_rule_5 : decode cX10_rule 5 = .ok (.ifCond .eq 14, 3) := zrD zrw_cX10_rule_0 (i := 5) (by decide +kernel) rfl
theorem dX10_rule_8 : decode cX10_rule 8 = .ok (.aload_n 0, 1) := zrD zrw_cX10_rule_0 (i := 8) (by decide +kernel) rfl
theorem dX10_rule_9 : decode cX10_rule 9 = .ok (.getfield 52, 3) := zrD zrw_cX10_rule_0 (i := 9) (by decide +kernel) rfl
theorem dX10_rule_12 : decode cX10_rule 12 = .ok (.getfield 185, 3) := zrD zrw_cX10_rule_0 (i := 12) (by decide +kernel) rfl
theorem dX10_rule_15 : decode cX10_rule 15 = .ok (.iload_n 1, 1) := zrD zrw_cX10_rule_0 (i := 15) (by decide +kernel) rfl
theorem dX10_rule_16 : decode cX10_rule 16 = .ok (.if_icmp .ne 5, 3) := zrD zrw_cX10_rule_0 (i := 16) (by decide +kernel) rfl
theorem dX10_rule_19 : decode cX10_rule 19 = .ok (.iconst 0, 1) := zrD zrw_cX10_rule_0 (i := 19) (by decide +kernel) rfl
theorem dX10_rule_20 : decode cX10_rule 20 = .ok (.ireturn, 1) := zrD zrw_cX10_rule_0 (i := 20) (by decide +kernel) rfl
theorem dX10_rule_21 : decode cX10_rule 21 = .ok (.aload_n 0, 1) := zrD zrw_cX10_rule_0 (i := 21) (by decide +kernel) rfl
theorem dX10_rule_22 : decode cX10_rule 22 = .ok (.getfield 38, 3) := zrD zrw_cX10_rule_0 (i := 22) (by decide +kernel) rfl
theorem dX10_rule_25 : decode cX10_rule 25 = .ok (.aload_n 0, 1) := zrD zrw_cX10_rule_0 (i := 25) (by decide +kernel) rfl
theorem dX10_rule_26 : decode cX10_rule 26 = .ok (.getfield 52, 3) := zrD zrw_cX10_rule_0 (i := 26) (by decide +kernel) rfl
theorem dX10_rule_29 : decode cX10_rule 29 = .ok (.invokevirtual 219, 3) := zrD zrw_cX10_rule_0 (i := 29) (by decide +kernel) rfl
def zrk_cX10_rule_32 : ByteArray := .mk #[42, 180, 0, 52, 27, 181, 0, 185, 4, 172]
theorem zrw_cX10_rule_32 : zrW 32 cX10_rule zrk_cX10_rule_32 := by unfold zrW; decide +kernel
theorem dX10_rule_32 : decode cX10_rule 32 = .ok (.aload_n 0, 1) := zrD zrw_cX10_rule_32 (i := 0) (by decide +kernel) rfl
theorem dX10_rule_33 : decode cX10_rule 33 = .ok (.getfield 52, 3) := zrD zrw_cX10_rule_32 (i := 1) (by decide +kernel) rfl
theorem dX10_rule_36 : decode cX10_rule 36 = .ok (.iload_n 1, 1) := zrD zrw_cX10_rule_32 (i := 4) (by decide +kernel) rfl
theorem dX10_rule_37 : decode cX10_rule 37 = .ok (.putfield 185, 3) := zrD zrw_cX10_rule_32 (i := 5) (by decide +kernel) rfl
theorem dX10_rule_40 : decode cX10_rule 40 = .ok (.iconst 1, 1) := zrD zrw_cX10_rule_32 (i := 8) (by decide +kernel) rfl
theorem dX10_rule_41 : decode cX10_rule 41 = .ok (.ireturn, 1) := zrD zrw_cX10_rule_32 (i := 9) (by decide +kernel) rfl
def zrk_cX10_months_0 : ByteArray := .mk #[27, 3, 16, 60, 184, 0, 229, 154, 0, 5, 2, 172, 27, 158, 0, 37, 42, 180, 0, 38, 42, 180, 0, 52, 182, 0, 219, 42, 180, 0, 26, 42]
theorem zrw_cX10_months_0 : zrW 0 cX10_months zrk_cX10_months_0 := by unfold zrW; decide +kernel
theorem dX10_months_0 : decode cX10_months 0 = .ok (.iload_n 1, 1) := zrD zrw_cX10_months_0 (i := 0) (by decide +kernel) rfl
theorem dX10_months_1 : decode cX10_months 1 = .ok (.iconst 0, 1) := zrD zrw_cX10_months_0 (i := 1) (by decide +kernel) rfl
theorem dX10_months_2 : decode cX10_months 2 = .ok (.bipush 60, 2) := zrD zrw_cX10_months_0 (i := 2) (by decide +kernel) rfl
theorem dX10_months_4 : decode cX10_months 4 = .ok (.invokestatic 229, 3) := zrD zrw_cX10_months_0 (i := 4) (by decide +kernel) rfl
theorem dX10_months_7 : decode cX10_months 7 = .ok (.ifCond .ne 5, 3) := zrD zrw_cX10_months_0 (i := 7) (by decide +kernel) rfl
theorem dX10_months_10 : decode cX10_months 10 = .ok (.iconst (-1), 1) := zrD zrw_cX10_months_0 (i := 10) (by decide +kernel) rfl
theorem dX10_months_11 : decode cX10_months 11 = .ok (.ireturn, 1) := zrD zrw_cX10_months_0 (i := 11) (by decide +kernel) rfl
theorem dX10_months_12 : decode cX10_months 12 = .ok (.iload_n 1, 1) := zrD zrw_cX10_months_0 (i := 12) (by decide +kernel) rfl
theorem dX10_months_13 : decode cX10_months 13 = .ok (.ifCond .le 37, 3) := zrD zrw_cX10_months_0 (i := 13) (by decide +kernel) rfl
theorem dX10_months_16 : decode cX10_months 16 = .ok (.aload_n 0, 1) := zrD zrw_cX10_months_0 (i := 16) (by decide +kernel) rfl
theorem dX10_months_17 : decode cX10_months 17 = .ok (.getfield 38, 3) := zrD zrw_cX10_months_0 (i := 17) (by decide +kernel) rfl
theorem dX10_months_20 : decode cX10_months 20 = .ok (.aload_n 0, 1) := zrD zrw_cX10_months_0 (i := 20) (by decide +kernel) rfl
theorem dX10_months_21 : decode cX10_months 21 = .ok (.getfield 52, 3) := zrD zrw_cX10_months_0 (i := 21) (by decide +kernel) rfl
theorem dX10_months_24 : decode cX10_months 24 = .ok (.invokevirtual 219, 3) := zrD zrw_cX10_months_0 (i := 24) (by decide +kernel) rfl
theorem dX10_months_27 : decode cX10_months 27 = .ok (.aload_n 0, 1) := zrD zrw_cX10_months_0 (i := 27) (by decide +kernel) rfl
theorem dX10_months_28 : decode cX10_months 28 = .ok (.getfield 26, 3) := zrD zrw_cX10_months_0 (i := 28) (by decide +kernel) rfl
theorem dX10_months_31 : decode cX10_months 31 = .ok (.aload_n 0, 1) := zrD zrw_cX10_months_0 (i := 31) (by decide +kernel) rfl
def zrk_cX10_months_32 : ByteArray := .mk #[180, 0, 70, 42, 180, 0, 52, 27, 42, 180, 0, 70, 180, 0, 203, 182, 0, 233, 42, 180, 0, 52, 180, 0, 178, 172]
theorem zrw_cX10_months_32 : zrW 32 cX10_months zrk_cX10_months_32 := by unfold zrW; decide +kernel
theorem dX10_months_32 : decode cX10_months 32 = .ok (.getfield 70, 3) := zrD zrw_cX10_months_32 (i := 0) (by decide +kernel) rfl
theorem dX10_months_35 : decode cX10_months 35 = .ok (.aload_n 0, 1) := zrD zrw_cX10_months_32 (i := 3) (by decide +kernel) rfl
theorem dX10_months_36 : decode cX10_months 36 = .ok (.getfield 52, 3) := zrD zrw_cX10_months_32 (i := 4) (by decide +kernel) rfl
theorem dX10_months_39 : decode cX10_months 39 = .ok (.iload_n 1, 1) := zrD zrw_cX10_months_32 (i := 7) (by decide +kernel) rfl
theorem dX10_months_40 : decode cX10_months 40 = .ok (.aload_n 0, 1) := zrD zrw_cX10_months_32 (i := 8) (by decide +kernel) rfl
theorem dX10_months_41 : decode cX10_months 41 = .ok (.getfield 70, 3) := zrD zrw_cX10_months_32 (i := 9) (by decide +kernel) rfl
theorem dX10_months_44 : decode cX10_months 44 = .ok (.getfield 203, 3) := zrD zrw_cX10_months_32 (i := 12) (by decide +kernel) rfl
theorem dX10_months_47 : decode cX10_months 47 = .ok (.invokevirtual 233, 3) := zrD zrw_cX10_months_32 (i := 15) (by decide +kernel) rfl
theorem dX10_months_50 : decode cX10_months 50 = .ok (.aload_n 0, 1) := zrD zrw_cX10_months_32 (i := 18) (by decide +kernel) rfl
theorem dX10_months_51 : decode cX10_months 51 = .ok (.getfield 52, 3) := zrD zrw_cX10_months_32 (i := 19) (by decide +kernel) rfl
theorem dX10_months_54 : decode cX10_months 54 = .ok (.getfield 178, 3) := zrD zrw_cX10_months_32 (i := 22) (by decide +kernel) rfl
theorem dX10_months_57 : decode cX10_months 57 = .ok (.ireturn, 1) := zrD zrw_cX10_months_32 (i := 25) (by decide +kernel) rfl
def zrk_cX10_undo_0 : ByteArray := .mk #[42, 180, 0, 38, 42, 180, 0, 52, 182, 0, 237, 172]
theorem zrw_cX10_undo_0 : zrW 0 cX10_undo zrk_cX10_undo_0 := by unfold zrW; decide +kernel
theorem dX10_undo_0 : decode cX10_undo 0 = .ok (.aload_n 0, 1) := zrD zrw_cX10_undo_0 (i := 0) (by decide +kernel) rfl
theorem dX10_undo_1 : decode cX10_undo 1 = .ok (.getfield 38, 3) := zrD zrw_cX10_undo_0 (i := 1) (by decide +kernel) rfl
theorem dX10_undo_4 : decode cX10_undo 4 = .ok (.aload_n 0, 1) := zrD zrw_cX10_undo_0 (i := 4) (by decide +kernel) rfl
theorem dX10_undo_5 : decode cX10_undo 5 = .ok (.getfield 52, 3) := zrD zrw_cX10_undo_0 (i := 5) (by decide +kernel) rfl
theorem dX10_undo_8 : decode cX10_undo 8 = .ok (.invokevirtual 237, 3) := zrD zrw_cX10_undo_0 (i := 8) (by decide +kernel) rfl
theorem dX10_undo_11 : decode cX10_undo 11 = .ok (.ireturn, 1) := zrD zrw_cX10_undo_0 (i := 11) (by decide +kernel) rfl
def zrk_cX10_hold_0 : ByteArray := .mk #[27, 3, 5, 184, 0, 229, 154, 0, 5, 3, 172, 42, 180, 0, 59, 27, 50, 42, 180, 0, 52, 182, 0, 241, 42, 89, 180, 0, 77, 27]
theorem zrw_cX10_hold_0 : zrW 0 cX10_hold zrk_cX10_hold_0 := by unfold zrW; decide +kernel
theorem dX10_hold_0 : decode cX10_hold 0 = .ok (.iload_n 1, 1) := zrD zrw_cX10_hold_0 (i := 0) (by decide +kernel) rfl
theorem dX10_hold_1 : decode cX10_hold 1 = .ok (.iconst 0, 1) := zrD zrw_cX10_hold_0 (i := 1) (by decide +kernel) rfl
theorem dX10_hold_2 : decode cX10_hold 2 = .ok (.iconst 2, 1) := zrD zrw_cX10_hold_0 (i := 2) (by decide +kernel) rfl
theorem dX10_hold_3 : decode cX10_hold 3 = .ok (.invokestatic 229, 3) := zrD zrw_cX10_hold_0 (i := 3) (by decide +kernel) rfl
theorem dX10_hold_6 : decode cX10_hold 6 = .ok (.ifCond .ne 5, 3) := zrD zrw_cX10_hold_0 (i := 6) (by decide +kernel) rfl
theorem dX10_hold_9 : decode cX10_hold 9 = .ok (.iconst 0, 1) := zrD zrw_cX10_hold_0 (i := 9) (by decide +kernel) rfl
theorem dX10_hold_10 : decode cX10_hold 10 = .ok (.ireturn, 1) := zrD zrw_cX10_hold_0 (i := 10) (by decide +kernel) rfl
theorem dX10_hold_11 : decode cX10_hold 11 = .ok (.aload_n 0, 1) := zrD zrw_cX10_hold_0 (i := 11) (by decide +kernel) rfl
theorem dX10_hold_12 : decode cX10_hold 12 = .ok (.getfield 59, 3) := zrD zrw_cX10_hold_0 (i := 12) (by decide +kernel) rfl
theorem dX10_hold_15 : decode cX10_hold 15 = .ok (.iload_n 1, 1) := zrD zrw_cX10_hold_0 (i := 15) (by decide +kernel) rfl
theorem dX10_hold_16 : decode cX10_hold 16 = .ok (.aaload, 1) := zrD zrw_cX10_hold_0 (i := 16) (by decide +kernel) rfl
theorem dX10_hold_17 : decode cX10_hold 17 = .ok (.aload_n 0, 1) := zrD zrw_cX10_hold_0 (i := 17) (by decide +kernel) rfl
theorem dX10_hold_18 : decode cX10_hold 18 = .ok (.getfield 52, 3) := zrD zrw_cX10_hold_0 (i := 18) (by decide +kernel) rfl
theorem dX10_hold_21 : decode cX10_hold 21 = .ok (.invokevirtual 241, 3) := zrD zrw_cX10_hold_0 (i := 21) (by decide +kernel) rfl
theorem dX10_hold_24 : decode cX10_hold 24 = .ok (.aload_n 0, 1) := zrD zrw_cX10_hold_0 (i := 24) (by decide +kernel) rfl
theorem dX10_hold_25 : decode cX10_hold 25 = .ok (.dup, 1) := zrD zrw_cX10_hold_0 (i := 25) (by decide +kernel) rfl
theorem dX10_hold_26 : decode cX10_hold 26 = .ok (.getfield 77, 3) := zrD zrw_cX10_hold_0 (i := 26) (by decide +kernel) rfl
theorem dX10_hold_29 : decode cX10_hold 29 = .ok (.iload_n 1, 1) := zrD zrw_cX10_hold_0 (i := 29) (by decide +kernel) rfl
def zrk_cX10_hold_30 : ByteArray := .mk #[184, 0, 216, 128, 181, 0, 77, 4, 172]
theorem zrw_cX10_hold_30 : zrW 30 cX10_hold zrk_cX10_hold_30 := by unfold zrW; decide +kernel
theorem dX10_hold_30 : decode cX10_hold 30 = .ok (.invokestatic 216, 3) := zrD zrw_cX10_hold_30 (i := 0) (by decide +kernel) rfl
theorem dX10_hold_33 : decode cX10_hold 33 = .ok (.ior, 1) := zrD zrw_cX10_hold_30 (i := 3) (by decide +kernel) rfl
theorem dX10_hold_34 : decode cX10_hold 34 = .ok (.putfield 77, 3) := zrD zrw_cX10_hold_30 (i := 4) (by decide +kernel) rfl
theorem dX10_hold_37 : decode cX10_hold 37 = .ok (.iconst 1, 1) := zrD zrw_cX10_hold_30 (i := 7) (by decide +kernel) rfl
theorem dX10_hold_38 : decode cX10_hold 38 = .ok (.ireturn, 1) := zrD zrw_cX10_hold_30 (i := 8) (by decide +kernel) rfl
def zrk_cX10_restore_0 : ByteArray := .mk #[27, 3, 5, 184, 0, 229, 153, 0, 14, 42, 180, 0, 77, 27, 184, 0, 131, 154, 0, 5, 3, 172, 42, 180, 0, 52, 42, 180, 0, 59, 27, 50]
theorem zrw_cX10_restore_0 : zrW 0 cX10_restore zrk_cX10_restore_0 := by unfold zrW; decide +kernel
theorem dX10_restore_0 : decode cX10_restore 0 = .ok (.iload_n 1, 1) := zrD zrw_cX10_restore_0 (i := 0) (by decide +kernel) rfl
theorem dX10_restore_1 : decode cX10_restore 1 = .ok (.iconst 0, 1) := zrD zrw_cX10_restore_0 (i := 1) (by decide +kernel) rfl
theorem dX10_restore_2 : decode cX10_restore 2 = .ok (.iconst 2, 1) := zrD zrw_cX10_restore_0 (i := 2) (by decide +kernel) rfl
theorem dX10_restore_3 : decode cX10_restore 3 = .ok (.invokestatic 229, 3) := zrD zrw_cX10_restore_0 (i := 3) (by decide +kernel) rfl
theorem dX10_restore_6 : decode cX10_restore 6 = .ok (.ifCond .eq 14, 3) := zrD zrw_cX10_restore_0 (i := 6) (by decide +kernel) rfl
theorem dX10_restore_9 : decode cX10_restore 9 = .ok (.aload_n 0, 1) := zrD zrw_cX10_restore_0 (i := 9) (by decide +kernel) rfl
theorem dX10_restore_10 : decode cX10_restore 10 = .ok (.getfield 77, 3) := zrD zrw_cX10_restore_0 (i := 10) (by decide +kernel) rfl
theorem dX10_restore_13 : decode cX10_restore 13 = .ok (.iload_n 1, 1) := zrD zrw_cX10_restore_0 (i := 13) (by decide +kernel) rfl
theorem dX10_restore_14 : decode cX10_restore 14 = .ok (.invokestatic 131, 3) := zrD zrw_cX10_restore_0 (i := 14) (by decide +kernel) rfl
theorem dX10_restore_17 : decode cX10_restore 17 = .ok (.ifCond .ne 5, 3) := zrD zrw_cX10_restore_0 (i := 17) (by decide +kernel) rfl
theorem dX10_restore_20 : decode cX10_restore 20 = .ok (.iconst 0, 1) := zrD zrw_cX10_restore_0 (i := 20) (by decide +kernel) rfl
theorem dX10_restore_21 : decode cX10_restore 21 = .ok (.ireturn, 1) := zrD zrw_cX10_restore_0 (i := 21) (by decide +kernel) rfl
theorem dX10_restore_22 : decode cX10_restore 22 = .ok (.aload_n 0, 1) := zrD zrw_cX10_restore_0 (i := 22) (by decide +kernel) rfl
theorem dX10_restore_23 : decode cX10_restore 23 = .ok (.getfield 52, 3) := zrD zrw_cX10_restore_0 (i := 23) (by decide +kernel) rfl
theorem dX10_restore_26 : decode cX10_restore 26 = .ok (.aload_n 0, 1) := zrD zrw_cX10_restore_0 (i := 26) (by decide +kernel) rfl
theorem dX10_restore_27 : decode cX10_restore 27 = .ok (.getfield 59, 3) := zrD zrw_cX10_restore_0 (i := 27) (by decide +kernel) rfl
theorem dX10_restore_30 : decode cX10_restore 30 = .ok (.iload_n 1, 1) := zrD zrw_cX10_restore_0 (i := 30) (by decide +kernel) rfl
theorem dX10_restore_31 : decode cX10_restore 31 = .ok (.aaload, 1) := zrD zrw_cX10_restore_0 (i := 31) (by decide +kernel) rfl
def zrk_cX10_restore_32 : ByteArray := .mk #[182, 0, 241, 42, 180, 0, 38, 3, 181, 0, 107, 4, 172]
theorem zrw_cX10_restore_32 : zrW 32 cX10_restore zrk_cX10_restore_32 := by unfold zrW; decide +kernel
theorem dX10_restore_32 : decode cX10_restore 32 = .ok (.invokevirtual 241, 3) := zrD zrw_cX10_restore_32 (i := 0) (by decide +kernel) rfl
theorem dX10_restore_35 : decode cX10_restore 35 = .ok (.aload_n 0, 1) := zrD zrw_cX10_restore_32 (i := 3) (by decide +kernel) rfl
theorem dX10_restore_36 : decode cX10_restore 36 = .ok (.getfield 38, 3) := zrD zrw_cX10_restore_32 (i := 4) (by decide +kernel) rfl
theorem dX10_restore_39 : decode cX10_restore 39 = .ok (.iconst 0, 1) := zrD zrw_cX10_restore_32 (i := 7) (by decide +kernel) rfl
theorem dX10_restore_40 : decode cX10_restore 40 = .ok (.putfield 107, 3) := zrD zrw_cX10_restore_32 (i := 8) (by decide +kernel) rfl
theorem dX10_restore_43 : decode cX10_restore 43 = .ok (.iconst 1, 1) := zrD zrw_cX10_restore_32 (i := 11) (by decide +kernel) rfl
theorem dX10_restore_44 : decode cX10_restore 44 = .ok (.ireturn, 1) := zrD zrw_cX10_restore_32 (i := 12) (by decide +kernel) rfl
def zrk_cX10_behind_0 : ByteArray := .mk #[42, 27, 28, 182, 0, 162, 154, 0, 5, 2, 172, 42, 180, 0, 26, 28, 182, 0, 172, 62, 29, 156, 0, 7, 2, 167, 0, 22, 42, 180, 0, 26]
theorem zrw_cX10_behind_0 : zrW 0 cX10_behind zrk_cX10_behind_0 := by unfold zrW; decide +kernel
theorem dX10_behind_0 : decode cX10_behind 0 = .ok (.aload_n 0, 1) := zrD zrw_cX10_behind_0 (i := 0) (by decide +kernel) rfl
theorem dX10_behind_1 : decode cX10_behind 1 = .ok (.iload_n 1, 1) := zrD zrw_cX10_behind_0 (i := 1) (by decide +kernel) rfl
theorem dX10_behind_2 : decode cX10_behind 2 = .ok (.iload_n 2, 1) := zrD zrw_cX10_behind_0 (i := 2) (by decide +kernel) rfl
theorem dX10_behind_3 : decode cX10_behind 3 = .ok (.invokevirtual 162, 3) := zrD zrw_cX10_behind_0 (i := 3) (by decide +kernel) rfl
theorem dX10_behind_6 : decode cX10_behind 6 = .ok (.ifCond .ne 5, 3) := zrD zrw_cX10_behind_0 (i := 6) (by decide +kernel) rfl
theorem dX10_behind_9 : decode cX10_behind 9 = .ok (.iconst (-1), 1) := zrD zrw_cX10_behind_0 (i := 9) (by decide +kernel) rfl
theorem dX10_behind_10 : decode cX10_behind 10 = .ok (.ireturn, 1) := zrD zrw_cX10_behind_0 (i := 10) (by decide +kernel) rfl
theorem dX10_behind_11 : decode cX10_behind 11 = .ok (.aload_n 0, 1) := zrD zrw_cX10_behind_0 (i := 11) (by decide +kernel) rfl
theorem dX10_behind_12 : decode cX10_behind 12 = .ok (.getfield 26, 3) := zrD zrw_cX10_behind_0 (i := 12) (by decide +kernel) rfl
theorem dX10_behind_15 : decode cX10_behind 15 = .ok (.iload_n 2, 1) := zrD zrw_cX10_behind_0 (i := 15) (by decide +kernel) rfl
theorem dX10_behind_16 : decode cX10_behind 16 = .ok (.invokevirtual 172, 3) := zrD zrw_cX10_behind_0 (i := 16) (by decide +kernel) rfl
theorem dX10_behind_19 : decode cX10_behind 19 = .ok (.istore_n 3, 1) := zrD zrw_cX10_behind_0 (i := 19) (by decide +kernel) rfl
theorem dX10_behind_20 : decode cX10_behind 20 = .ok (.iload_n 3, 1) := zrD zrw_cX10_behind_0 (i := 20) (by decide +kernel) rfl
theorem dX10_behind_21 : decode cX10_behind 21 = .ok (.ifCond .ge 7, 3) := zrD zrw_cX10_behind_0 (i := 21) (by decide +kernel) rfl
theorem dX10_behind_24 : decode cX10_behind 24 = .ok (.iconst (-1), 1) := zrD zrw_cX10_behind_0 (i := 24) (by decide +kernel) rfl
theorem dX10_behind_25 : decode cX10_behind 25 = .ok (.goto 22, 3) := zrD zrw_cX10_behind_0 (i := 25) (by decide +kernel) rfl
theorem dX10_behind_28 : decode cX10_behind 28 = .ok (.aload_n 0, 1) := zrD zrw_cX10_behind_0 (i := 28) (by decide +kernel) rfl
theorem dX10_behind_29 : decode cX10_behind 29 = .ok (.getfield 26, 3) := zrD zrw_cX10_behind_0 (i := 29) (by decide +kernel) rfl
def zrk_cX10_behind_32 : ByteArray := .mk #[180, 0, 244, 29, 46, 42, 180, 0, 26, 180, 0, 244, 27, 46, 100, 172]
theorem zrw_cX10_behind_32 : zrW 32 cX10_behind zrk_cX10_behind_32 := by unfold zrW; decide +kernel
theorem dX10_behind_32 : decode cX10_behind 32 = .ok (.getfield 244, 3) := zrD zrw_cX10_behind_32 (i := 0) (by decide +kernel) rfl
theorem dX10_behind_35 : decode cX10_behind 35 = .ok (.iload_n 3, 1) := zrD zrw_cX10_behind_32 (i := 3) (by decide +kernel) rfl
theorem dX10_behind_36 : decode cX10_behind 36 = .ok (.iaload, 1) := zrD zrw_cX10_behind_32 (i := 4) (by decide +kernel) rfl
theorem dX10_behind_37 : decode cX10_behind 37 = .ok (.aload_n 0, 1) := zrD zrw_cX10_behind_32 (i := 5) (by decide +kernel) rfl
theorem dX10_behind_38 : decode cX10_behind 38 = .ok (.getfield 26, 3) := zrD zrw_cX10_behind_32 (i := 6) (by decide +kernel) rfl
theorem dX10_behind_41 : decode cX10_behind 41 = .ok (.getfield 244, 3) := zrD zrw_cX10_behind_32 (i := 9) (by decide +kernel) rfl
theorem dX10_behind_44 : decode cX10_behind 44 = .ok (.iload_n 1, 1) := zrD zrw_cX10_behind_32 (i := 12) (by decide +kernel) rfl
theorem dX10_behind_45 : decode cX10_behind 45 = .ok (.iaload, 1) := zrD zrw_cX10_behind_32 (i := 13) (by decide +kernel) rfl
theorem dX10_behind_46 : decode cX10_behind 46 = .ok (.isub, 1) := zrD zrw_cX10_behind_32 (i := 14) (by decide +kernel) rfl
theorem dX10_behind_47 : decode cX10_behind 47 = .ok (.ireturn, 1) := zrD zrw_cX10_behind_32 (i := 15) (by decide +kernel) rfl
def zrk_cX10_margin_0 : ByteArray := .mk #[42, 27, 182, 0, 169, 154, 0, 5, 2, 172, 42, 182, 0, 113, 42, 180, 0, 26, 27, 182, 0, 247, 42, 180, 0, 26, 2, 182, 0, 250, 61, 42]
theorem zrw_cX10_margin_0 : zrW 0 cX10_margin zrk_cX10_margin_0 := by unfold zrW; decide +kernel
theorem dX10_margin_0 : decode cX10_margin 0 = .ok (.aload_n 0, 1) := zrD zrw_cX10_margin_0 (i := 0) (by decide +kernel) rfl
theorem dX10_margin_1 : decode cX10_margin 1 = .ok (.iload_n 1, 1) := zrD zrw_cX10_margin_0 (i := 1) (by decide +kernel) rfl
theorem dX10_margin_2 : decode cX10_margin 2 = .ok (.invokevirtual 169, 3) := zrD zrw_cX10_margin_0 (i := 2) (by decide +kernel) rfl
theorem dX10_margin_5 : decode cX10_margin 5 = .ok (.ifCond .ne 5, 3) := zrD zrw_cX10_margin_0 (i := 5) (by decide +kernel) rfl
theorem dX10_margin_8 : decode cX10_margin 8 = .ok (.iconst (-1), 1) := zrD zrw_cX10_margin_0 (i := 8) (by decide +kernel) rfl
theorem dX10_margin_9 : decode cX10_margin 9 = .ok (.ireturn, 1) := zrD zrw_cX10_margin_0 (i := 9) (by decide +kernel) rfl
theorem dX10_margin_10 : decode cX10_margin 10 = .ok (.aload_n 0, 1) := zrD zrw_cX10_margin_0 (i := 10) (by decide +kernel) rfl
theorem dX10_margin_11 : decode cX10_margin 11 = .ok (.invokevirtual 113, 3) := zrD zrw_cX10_margin_0 (i := 11) (by decide +kernel) rfl
theorem dX10_margin_14 : decode cX10_margin 14 = .ok (.aload_n 0, 1) := zrD zrw_cX10_margin_0 (i := 14) (by decide +kernel) rfl
theorem dX10_margin_15 : decode cX10_margin 15 = .ok (.getfield 26, 3) := zrD zrw_cX10_margin_0 (i := 15) (by decide +kernel) rfl
theorem dX10_margin_18 : decode cX10_margin 18 = .ok (.iload_n 1, 1) := zrD zrw_cX10_margin_0 (i := 18) (by decide +kernel) rfl
theorem dX10_margin_19 : decode cX10_margin 19 = .ok (.invokevirtual 247, 3) := zrD zrw_cX10_margin_0 (i := 19) (by decide +kernel) rfl
theorem dX10_margin_22 : decode cX10_margin 22 = .ok (.aload_n 0, 1) := zrD zrw_cX10_margin_0 (i := 22) (by decide +kernel) rfl
theorem dX10_margin_23 : decode cX10_margin 23 = .ok (.getfield 26, 3) := zrD zrw_cX10_margin_0 (i := 23) (by decide +kernel) rfl
theorem dX10_margin_26 : decode cX10_margin 26 = .ok (.iconst (-1), 1) := zrD zrw_cX10_margin_0 (i := 26) (by decide +kernel) rfl
theorem dX10_margin_27 : decode cX10_margin 27 = .ok (.invokevirtual 250, 3) := zrD zrw_cX10_margin_0 (i := 27) (by decide +kernel) rfl
theorem dX10_margin_30 : decode cX10_margin 30 = .ok (.istore_n 2, 1) := zrD zrw_cX10_margin_0 (i := 30) (by decide +kernel) rfl
theorem dX10_margin_31 : decode cX10_margin 31 = .ok (.aload_n 0, 1) := zrD zrw_cX10_margin_0 (i := 31) (by decide +kernel) rfl
def zrk_cX10_margin_32 : ByteArray := .mk #[180, 0, 26, 28, 182, 0, 250, 62, 28, 155, 0, 7, 29, 156, 0, 8, 16, 254, 167, 0, 22, 42, 180, 0, 26, 180, 0, 244, 28, 46, 42]
theorem zrw_cX10_margin_32 : zrW 32 cX10_margin zrk_cX10_margin_32 := by unfold zrW; decide +kernel
theorem dX10_margin_32 : decode cX10_margin 32 = .ok (.getfield 26, 3) := zrD zrw_cX10_margin_32 (i := 0) (by decide +kernel) rfl
theorem dX10_margin_35 : decode cX10_margin 35 = .ok (.iload_n 2, 1) := zrD zrw_cX10_margin_32 (i := 3) (by decide +kernel) rfl
theorem dX10_margin_36 : decode cX10_margin 36 = .ok (.invokevirtual 250, 3) := zrD zrw_cX10_margin_32 (i := 4) (by decide +kernel) rfl
theorem dX10_margin_39 : decode cX10_margin 39 = .ok (.istore_n 3, 1) := zrD zrw_cX10_margin_32 (i := 7) (by decide +kernel) rfl
theorem dX10_margin_40 : decode cX10_margin 40 = .ok (.iload_n 2, 1) := zrD zrw_cX10_margin_32 (i := 8) (by decide +kernel) rfl
theorem dX10_margin_41 : decode cX10_margin 41 = .ok (.ifCond .lt 7, 3) := zrD zrw_cX10_margin_32 (i := 9) (by decide +kernel) rfl
theorem dX10_margin_44 : decode cX10_margin 44 = .ok (.iload_n 3, 1) := zrD zrw_cX10_margin_32 (i := 12) (by decide +kernel) rfl
theorem dX10_margin_45 : decode cX10_margin 45 = .ok (.ifCond .ge 8, 3) := zrD zrw_cX10_margin_32 (i := 13) (by decide +kernel) rfl
theorem dX10_margin_48 : decode cX10_margin 48 = .ok (.bipush (-2), 2) := zrD zrw_cX10_margin_32 (i := 16) (by decide +kernel) rfl
theorem dX10_margin_50 : decode cX10_margin 50 = .ok (.goto 22, 3) := zrD zrw_cX10_margin_32 (i := 18) (by decide +kernel) rfl
theorem dX10_margin_53 : decode cX10_margin 53 = .ok (.aload_n 0, 1) := zrD zrw_cX10_margin_32 (i := 21) (by decide +kernel) rfl
theorem dX10_margin_54 : decode cX10_margin 54 = .ok (.getfield 26, 3) := zrD zrw_cX10_margin_32 (i := 22) (by decide +kernel) rfl
theorem dX10_margin_57 : decode cX10_margin 57 = .ok (.getfield 244, 3) := zrD zrw_cX10_margin_32 (i := 25) (by decide +kernel) rfl
theorem dX10_margin_60 : decode cX10_margin 60 = .ok (.iload_n 2, 1) := zrD zrw_cX10_margin_32 (i := 28) (by decide +kernel) rfl
theorem dX10_margin_61 : decode cX10_margin 61 = .ok (.iaload, 1) := zrD zrw_cX10_margin_32 (i := 29) (by decide +kernel) rfl
theorem dX10_margin_62 : decode cX10_margin 62 = .ok (.aload_n 0, 1) := zrD zrw_cX10_margin_32 (i := 30) (by decide +kernel) rfl
def zrk_cX10_margin_63 : ByteArray := .mk #[180, 0, 26, 180, 0, 244, 29, 46, 100, 172]
theorem zrw_cX10_margin_63 : zrW 63 cX10_margin zrk_cX10_margin_63 := by unfold zrW; decide +kernel
theorem dX10_margin_63 : decode cX10_margin 63 = .ok (.getfield 26, 3) := zrD zrw_cX10_margin_63 (i := 0) (by decide +kernel) rfl
theorem dX10_margin_66 : decode cX10_margin 66 = .ok (.getfield 244, 3) := zrD zrw_cX10_margin_63 (i := 3) (by decide +kernel) rfl
theorem dX10_margin_69 : decode cX10_margin 69 = .ok (.iload_n 3, 1) := zrD zrw_cX10_margin_63 (i := 6) (by decide +kernel) rfl
theorem dX10_margin_70 : decode cX10_margin 70 = .ok (.iaload, 1) := zrD zrw_cX10_margin_63 (i := 7) (by decide +kernel) rfl
theorem dX10_margin_71 : decode cX10_margin 71 = .ok (.isub, 1) := zrD zrw_cX10_margin_63 (i := 8) (by decide +kernel) rfl
theorem dX10_margin_72 : decode cX10_margin 72 = .ok (.ireturn, 1) := zrD zrw_cX10_margin_63 (i := 9) (by decide +kernel) rfl
def zrk_cX10_rank_0 : ByteArray := .mk #[42, 27, 28, 182, 0, 162, 154, 0, 5, 2, 172, 42, 180, 0, 26, 28, 182, 0, 247, 42, 180, 0, 26, 27, 182, 0, 253, 172]
theorem zrw_cX10_rank_0 : zrW 0 cX10_rank zrk_cX10_rank_0 := by unfold zrW; decide +kernel
theorem dX10_rank_0 : decode cX10_rank 0 = .ok (.aload_n 0, 1) := zrD zrw_cX10_rank_0 (i := 0) (by decide +kernel) rfl
theorem dX10_rank_1 : decode cX10_rank 1 = .ok (.iload_n 1, 1) := zrD zrw_cX10_rank_0 (i := 1) (by decide +kernel) rfl
theorem dX10_rank_2 : decode cX10_rank 2 = .ok (.iload_n 2, 1) := zrD zrw_cX10_rank_0 (i := 2) (by decide +kernel) rfl
theorem dX10_rank_3 : decode cX10_rank 3 = .ok (.invokevirtual 162, 3) := zrD zrw_cX10_rank_0 (i := 3) (by decide +kernel) rfl
theorem dX10_rank_6 : decode cX10_rank 6 = .ok (.ifCond .ne 5, 3) := zrD zrw_cX10_rank_0 (i := 6) (by decide +kernel) rfl
theorem dX10_rank_9 : decode cX10_rank 9 = .ok (.iconst (-1), 1) := zrD zrw_cX10_rank_0 (i := 9) (by decide +kernel) rfl
theorem dX10_rank_10 : decode cX10_rank 10 = .ok (.ireturn, 1) := zrD zrw_cX10_rank_0 (i := 10) (by decide +kernel) rfl
theorem dX10_rank_11 : decode cX10_rank 11 = .ok (.aload_n 0, 1) := zrD zrw_cX10_rank_0 (i := 11) (by decide +kernel) rfl
theorem dX10_rank_12 : decode cX10_rank 12 = .ok (.getfield 26, 3) := zrD zrw_cX10_rank_0 (i := 12) (by decide +kernel) rfl
theorem dX10_rank_15 : decode cX10_rank 15 = .ok (.iload_n 2, 1) := zrD zrw_cX10_rank_0 (i := 15) (by decide +kernel) rfl
theorem dX10_rank_16 : decode cX10_rank 16 = .ok (.invokevirtual 247, 3) := zrD zrw_cX10_rank_0 (i := 16) (by decide +kernel) rfl
theorem dX10_rank_19 : decode cX10_rank 19 = .ok (.aload_n 0, 1) := zrD zrw_cX10_rank_0 (i := 19) (by decide +kernel) rfl
theorem dX10_rank_20 : decode cX10_rank 20 = .ok (.getfield 26, 3) := zrD zrw_cX10_rank_0 (i := 20) (by decide +kernel) rfl
theorem dX10_rank_23 : decode cX10_rank 23 = .ok (.iload_n 1, 1) := zrD zrw_cX10_rank_0 (i := 23) (by decide +kernel) rfl
theorem dX10_rank_24 : decode cX10_rank 24 = .ok (.invokevirtual 253, 3) := zrD zrw_cX10_rank_0 (i := 24) (by decide +kernel) rfl
theorem dX10_rank_27 : decode cX10_rank 27 = .ok (.ireturn, 1) := zrD zrw_cX10_rank_0 (i := 27) (by decide +kernel) rfl
def zrk_cX10_vote_0 : ByteArray := .mk #[27, 3, 4, 184, 0, 229, 154, 0, 5, 2, 172, 42, 182, 0, 113, 42, 180, 0, 34, 182, 0, 188, 154, 0, 6, 16, 254, 172, 42, 182, 1, 0]
theorem zrw_cX10_vote_0 : zrW 0 cX10_vote zrk_cX10_vote_0 := by unfold zrW; decide +kernel
theorem dX10_vote_0 : decode cX10_vote 0 = .ok (.iload_n 1, 1) := zrD zrw_cX10_vote_0 (i := 0) (by decide +kernel) rfl
theorem dX10_vote_1 : decode cX10_vote 1 = .ok (.iconst 0, 1) := zrD zrw_cX10_vote_0 (i := 1) (by decide +kernel) rfl
theorem dX10_vote_2 : decode cX10_vote 2 = .ok (.iconst 1, 1) := zrD zrw_cX10_vote_0 (i := 2) (by decide +kernel) rfl
theorem dX10_vote_3 : decode cX10_vote 3 = .ok (.invokestatic 229, 3) := zrD zrw_cX10_vote_0 (i := 3) (by decide +kernel) rfl
theorem dX10_vote_6 : decode cX10_vote 6 = .ok (.ifCond .ne 5, 3) := zrD zrw_cX10_vote_0 (i := 6) (by decide +kernel) rfl
theorem dX10_vote_9 : decode cX10_vote 9 = .ok (.iconst (-1), 1) := zrD zrw_cX10_vote_0 (i := 9) (by decide +kernel) rfl
theorem dX10_vote_10 : decode cX10_vote 10 = .ok (.ireturn, 1) := zrD zrw_cX10_vote_0 (i := 10) (by decide +kernel) rfl
theorem dX10_vote_11 : decode cX10_vote 11 = .ok (.aload_n 0, 1) := zrD zrw_cX10_vote_0 (i := 11) (by decide +kernel) rfl
theorem dX10_vote_12 : decode cX10_vote 12 = .ok (.invokevirtual 113, 3) := zrD zrw_cX10_vote_0 (i := 12) (by decide +kernel) rfl
theorem dX10_vote_15 : decode cX10_vote 15 = .ok (.aload_n 0, 1) := zrD zrw_cX10_vote_0 (i := 15) (by decide +kernel) rfl
theorem dX10_vote_16 : decode cX10_vote 16 = .ok (.getfield 34, 3) := zrD zrw_cX10_vote_0 (i := 16) (by decide +kernel) rfl
theorem dX10_vote_19 : decode cX10_vote 19 = .ok (.invokevirtual 188, 3) := zrD zrw_cX10_vote_0 (i := 19) (by decide +kernel) rfl
theorem dX10_vote_22 : decode cX10_vote 22 = .ok (.ifCond .ne 6, 3) := zrD zrw_cX10_vote_0 (i := 22) (by decide +kernel) rfl
theorem dX10_vote_25 : decode cX10_vote 25 = .ok (.bipush (-2), 2) := zrD zrw_cX10_vote_0 (i := 25) (by decide +kernel) rfl
theorem dX10_vote_27 : decode cX10_vote 27 = .ok (.ireturn, 1) := zrD zrw_cX10_vote_0 (i := 27) (by decide +kernel) rfl
theorem dX10_vote_28 : decode cX10_vote 28 = .ok (.aload_n 0, 1) := zrD zrw_cX10_vote_0 (i := 28) (by decide +kernel) rfl
theorem dX10_vote_29 : decode cX10_vote 29 = .ok (.invokevirtual 256, 3) := zrD zrw_cX10_vote_0 (i := 29) (by decide +kernel) rfl
def zrk_cX10_vote_32 : ByteArray := .mk #[3, 61, 4, 62, 29, 6, 162, 0, 24, 42, 29, 182, 1, 3, 42, 28, 182, 1, 3, 164, 0, 5, 29, 61, 132, 3, 1, 167, 255, 233, 27]
theorem zrw_cX10_vote_32 : zrW 32 cX10_vote zrk_cX10_vote_32 := by unfold zrW; decide +kernel
theorem dX10_vote_32 : decode cX10_vote 32 = .ok (.iconst 0, 1) := zrD zrw_cX10_vote_32 (i := 0) (by decide +kernel) rfl
theorem dX10_vote_33 : decode cX10_vote 33 = .ok (.istore_n 2, 1) := zrD zrw_cX10_vote_32 (i := 1) (by decide +kernel) rfl
theorem dX10_vote_34 : decode cX10_vote 34 = .ok (.iconst 1, 1) := zrD zrw_cX10_vote_32 (i := 2) (by decide +kernel) rfl
theorem dX10_vote_35 : decode cX10_vote 35 = .ok (.istore_n 3, 1) := zrD zrw_cX10_vote_32 (i := 3) (by decide +kernel) rfl
theorem dX10_vote_36 : decode cX10_vote 36 = .ok (.iload_n 3, 1) := zrD zrw_cX10_vote_32 (i := 4) (by decide +kernel) rfl
theorem dX10_vote_37 : decode cX10_vote 37 = .ok (.iconst 3, 1) := zrD zrw_cX10_vote_32 (i := 5) (by decide +kernel) rfl
theorem dX10_vote_38 : decode cX10_vote 38 = .ok (.if_icmp .ge 24, 3) := zrD zrw_cX10_vote_32 (i := 6) (by decide +kernel) rfl
theorem dX10_vote_41 : decode cX10_vote 41 = .ok (.aload_n 0, 1) := zrD zrw_cX10_vote_32 (i := 9) (by decide +kernel) rfl
theorem dX10_vote_42 : decode cX10_vote 42 = .ok (.iload_n 3, 1) := zrD zrw_cX10_vote_32 (i := 10) (by decide +kernel) rfl
theorem dX10_vote_43 : decode cX10_vote 43 = .ok (.invokevirtual 259, 3) := zrD zrw_cX10_vote_32 (i := 11) (by decide +kernel) rfl
theorem dX10_vote_46 : decode cX10_vote 46 = .ok (.aload_n 0, 1) := zrD zrw_cX10_vote_32 (i := 14) (by decide +kernel) rfl
theorem dX10_vote_47 : decode cX10_vote 47 = .ok (.iload_n 2, 1) := zrD zrw_cX10_vote_32 (i := 15) (by decide +kernel) rfl
theorem dX10_vote_48 : decode cX10_vote 48 = .ok (.invokevirtual 259, 3) := zrD zrw_cX10_vote_32 (i := 16) (by decide +kernel) rfl
theorem dX10_vote_51 : decode cX10_vote 51 = .ok (.if_icmp .le 5, 3) := zrD zrw_cX10_vote_32 (i := 19) (by decide +kernel) rfl
theorem dX10_vote_54 : decode cX10_vote 54 = .ok (.iload_n 3, 1) := zrD zrw_cX10_vote_32 (i := 22) (by decide +kernel) rfl
theorem dX10_vote_55 : decode cX10_vote 55 = .ok (.istore_n 2, 1) := zrD zrw_cX10_vote_32 (i := 23) (by decide +kernel) rfl
theorem dX10_vote_56 : decode cX10_vote 56 = .ok (.iinc 3 1, 3) := zrD zrw_cX10_vote_32 (i := 24) (by decide +kernel) rfl
theorem dX10_vote_59 : decode cX10_vote 59 = .ok (.goto (-23), 3) := zrD zrw_cX10_vote_32 (i := 27) (by decide +kernel) rfl
theorem dX10_vote_62 : decode cX10_vote 62 = .ok (.iload_n 1, 1) := zrD zrw_cX10_vote_32 (i := 30) (by decide +kernel) rfl
def zrk_cX10_vote_63 : ByteArray := .mk #[154, 0, 7, 28, 167, 0, 8, 42, 28, 182, 1, 3, 172]
theorem zrw_cX10_vote_63 : zrW 63 cX10_vote zrk_cX10_vote_63 := by unfold zrW; decide +kernel
theorem dX10_vote_63 : decode cX10_vote 63 = .ok (.ifCond .ne 7, 3) := zrD zrw_cX10_vote_63 (i := 0) (by decide +kernel) rfl
theorem dX10_vote_66 : decode cX10_vote 66 = .ok (.iload_n 2, 1) := zrD zrw_cX10_vote_63 (i := 3) (by decide +kernel) rfl
theorem dX10_vote_67 : decode cX10_vote 67 = .ok (.goto 8, 3) := zrD zrw_cX10_vote_63 (i := 4) (by decide +kernel) rfl
theorem dX10_vote_70 : decode cX10_vote 70 = .ok (.aload_n 0, 1) := zrD zrw_cX10_vote_63 (i := 7) (by decide +kernel) rfl
theorem dX10_vote_71 : decode cX10_vote 71 = .ok (.iload_n 2, 1) := zrD zrw_cX10_vote_63 (i := 8) (by decide +kernel) rfl
theorem dX10_vote_72 : decode cX10_vote 72 = .ok (.invokevirtual 259, 3) := zrD zrw_cX10_vote_63 (i := 9) (by decide +kernel) rfl
theorem dX10_vote_75 : decode cX10_vote 75 = .ok (.ireturn, 1) := zrD zrw_cX10_vote_63 (i := 12) (by decide +kernel) rfl
def zrk_cX10_castVotes_0 : ByteArray := .mk #[3, 60, 27, 6, 162, 0, 73, 42, 180, 0, 26, 27, 182, 0, 247, 4, 61, 28, 42, 180, 0, 70, 180, 0, 175, 162, 0, 46, 6, 42]
theorem zrw_cX10_castVotes_0 : zrW 0 cX10_castVotes zrk_cX10_castVotes_0 := by unfold zrW; decide +kernel
theorem dX10_castVotes_0 : decode cX10_castVotes 0 = .ok (.iconst 0, 1) := zrD zrw_cX10_castVotes_0 (i := 0) (by decide +kernel) rfl
theorem dX10_castVotes_1 : decode cX10_castVotes 1 = .ok (.istore_n 1, 1) := zrD zrw_cX10_castVotes_0 (i := 1) (by decide +kernel) rfl
theorem dX10_castVotes_2 : decode cX10_castVotes 2 = .ok (.iload_n 1, 1) := zrD zrw_cX10_castVotes_0 (i := 2) (by decide +kernel) rfl
theorem dX10_castVotes_3 : decode cX10_castVotes 3 = .ok (.iconst 3, 1) := zrD zrw_cX10_castVotes_0 (i := 3) (by decide +kernel) rfl
theorem dX10_castVotes_4 : decode cX10_castVotes 4 = .ok (.if_icmp .ge 73, 3) := zrD zrw_cX10_castVotes_0 (i := 4) (by decide +kernel) rfl
theorem dX10_castVotes_7 : decode cX10_castVotes 7 = .ok (.aload_n 0, 1) := zrD zrw_cX10_castVotes_0 (i := 7) (by decide +kernel) rfl
theorem dX10_castVotes_8 : decode cX10_castVotes 8 = .ok (.getfield 26, 3) := zrD zrw_cX10_castVotes_0 (i := 8) (by decide +kernel) rfl
theorem dX10_castVotes_11 : decode cX10_castVotes 11 = .ok (.iload_n 1, 1) := zrD zrw_cX10_castVotes_0 (i := 11) (by decide +kernel) rfl
theorem dX10_castVotes_12 : decode cX10_castVotes 12 = .ok (.invokevirtual 247, 3) := zrD zrw_cX10_castVotes_0 (i := 12) (by decide +kernel) rfl
theorem dX10_castVotes_15 : decode cX10_castVotes 15 = .ok (.iconst 1, 1) := zrD zrw_cX10_castVotes_0 (i := 15) (by decide +kernel) rfl
theorem dX10_castVotes_16 : decode cX10_castVotes 16 = .ok (.istore_n 2, 1) := zrD zrw_cX10_castVotes_0 (i := 16) (by decide +kernel) rfl
theorem dX10_castVotes_17 : decode cX10_castVotes 17 = .ok (.iload_n 2, 1) := zrD zrw_cX10_castVotes_0 (i := 17) (by decide +kernel) rfl
theorem dX10_castVotes_18 : decode cX10_castVotes 18 = .ok (.aload_n 0, 1) := zrD zrw_cX10_castVotes_0 (i := 18) (by decide +kernel) rfl
theorem dX10_castVotes_19 : decode cX10_castVotes 19 = .ok (.getfield 70, 3) := zrD zrw_cX10_castVotes_0 (i := 19) (by decide +kernel) rfl
theorem dX10_castVotes_22 : decode cX10_castVotes 22 = .ok (.getfield 175, 3) := zrD zrw_cX10_castVotes_0 (i := 22) (by decide +kernel) rfl
theorem dX10_castVotes_25 : decode cX10_castVotes 25 = .ok (.if_icmp .ge 46, 3) := zrD zrw_cX10_castVotes_0 (i := 25) (by decide +kernel) rfl
theorem dX10_castVotes_28 : decode cX10_castVotes 28 = .ok (.iconst 3, 1) := zrD zrw_cX10_castVotes_0 (i := 28) (by decide +kernel) rfl
theorem dX10_castVotes_29 : decode cX10_castVotes 29 = .ok (.aload_n 0, 1) := zrD zrw_cX10_castVotes_0 (i := 29) (by decide +kernel) rfl
def zrk_cX10_castVotes_30 : ByteArray := .mk #[180, 0, 26, 28, 182, 0, 253, 104, 27, 96, 62, 42, 180, 0, 63, 28, 27, 154, 0, 7, 29, 167, 0, 13, 42, 180, 0, 63, 28, 46, 29]
theorem zrw_cX10_castVotes_30 : zrW 30 cX10_castVotes zrk_cX10_castVotes_30 := by unfold zrW; decide +kernel
theorem dX10_castVotes_30 : decode cX10_castVotes 30 = .ok (.getfield 26, 3) := zrD zrw_cX10_castVotes_30 (i := 0) (by decide +kernel) rfl
theorem dX10_castVotes_33 : decode cX10_castVotes 33 = .ok (.iload_n 2, 1) := zrD zrw_cX10_castVotes_30 (i := 3) (by decide +kernel) rfl
theorem dX10_castVotes_34 : decode cX10_castVotes 34 = .ok (.invokevirtual 253, 3) := zrD zrw_cX10_castVotes_30 (i := 4) (by decide +kernel) rfl
theorem dX10_castVotes_37 : decode cX10_castVotes 37 = .ok (.imul, 1) := zrD zrw_cX10_castVotes_30 (i := 7) (by decide +kernel) rfl
theorem dX10_castVotes_38 : decode cX10_castVotes 38 = .ok (.iload_n 1, 1) := zrD zrw_cX10_castVotes_30 (i := 8) (by decide +kernel) rfl
theorem dX10_castVotes_39 : decode cX10_castVotes 39 = .ok (.iadd, 1) := zrD zrw_cX10_castVotes_30 (i := 9) (by decide +kernel) rfl
theorem dX10_castVotes_40 : decode cX10_castVotes 40 = .ok (.istore_n 3, 1) := zrD zrw_cX10_castVotes_30 (i := 10) (by decide +kernel) rfl
theorem dX10_castVotes_41 : decode cX10_castVotes 41 = .ok (.aload_n 0, 1) := zrD zrw_cX10_castVotes_30 (i := 11) (by decide +kernel) rfl
theorem dX10_castVotes_42 : decode cX10_castVotes 42 = .ok (.getfield 63, 3) := zrD zrw_cX10_castVotes_30 (i := 12) (by decide +kernel) rfl
theorem dX10_castVotes_45 : decode cX10_castVotes 45 = .ok (.iload_n 2, 1) := zrD zrw_cX10_castVotes_30 (i := 15) (by decide +kernel) rfl
theorem dX10_castVotes_46 : decode cX10_castVotes 46 = .ok (.iload_n 1, 1) := zrD zrw_cX10_castVotes_30 (i := 16) (by decide +kernel) rfl
theorem dX10_castVotes_47 : decode cX10_castVotes 47 = .ok (.ifCond .ne 7, 3) := zrD zrw_cX10_castVotes_30 (i := 17) (by decide +kernel) rfl
theorem dX10_castVotes_50 : decode cX10_castVotes 50 = .ok (.iload_n 3, 1) := zrD zrw_cX10_castVotes_30 (i := 20) (by decide +kernel) rfl
theorem dX10_castVotes_51 : decode cX10_castVotes 51 = .ok (.goto 13, 3) := zrD zrw_cX10_castVotes_30 (i := 21) (by decide +kernel) rfl
theorem dX10_castVotes_54 : decode cX10_castVotes 54 = .ok (.aload_n 0, 1) := zrD zrw_cX10_castVotes_30 (i := 24) (by decide +kernel) rfl
theorem dX10_castVotes_55 : decode cX10_castVotes 55 = .ok (.getfield 63, 3) := zrD zrw_cX10_castVotes_30 (i := 25) (by decide +kernel) rfl
theorem dX10_castVotes_58 : decode cX10_castVotes 58 = .ok (.iload_n 2, 1) := zrD zrw_cX10_castVotes_30 (i := 28) (by decide +kernel) rfl
theorem dX10_castVotes_59 : decode cX10_castVotes 59 = .ok (.iaload, 1) := zrD zrw_cX10_castVotes_30 (i := 29) (by decide +kernel) rfl
theorem dX10_castVotes_60 : decode cX10_castVotes 60 = .ok (.iload_n 3, 1) := zrD zrw_cX10_castVotes_30 (i := 30) (by decide +kernel) rfl
def zrk_cX10_castVotes_61 : ByteArray := .mk #[184, 1, 6, 79, 132, 2, 1, 167, 255, 205, 132, 1, 1, 167, 255, 184, 177]
theorem zrw_cX10_castVotes_61 : zrW 61 cX10_castVotes zrk_cX10_castVotes_61 := by unfold zrW; decide +kernel
theorem dX10_castVotes_61 : decode cX10_castVotes 61 = .ok (.invokestatic 262, 3) := zrD zrw_cX10_castVotes_61 (i := 0) (by decide +kernel) rfl
theorem dX10_castVotes_64 : decode cX10_castVotes 64 = .ok (.iastore, 1) := zrD zrw_cX10_castVotes_61 (i := 3) (by decide +kernel) rfl
theorem dX10_castVotes_65 : decode cX10_castVotes 65 = .ok (.iinc 2 1, 3) := zrD zrw_cX10_castVotes_61 (i := 4) (by decide +kernel) rfl
theorem dX10_castVotes_68 : decode cX10_castVotes 68 = .ok (.goto (-51), 3) := zrD zrw_cX10_castVotes_61 (i := 7) (by decide +kernel) rfl
theorem dX10_castVotes_71 : decode cX10_castVotes 71 = .ok (.iinc 1 1, 3) := zrD zrw_cX10_castVotes_61 (i := 10) (by decide +kernel) rfl
theorem dX10_castVotes_74 : decode cX10_castVotes 74 = .ok (.goto (-72), 3) := zrD zrw_cX10_castVotes_61 (i := 13) (by decide +kernel) rfl
theorem dX10_castVotes_77 : decode cX10_castVotes 77 = .ok (.return_, 1) := zrD zrw_cX10_castVotes_61 (i := 16) (by decide +kernel) rfl
def zrk_cX10_votesFor_0 : ByteArray := .mk #[3, 61, 4, 62, 29, 42, 180, 0, 70, 180, 0, 175, 162, 0, 35, 42, 180, 0, 34, 29, 182, 0, 146, 153, 0, 18, 42, 180, 0, 63, 29, 46]
theorem zrw_cX10_votesFor_0 : zrW 0 cX10_votesFor zrk_cX10_votesFor_0 := by unfold zrW; decide +kernel
theorem dX10_votesFor_0 : decode cX10_votesFor 0 = .ok (.iconst 0, 1) := zrD zrw_cX10_votesFor_0 (i := 0) (by decide +kernel) rfl
theorem dX10_votesFor_1 : decode cX10_votesFor 1 = .ok (.istore_n 2, 1) := zrD zrw_cX10_votesFor_0 (i := 1) (by decide +kernel) rfl
theorem dX10_votesFor_2 : decode cX10_votesFor 2 = .ok (.iconst 1, 1) := zrD zrw_cX10_votesFor_0 (i := 2) (by decide +kernel) rfl
theorem dX10_votesFor_3 : decode cX10_votesFor 3 = .ok (.istore_n 3, 1) := zrD zrw_cX10_votesFor_0 (i := 3) (by decide +kernel) rfl
theorem dX10_votesFor_4 : decode cX10_votesFor 4 = .ok (.iload_n 3, 1) := zrD zrw_cX10_votesFor_0 (i := 4) (by decide +kernel) rfl
theorem dX10_votesFor_5 : decode cX10_votesFor 5 = .ok (.aload_n 0, 1) := zrD zrw_cX10_votesFor_0 (i := 5) (by decide +kernel) rfl
theorem dX10_votesFor_6 : decode cX10_votesFor 6 = .ok (.getfield 70, 3) := zrD zrw_cX10_votesFor_0 (i := 6) (by decide +kernel) rfl
theorem dX10_votesFor_9 : decode cX10_votesFor 9 = .ok (.getfield 175, 3) := zrD zrw_cX10_votesFor_0 (i := 9) (by decide +kernel) rfl
theorem dX10_votesFor_12 : decode cX10_votesFor 12 = .ok (.if_icmp .ge 35, 3) := zrD zrw_cX10_votesFor_0 (i := 12) (by decide +kernel) rfl
theorem dX10_votesFor_15 : decode cX10_votesFor 15 = .ok (.aload_n 0, 1) := zrD zrw_cX10_votesFor_0 (i := 15) (by decide +kernel) rfl
theorem dX10_votesFor_16 : decode cX10_votesFor 16 = .ok (.getfield 34, 3) := zrD zrw_cX10_votesFor_0 (i := 16) (by decide +kernel) rfl
theorem dX10_votesFor_19 : decode cX10_votesFor 19 = .ok (.iload_n 3, 1) := zrD zrw_cX10_votesFor_0 (i := 19) (by decide +kernel) rfl
theorem dX10_votesFor_20 : decode cX10_votesFor 20 = .ok (.invokevirtual 146, 3) := zrD zrw_cX10_votesFor_0 (i := 20) (by decide +kernel) rfl
theorem dX10_votesFor_23 : decode cX10_votesFor 23 = .ok (.ifCond .eq 18, 3) := zrD zrw_cX10_votesFor_0 (i := 23) (by decide +kernel) rfl
theorem dX10_votesFor_26 : decode cX10_votesFor 26 = .ok (.aload_n 0, 1) := zrD zrw_cX10_votesFor_0 (i := 26) (by decide +kernel) rfl
theorem dX10_votesFor_27 : decode cX10_votesFor 27 = .ok (.getfield 63, 3) := zrD zrw_cX10_votesFor_0 (i := 27) (by decide +kernel) rfl
theorem dX10_votesFor_30 : decode cX10_votesFor 30 = .ok (.iload_n 3, 1) := zrD zrw_cX10_votesFor_0 (i := 30) (by decide +kernel) rfl
theorem dX10_votesFor_31 : decode cX10_votesFor 31 = .ok (.iaload, 1) := zrD zrw_cX10_votesFor_0 (i := 31) (by decide +kernel) rfl
def zrk_cX10_votesFor_32 : ByteArray := .mk #[6, 112, 27, 160, 0, 6, 132, 2, 1, 132, 3, 1, 167, 255, 216, 28, 172]
theorem zrw_cX10_votesFor_32 : zrW 32 cX10_votesFor zrk_cX10_votesFor_32 := by unfold zrW; decide +kernel
theorem dX10_votesFor_32 : decode cX10_votesFor 32 = .ok (.iconst 3, 1) := zrD zrw_cX10_votesFor_32 (i := 0) (by decide +kernel) rfl
theorem dX10_votesFor_33 : decode cX10_votesFor 33 = .ok (.irem, 1) := zrD zrw_cX10_votesFor_32 (i := 1) (by decide +kernel) rfl
theorem dX10_votesFor_34 : decode cX10_votesFor 34 = .ok (.iload_n 1, 1) := zrD zrw_cX10_votesFor_32 (i := 2) (by decide +kernel) rfl
theorem dX10_votesFor_35 : decode cX10_votesFor 35 = .ok (.if_icmp .ne 6, 3) := zrD zrw_cX10_votesFor_32 (i := 3) (by decide +kernel) rfl
theorem dX10_votesFor_38 : decode cX10_votesFor 38 = .ok (.iinc 2 1, 3) := zrD zrw_cX10_votesFor_32 (i := 6) (by decide +kernel) rfl
theorem dX10_votesFor_41 : decode cX10_votesFor 41 = .ok (.iinc 3 1, 3) := zrD zrw_cX10_votesFor_32 (i := 9) (by decide +kernel) rfl
theorem dX10_votesFor_44 : decode cX10_votesFor 44 = .ok (.goto (-40), 3) := zrD zrw_cX10_votesFor_32 (i := 12) (by decide +kernel) rfl
theorem dX10_votesFor_47 : decode cX10_votesFor 47 = .ok (.iload_n 2, 1) := zrD zrw_cX10_votesFor_32 (i := 15) (by decide +kernel) rfl
theorem dX10_votesFor_48 : decode cX10_votesFor 48 = .ok (.ireturn, 1) := zrD zrw_cX10_votesFor_32 (i := 16) (by decide +kernel) rfl
def zrk_cX10_richest_0 : ByteArray := .mk #[27, 3, 4, 184, 0, 229, 154, 0, 5, 2, 172, 3, 61, 4, 62, 29, 42, 180, 0, 70, 180, 0, 175, 162, 0, 32, 42, 180, 0, 52]
theorem zrw_cX10_richest_0 : zrW 0 cX10_richest zrk_cX10_richest_0 := by unfold zrW; decide +kernel
theorem dX10_richest_0 : decode cX10_richest 0 = .ok (.iload_n 1, 1) := zrD zrw_cX10_richest_0 (i := 0) (by decide +kernel) rfl
theorem dX10_richest_1 : decode cX10_richest 1 = .ok (.iconst 0, 1) := zrD zrw_cX10_richest_0 (i := 1) (by decide +kernel) rfl
theorem dX10_richest_2 : decode cX10_richest 2 = .ok (.iconst 1, 1) := zrD zrw_cX10_richest_0 (i := 2) (by decide +kernel) rfl
theorem dX10_richest_3 : decode cX10_richest 3 = .ok (.invokestatic 229, 3) := zrD zrw_cX10_richest_0 (i := 3) (by decide +kernel) rfl
theorem dX10_richest_6 : decode cX10_richest 6 = .ok (.ifCond .ne 5, 3) := zrD zrw_cX10_richest_0 (i := 6) (by decide +kernel) rfl
theorem dX10_richest_9 : decode cX10_richest 9 = .ok (.iconst (-1), 1) := zrD zrw_cX10_richest_0 (i := 9) (by decide +kernel) rfl
theorem dX10_richest_10 : decode cX10_richest 10 = .ok (.ireturn, 1) := zrD zrw_cX10_richest_0 (i := 10) (by decide +kernel) rfl
theorem dX10_richest_11 : decode cX10_richest 11 = .ok (.iconst 0, 1) := zrD zrw_cX10_richest_0 (i := 11) (by decide +kernel) rfl
theorem dX10_richest_12 : decode cX10_richest 12 = .ok (.istore_n 2, 1) := zrD zrw_cX10_richest_0 (i := 12) (by decide +kernel) rfl
theorem dX10_richest_13 : decode cX10_richest 13 = .ok (.iconst 1, 1) := zrD zrw_cX10_richest_0 (i := 13) (by decide +kernel) rfl
theorem dX10_richest_14 : decode cX10_richest 14 = .ok (.istore_n 3, 1) := zrD zrw_cX10_richest_0 (i := 14) (by decide +kernel) rfl
theorem dX10_richest_15 : decode cX10_richest 15 = .ok (.iload_n 3, 1) := zrD zrw_cX10_richest_0 (i := 15) (by decide +kernel) rfl
theorem dX10_richest_16 : decode cX10_richest 16 = .ok (.aload_n 0, 1) := zrD zrw_cX10_richest_0 (i := 16) (by decide +kernel) rfl
theorem dX10_richest_17 : decode cX10_richest 17 = .ok (.getfield 70, 3) := zrD zrw_cX10_richest_0 (i := 17) (by decide +kernel) rfl
theorem dX10_richest_20 : decode cX10_richest 20 = .ok (.getfield 175, 3) := zrD zrw_cX10_richest_0 (i := 20) (by decide +kernel) rfl
theorem dX10_richest_23 : decode cX10_richest 23 = .ok (.if_icmp .ge 32, 3) := zrD zrw_cX10_richest_0 (i := 23) (by decide +kernel) rfl
theorem dX10_richest_26 : decode cX10_richest 26 = .ok (.aload_n 0, 1) := zrD zrw_cX10_richest_0 (i := 26) (by decide +kernel) rfl
theorem dX10_richest_27 : decode cX10_richest 27 = .ok (.getfield 52, 3) := zrD zrw_cX10_richest_0 (i := 27) (by decide +kernel) rfl
def zrk_cX10_richest_30 : ByteArray := .mk #[180, 0, 152, 29, 46, 42, 180, 0, 52, 180, 0, 152, 28, 46, 164, 0, 5, 29, 61, 132, 3, 1, 167, 255, 219, 42, 180, 0, 52, 180, 0, 152]
theorem zrw_cX10_richest_30 : zrW 30 cX10_richest zrk_cX10_richest_30 := by unfold zrW; decide +kernel
theorem dX10_richest_30 : decode cX10_richest 30 = .ok (.getfield 152, 3) := zrD zrw_cX10_richest_30 (i := 0) (by decide +kernel) rfl
theorem dX10_richest_33 : decode cX10_richest 33 = .ok (.iload_n 3, 1) := zrD zrw_cX10_richest_30 (i := 3) (by decide +kernel) rfl
theorem dX10_richest_34 : decode cX10_richest 34 = .ok (.iaload, 1) := zrD zrw_cX10_richest_30 (i := 4) (by decide +kernel) rfl
theorem dX10_richest_35 : decode cX10_richest 35 = .ok (.aload_n 0, 1) := zrD zrw_cX10_richest_30 (i := 5) (by decide +kernel) rfl
theorem dX10_richest_36 : decode cX10_richest 36 = .ok (.getfield 52, 3) := zrD zrw_cX10_richest_30 (i := 6) (by decide +kernel) rfl
theorem dX10_richest_39 : decode cX10_richest 39 = .ok (.getfield 152, 3) := zrD zrw_cX10_richest_30 (i := 9) (by decide +kernel) rfl
theorem dX10_richest_42 : decode cX10_richest 42 = .ok (.iload_n 2, 1) := zrD zrw_cX10_richest_30 (i := 12) (by decide +kernel) rfl
theorem dX10_richest_43 : decode cX10_richest 43 = .ok (.iaload, 1) := zrD zrw_cX10_richest_30 (i := 13) (by decide +kernel) rfl
theorem dX10_richest_44 : decode cX10_richest 44 = .ok (.if_icmp .le 5, 3) := zrD zrw_cX10_richest_30 (i := 14) (by decide +kernel) rfl
theorem dX10_richest_47 : decode cX10_richest 47 = .ok (.iload_n 3, 1) := zrD zrw_cX10_richest_30 (i := 17) (by decide +kernel) rfl
theorem dX10_richest_48 : decode cX10_richest 48 = .ok (.istore_n 2, 1) := zrD zrw_cX10_richest_30 (i := 18) (by decide +kernel) rfl
theorem dX10_richest_49 : decode cX10_richest 49 = .ok (.iinc 3 1, 3) := zrD zrw_cX10_richest_30 (i := 19) (by decide +kernel) rfl
theorem dX10_richest_52 : decode cX10_richest 52 = .ok (.goto (-37), 3) := zrD zrw_cX10_richest_30 (i := 22) (by decide +kernel) rfl
theorem dX10_richest_55 : decode cX10_richest 55 = .ok (.aload_n 0, 1) := zrD zrw_cX10_richest_30 (i := 25) (by decide +kernel) rfl
theorem dX10_richest_56 : decode cX10_richest 56 = .ok (.getfield 52, 3) := zrD zrw_cX10_richest_30 (i := 26) (by decide +kernel) rfl
theorem dX10_richest_59 : decode cX10_richest 59 = .ok (.getfield 152, 3) := zrD zrw_cX10_richest_30 (i := 29) (by decide +kernel) rfl
def zrk_cX10_richest_62 : ByteArray := .mk #[28, 46, 154, 0, 6, 16, 254, 172, 27, 154, 0, 7, 28, 167, 0, 12, 42, 180, 0, 52, 180, 0, 152, 28, 46, 172]
theorem zrw_cX10_richest_62 : zrW 62 cX10_richest zrk_cX10_richest_62 := by unfold zrW; decide +kernel
theorem dX10_richest_62 : decode cX10_richest 62 = .ok (.iload_n 2, 1) := zrD zrw_cX10_richest_62 (i := 0) (by decide +kernel) rfl
theorem dX10_richest_63 : decode cX10_richest 63 = .ok (.iaload, 1) := zrD zrw_cX10_richest_62 (i := 1) (by decide +kernel) rfl
theorem dX10_richest_64 : decode cX10_richest 64 = .ok (.ifCond .ne 6, 3) := zrD zrw_cX10_richest_62 (i := 2) (by decide +kernel) rfl
theorem dX10_richest_67 : decode cX10_richest 67 = .ok (.bipush (-2), 2) := zrD zrw_cX10_richest_62 (i := 5) (by decide +kernel) rfl
theorem dX10_richest_69 : decode cX10_richest 69 = .ok (.ireturn, 1) := zrD zrw_cX10_richest_62 (i := 7) (by decide +kernel) rfl
theorem dX10_richest_70 : decode cX10_richest 70 = .ok (.iload_n 1, 1) := zrD zrw_cX10_richest_62 (i := 8) (by decide +kernel) rfl
theorem dX10_richest_71 : decode cX10_richest 71 = .ok (.ifCond .ne 7, 3) := zrD zrw_cX10_richest_62 (i := 9) (by decide +kernel) rfl
theorem dX10_richest_74 : decode cX10_richest 74 = .ok (.iload_n 2, 1) := zrD zrw_cX10_richest_62 (i := 12) (by decide +kernel) rfl
theorem dX10_richest_75 : decode cX10_richest 75 = .ok (.goto 12, 3) := zrD zrw_cX10_richest_62 (i := 13) (by decide +kernel) rfl
theorem dX10_richest_78 : decode cX10_richest 78 = .ok (.aload_n 0, 1) := zrD zrw_cX10_richest_62 (i := 16) (by decide +kernel) rfl
theorem dX10_richest_79 : decode cX10_richest 79 = .ok (.getfield 52, 3) := zrD zrw_cX10_richest_62 (i := 17) (by decide +kernel) rfl
theorem dX10_richest_82 : decode cX10_richest 82 = .ok (.getfield 152, 3) := zrD zrw_cX10_richest_62 (i := 20) (by decide +kernel) rfl
theorem dX10_richest_85 : decode cX10_richest 85 = .ok (.iload_n 2, 1) := zrD zrw_cX10_richest_62 (i := 23) (by decide +kernel) rfl
theorem dX10_richest_86 : decode cX10_richest 86 = .ok (.iaload, 1) := zrD zrw_cX10_richest_62 (i := 24) (by decide +kernel) rfl
theorem dX10_richest_87 : decode cX10_richest 87 = .ok (.ireturn, 1) := zrD zrw_cX10_richest_62 (i := 25) (by decide +kernel) rfl
def zrk_cX10_turnFor_0 : ByteArray := .mk #[42, 27, 28, 182, 0, 162, 154, 0, 5, 2, 172, 4, 62, 29, 42, 180, 0, 70, 180, 0, 175, 162, 0, 65, 3, 54, 4, 21, 4, 42]
theorem zrw_cX10_turnFor_0 : zrW 0 cX10_turnFor zrk_cX10_turnFor_0 := by unfold zrW; decide +kernel
theorem dX10_turnFor_0 : decode cX10_turnFor 0 = .ok (.aload_n 0, 1) := zrD zrw_cX10_turnFor_0 (i := 0) (by decide +kernel) rfl
theorem dX10_turnFor_1 : decode cX10_turnFor 1 = .ok (.iload_n 1, 1) := zrD zrw_cX10_turnFor_0 (i := 1) (by decide +kernel) rfl
theorem dX10_turnFor_2 : decode cX10_turnFor 2 = .ok (.iload_n 2, 1) := zrD zrw_cX10_turnFor_0 (i := 2) (by decide +kernel) rfl
theorem dX10_turnFor_3 : decode cX10_turnFor 3 = .ok (.invokevirtual 162, 3) := zrD zrw_cX10_turnFor_0 (i := 3) (by decide +kernel) rfl
theorem dX10_turnFor_6 : decode cX10_turnFor 6 = .ok (.ifCond .ne 5, 3) := zrD zrw_cX10_turnFor_0 (i := 6) (by decide +kernel) rfl
theorem dX10_turnFor_9 : decode cX10_turnFor 9 = .ok (.iconst (-1), 1) := zrD zrw_cX10_turnFor_0 (i := 9) (by decide +kernel) rfl
theorem dX10_turnFor_10 : decode cX10_turnFor 10 = .ok (.ireturn, 1) := zrD zrw_cX10_turnFor_0 (i := 10) (by decide +kernel) rfl
theorem dX10_turnFor_11 : decode cX10_turnFor 11 = .ok (.iconst 1, 1) := zrD zrw_cX10_turnFor_0 (i := 11) (by decide +kernel) rfl
theorem dX10_turnFor_12 : decode cX10_turnFor 12 = .ok (.istore_n 3, 1) := zrD zrw_cX10_turnFor_0 (i := 12) (by decide +kernel) rfl
theorem dX10_turnFor_13 : decode cX10_turnFor 13 = .ok (.iload_n 3, 1) := zrD zrw_cX10_turnFor_0 (i := 13) (by decide +kernel) rfl
theorem dX10_turnFor_14 : decode cX10_turnFor 14 = .ok (.aload_n 0, 1) := zrD zrw_cX10_turnFor_0 (i := 14) (by decide +kernel) rfl
theorem dX10_turnFor_15 : decode cX10_turnFor 15 = .ok (.getfield 70, 3) := zrD zrw_cX10_turnFor_0 (i := 15) (by decide +kernel) rfl
theorem dX10_turnFor_18 : decode cX10_turnFor 18 = .ok (.getfield 175, 3) := zrD zrw_cX10_turnFor_0 (i := 18) (by decide +kernel) rfl
theorem dX10_turnFor_21 : decode cX10_turnFor 21 = .ok (.if_icmp .ge 65, 3) := zrD zrw_cX10_turnFor_0 (i := 21) (by decide +kernel) rfl
theorem dX10_turnFor_24 : decode cX10_turnFor 24 = .ok (.iconst 0, 1) := zrD zrw_cX10_turnFor_0 (i := 24) (by decide +kernel) rfl
theorem dX10_turnFor_25 : decode cX10_turnFor 25 = .ok (.istore 4, 2) := zrD zrw_cX10_turnFor_0 (i := 25) (by decide +kernel) rfl
theorem dX10_turnFor_27 : decode cX10_turnFor 27 = .ok (.iload 4, 2) := zrD zrw_cX10_turnFor_0 (i := 27) (by decide +kernel) rfl
theorem dX10_turnFor_29 : decode cX10_turnFor 29 = .ok (.aload_n 0, 1) := zrD zrw_cX10_turnFor_0 (i := 29) (by decide +kernel) rfl
def zrk_cX10_turnFor_30 : ByteArray := .mk #[180, 0, 70, 180, 0, 175, 162, 0, 44, 29, 27, 159, 0, 33, 42, 29, 21, 4, 182, 0, 223, 153, 0, 23, 42, 27, 28, 29, 21, 4]
theorem zrw_cX10_turnFor_30 : zrW 30 cX10_turnFor zrk_cX10_turnFor_30 := by unfold zrW; decide +kernel
theorem dX10_turnFor_30 : decode cX10_turnFor 30 = .ok (.getfield 70, 3) := zrD zrw_cX10_turnFor_30 (i := 0) (by decide +kernel) rfl
theorem dX10_turnFor_33 : decode cX10_turnFor 33 = .ok (.getfield 175, 3) := zrD zrw_cX10_turnFor_30 (i := 3) (by decide +kernel) rfl
theorem dX10_turnFor_36 : decode cX10_turnFor 36 = .ok (.if_icmp .ge 44, 3) := zrD zrw_cX10_turnFor_30 (i := 6) (by decide +kernel) rfl
theorem dX10_turnFor_39 : decode cX10_turnFor 39 = .ok (.iload_n 3, 1) := zrD zrw_cX10_turnFor_30 (i := 9) (by decide +kernel) rfl
theorem dX10_turnFor_40 : decode cX10_turnFor 40 = .ok (.iload_n 1, 1) := zrD zrw_cX10_turnFor_30 (i := 10) (by decide +kernel) rfl
theorem dX10_turnFor_41 : decode cX10_turnFor 41 = .ok (.if_icmp .eq 33, 3) := zrD zrw_cX10_turnFor_30 (i := 11) (by decide +kernel) rfl
theorem dX10_turnFor_44 : decode cX10_turnFor 44 = .ok (.aload_n 0, 1) := zrD zrw_cX10_turnFor_30 (i := 14) (by decide +kernel) rfl
theorem dX10_turnFor_45 : decode cX10_turnFor 45 = .ok (.iload_n 3, 1) := zrD zrw_cX10_turnFor_30 (i := 15) (by decide +kernel) rfl
theorem dX10_turnFor_46 : decode cX10_turnFor 46 = .ok (.iload 4, 2) := zrD zrw_cX10_turnFor_30 (i := 16) (by decide +kernel) rfl
theorem dX10_turnFor_48 : decode cX10_turnFor 48 = .ok (.invokevirtual 223, 3) := zrD zrw_cX10_turnFor_30 (i := 18) (by decide +kernel) rfl
theorem dX10_turnFor_51 : decode cX10_turnFor 51 = .ok (.ifCond .eq 23, 3) := zrD zrw_cX10_turnFor_30 (i := 21) (by decide +kernel) rfl
theorem dX10_turnFor_54 : decode cX10_turnFor 54 = .ok (.aload_n 0, 1) := zrD zrw_cX10_turnFor_30 (i := 24) (by decide +kernel) rfl
theorem dX10_turnFor_55 : decode cX10_turnFor 55 = .ok (.iload_n 1, 1) := zrD zrw_cX10_turnFor_30 (i := 25) (by decide +kernel) rfl
theorem dX10_turnFor_56 : decode cX10_turnFor 56 = .ok (.iload_n 2, 1) := zrD zrw_cX10_turnFor_30 (i := 26) (by decide +kernel) rfl
theorem dX10_turnFor_57 : decode cX10_turnFor 57 = .ok (.iload_n 3, 1) := zrD zrw_cX10_turnFor_30 (i := 27) (by decide +kernel) rfl
theorem dX10_turnFor_58 : decode cX10_turnFor 58 = .ok (.iload 4, 2) := zrD zrw_cX10_turnFor_30 (i := 28) (by decide +kernel) rfl
def zrk_cX10_turnFor_60 : ByteArray := .mk #[182, 1, 11, 153, 0, 11, 16, 100, 29, 104, 21, 4, 96, 172, 132, 4, 1, 167, 255, 206, 132, 3, 1, 167, 255, 186, 16, 254, 172]
theorem zrw_cX10_turnFor_60 : zrW 60 cX10_turnFor zrk_cX10_turnFor_60 := by unfold zrW; decide +kernel
theorem dX10_turnFor_60 : decode cX10_turnFor 60 = .ok (.invokevirtual 267, 3) := zrD zrw_cX10_turnFor_60 (i := 0) (by decide +kernel) rfl
theorem dX10_turnFor_63 : decode cX10_turnFor 63 = .ok (.ifCond .eq 11, 3) := zrD zrw_cX10_turnFor_60 (i := 3) (by decide +kernel) rfl
theorem dX10_turnFor_66 : decode cX10_turnFor 66 = .ok (.bipush 100, 2) := zrD zrw_cX10_turnFor_60 (i := 6) (by decide +kernel) rfl
theorem dX10_turnFor_68 : decode cX10_turnFor 68 = .ok (.iload_n 3, 1) := zrD zrw_cX10_turnFor_60 (i := 8) (by decide +kernel) rfl
theorem dX10_turnFor_69 : decode cX10_turnFor 69 = .ok (.imul, 1) := zrD zrw_cX10_turnFor_60 (i := 9) (by decide +kernel) rfl
theorem dX10_turnFor_70 : decode cX10_turnFor 70 = .ok (.iload 4, 2) := zrD zrw_cX10_turnFor_60 (i := 10) (by decide +kernel) rfl
theorem dX10_turnFor_72 : decode cX10_turnFor 72 = .ok (.iadd, 1) := zrD zrw_cX10_turnFor_60 (i := 12) (by decide +kernel) rfl
theorem dX10_turnFor_73 : decode cX10_turnFor 73 = .ok (.ireturn, 1) := zrD zrw_cX10_turnFor_60 (i := 13) (by decide +kernel) rfl
theorem dX10_turnFor_74 : decode cX10_turnFor 74 = .ok (.iinc 4 1, 3) := zrD zrw_cX10_turnFor_60 (i := 14) (by decide +kernel) rfl
theorem dX10_turnFor_77 : decode cX10_turnFor 77 = .ok (.goto (-50), 3) := zrD zrw_cX10_turnFor_60 (i := 17) (by decide +kernel) rfl
theorem dX10_turnFor_80 : decode cX10_turnFor 80 = .ok (.iinc 3 1, 3) := zrD zrw_cX10_turnFor_60 (i := 20) (by decide +kernel) rfl
theorem dX10_turnFor_83 : decode cX10_turnFor 83 = .ok (.goto (-70), 3) := zrD zrw_cX10_turnFor_60 (i := 23) (by decide +kernel) rfl
theorem dX10_turnFor_86 : decode cX10_turnFor 86 = .ok (.bipush (-2), 2) := zrD zrw_cX10_turnFor_60 (i := 26) (by decide +kernel) rfl
theorem dX10_turnFor_88 : decode cX10_turnFor 88 = .ok (.ireturn, 1) := zrD zrw_cX10_turnFor_60 (i := 28) (by decide +kernel) rfl
def zrk_cX10_winsTurned_0 : ByteArray := .mk #[42, 180, 0, 56, 42, 180, 0, 52, 182, 0, 241, 42, 180, 0, 56, 180, 0, 116, 29, 21, 4, 79, 42, 180, 0, 26, 42, 180, 0, 70, 42]
theorem zrw_cX10_winsTurned_0 : zrW 0 cX10_winsTurned zrk_cX10_winsTurned_0 := by unfold zrW; decide +kernel
theorem dX10_winsTurned_0 : decode cX10_winsTurned 0 = .ok (.aload_n 0, 1) := zrD zrw_cX10_winsTurned_0 (i := 0) (by decide +kernel) rfl
theorem dX10_winsTurned_1 : decode cX10_winsTurned 1 = .ok (.getfield 56, 3) := zrD zrw_cX10_winsTurned_0 (i := 1) (by decide +kernel) rfl
theorem dX10_winsTurned_4 : decode cX10_winsTurned 4 = .ok (.aload_n 0, 1) := zrD zrw_cX10_winsTurned_0 (i := 4) (by decide +kernel) rfl
theorem dX10_winsTurned_5 : decode cX10_winsTurned 5 = .ok (.getfield 52, 3) := zrD zrw_cX10_winsTurned_0 (i := 5) (by decide +kernel) rfl
theorem dX10_winsTurned_8 : decode cX10_winsTurned 8 = .ok (.invokevirtual 241, 3) := zrD zrw_cX10_winsTurned_0 (i := 8) (by decide +kernel) rfl
theorem dX10_winsTurned_11 : decode cX10_winsTurned 11 = .ok (.aload_n 0, 1) := zrD zrw_cX10_winsTurned_0 (i := 11) (by decide +kernel) rfl
theorem dX10_winsTurned_12 : decode cX10_winsTurned 12 = .ok (.getfield 56, 3) := zrD zrw_cX10_winsTurned_0 (i := 12) (by decide +kernel) rfl
theorem dX10_winsTurned_15 : decode cX10_winsTurned 15 = .ok (.getfield 116, 3) := zrD zrw_cX10_winsTurned_0 (i := 15) (by decide +kernel) rfl
theorem dX10_winsTurned_18 : decode cX10_winsTurned 18 = .ok (.iload_n 3, 1) := zrD zrw_cX10_winsTurned_0 (i := 18) (by decide +kernel) rfl
theorem dX10_winsTurned_19 : decode cX10_winsTurned 19 = .ok (.iload 4, 2) := zrD zrw_cX10_winsTurned_0 (i := 19) (by decide +kernel) rfl
theorem dX10_winsTurned_21 : decode cX10_winsTurned 21 = .ok (.iastore, 1) := zrD zrw_cX10_winsTurned_0 (i := 21) (by decide +kernel) rfl
theorem dX10_winsTurned_22 : decode cX10_winsTurned 22 = .ok (.aload_n 0, 1) := zrD zrw_cX10_winsTurned_0 (i := 22) (by decide +kernel) rfl
theorem dX10_winsTurned_23 : decode cX10_winsTurned 23 = .ok (.getfield 26, 3) := zrD zrw_cX10_winsTurned_0 (i := 23) (by decide +kernel) rfl
theorem dX10_winsTurned_26 : decode cX10_winsTurned 26 = .ok (.aload_n 0, 1) := zrD zrw_cX10_winsTurned_0 (i := 26) (by decide +kernel) rfl
theorem dX10_winsTurned_27 : decode cX10_winsTurned 27 = .ok (.getfield 70, 3) := zrD zrw_cX10_winsTurned_0 (i := 27) (by decide +kernel) rfl
theorem dX10_winsTurned_30 : decode cX10_winsTurned 30 = .ok (.aload_n 0, 1) := zrD zrw_cX10_winsTurned_0 (i := 30) (by decide +kernel) rfl
def zrk_cX10_winsTurned_31 : ByteArray := .mk #[180, 0, 56, 182, 1, 15, 42, 180, 0, 26, 28, 182, 0, 172, 27, 160, 0, 7, 4, 167, 0, 4, 3, 172]
theorem zrw_cX10_winsTurned_31 : zrW 31 cX10_winsTurned zrk_cX10_winsTurned_31 := by unfold zrW; decide +kernel
theorem dX10_winsTurned_31 : decode cX10_winsTurned 31 = .ok (.getfield 56, 3) := zrD zrw_cX10_winsTurned_31 (i := 0) (by decide +kernel) rfl
theorem dX10_winsTurned_34 : decode cX10_winsTurned 34 = .ok (.invokevirtual 271, 3) := zrD zrw_cX10_winsTurned_31 (i := 3) (by decide +kernel) rfl
theorem dX10_winsTurned_37 : decode cX10_winsTurned 37 = .ok (.aload_n 0, 1) := zrD zrw_cX10_winsTurned_31 (i := 6) (by decide +kernel) rfl
theorem dX10_winsTurned_38 : decode cX10_winsTurned 38 = .ok (.getfield 26, 3) := zrD zrw_cX10_winsTurned_31 (i := 7) (by decide +kernel) rfl
theorem dX10_winsTurned_41 : decode cX10_winsTurned 41 = .ok (.iload_n 2, 1) := zrD zrw_cX10_winsTurned_31 (i := 10) (by decide +kernel) rfl
theorem dX10_winsTurned_42 : decode cX10_winsTurned 42 = .ok (.invokevirtual 172, 3) := zrD zrw_cX10_winsTurned_31 (i := 11) (by decide +kernel) rfl
theorem dX10_winsTurned_45 : decode cX10_winsTurned 45 = .ok (.iload_n 1, 1) := zrD zrw_cX10_winsTurned_31 (i := 14) (by decide +kernel) rfl
theorem dX10_winsTurned_46 : decode cX10_winsTurned 46 = .ok (.if_icmp .ne 7, 3) := zrD zrw_cX10_winsTurned_31 (i := 15) (by decide +kernel) rfl
theorem dX10_winsTurned_49 : decode cX10_winsTurned 49 = .ok (.iconst 1, 1) := zrD zrw_cX10_winsTurned_31 (i := 18) (by decide +kernel) rfl
theorem dX10_winsTurned_50 : decode cX10_winsTurned 50 = .ok (.goto 4, 3) := zrD zrw_cX10_winsTurned_31 (i := 19) (by decide +kernel) rfl
theorem dX10_winsTurned_53 : decode cX10_winsTurned 53 = .ok (.iconst 0, 1) := zrD zrw_cX10_winsTurned_31 (i := 22) (by decide +kernel) rfl
theorem dX10_winsTurned_54 : decode cX10_winsTurned 54 = .ok (.ireturn, 1) := zrD zrw_cX10_winsTurned_31 (i := 23) (by decide +kernel) rfl
def zrk_cX10_damFor_0 : ByteArray := .mk #[42, 27, 28, 182, 0, 162, 154, 0, 5, 2, 172, 4, 62, 29, 42, 180, 0, 70, 180, 0, 175, 162, 0, 56, 42, 180, 0, 52, 180, 0, 128, 29]
theorem zrw_cX10_damFor_0 : zrW 0 cX10_damFor zrk_cX10_damFor_0 := by unfold zrW; decide +kernel
theorem dX10_damFor_0 : decode cX10_damFor 0 = .ok (.aload_n 0, 1) := zrD zrw_cX10_damFor_0 (i := 0) (by decide +kernel) rfl
theorem dX10_damFor_1 : decode cX10_damFor 1 = .ok (.iload_n 1, 1) := zrD zrw_cX10_damFor_0 (i := 1) (by decide +kernel) rfl
theorem dX10_damFor_2 : decode cX10_damFor 2 = .ok (.iload_n 2, 1) := zrD zrw_cX10_damFor_0 (i := 2) (by decide +kernel) rfl
theorem dX10_damFor_3 : decode cX10_damFor 3 = .ok (.invokevirtual 162, 3) := zrD zrw_cX10_damFor_0 (i := 3) (by decide +kernel) rfl
theorem dX10_damFor_6 : decode cX10_damFor 6 = .ok (.ifCond .ne 5, 3) := zrD zrw_cX10_damFor_0 (i := 6) (by decide +kernel) rfl
theorem dX10_damFor_9 : decode cX10_damFor 9 = .ok (.iconst (-1), 1) := zrD zrw_cX10_damFor_0 (i := 9) (by decide +kernel) rfl
theorem dX10_damFor_10 : decode cX10_damFor 10 = .ok (.ireturn, 1) := zrD zrw_cX10_damFor_0 (i := 10) (by decide +kernel) rfl
theorem dX10_damFor_11 : decode cX10_damFor 11 = .ok (.iconst 1, 1) := zrD zrw_cX10_damFor_0 (i := 11) (by decide +kernel) rfl
theorem dX10_damFor_12 : decode cX10_damFor 12 = .ok (.istore_n 3, 1) := zrD zrw_cX10_damFor_0 (i := 12) (by decide +kernel) rfl
theorem dX10_damFor_13 : decode cX10_damFor 13 = .ok (.iload_n 3, 1) := zrD zrw_cX10_damFor_0 (i := 13) (by decide +kernel) rfl
theorem dX10_damFor_14 : decode cX10_damFor 14 = .ok (.aload_n 0, 1) := zrD zrw_cX10_damFor_0 (i := 14) (by decide +kernel) rfl
theorem dX10_damFor_15 : decode cX10_damFor 15 = .ok (.getfield 70, 3) := zrD zrw_cX10_damFor_0 (i := 15) (by decide +kernel) rfl
theorem dX10_damFor_18 : decode cX10_damFor 18 = .ok (.getfield 175, 3) := zrD zrw_cX10_damFor_0 (i := 18) (by decide +kernel) rfl
theorem dX10_damFor_21 : decode cX10_damFor 21 = .ok (.if_icmp .ge 56, 3) := zrD zrw_cX10_damFor_0 (i := 21) (by decide +kernel) rfl
theorem dX10_damFor_24 : decode cX10_damFor 24 = .ok (.aload_n 0, 1) := zrD zrw_cX10_damFor_0 (i := 24) (by decide +kernel) rfl
theorem dX10_damFor_25 : decode cX10_damFor 25 = .ok (.getfield 52, 3) := zrD zrw_cX10_damFor_0 (i := 25) (by decide +kernel) rfl
theorem dX10_damFor_28 : decode cX10_damFor 28 = .ok (.getfield 128, 3) := zrD zrw_cX10_damFor_0 (i := 28) (by decide +kernel) rfl
theorem dX10_damFor_31 : decode cX10_damFor 31 = .ok (.iload_n 3, 1) := zrD zrw_cX10_damFor_0 (i := 31) (by decide +kernel) rfl
def zrk_cX10_damFor_32 : ByteArray := .mk #[184, 0, 131, 154, 0, 36, 42, 180, 0, 26, 42, 180, 0, 52, 180, 0, 128, 29, 184, 0, 216, 128, 182, 1, 18, 42, 180, 0, 26, 28]
theorem zrw_cX10_damFor_32 : zrW 32 cX10_damFor zrk_cX10_damFor_32 := by unfold zrW; decide +kernel
theorem dX10_damFor_32 : decode cX10_damFor 32 = .ok (.invokestatic 131, 3) := zrD zrw_cX10_damFor_32 (i := 0) (by decide +kernel) rfl
theorem dX10_damFor_35 : decode cX10_damFor 35 = .ok (.ifCond .ne 36, 3) := zrD zrw_cX10_damFor_32 (i := 3) (by decide +kernel) rfl
theorem dX10_damFor_38 : decode cX10_damFor 38 = .ok (.aload_n 0, 1) := zrD zrw_cX10_damFor_32 (i := 6) (by decide +kernel) rfl
theorem dX10_damFor_39 : decode cX10_damFor 39 = .ok (.getfield 26, 3) := zrD zrw_cX10_damFor_32 (i := 7) (by decide +kernel) rfl
theorem dX10_damFor_42 : decode cX10_damFor 42 = .ok (.aload_n 0, 1) := zrD zrw_cX10_damFor_32 (i := 10) (by decide +kernel) rfl
theorem dX10_damFor_43 : decode cX10_damFor 43 = .ok (.getfield 52, 3) := zrD zrw_cX10_damFor_32 (i := 11) (by decide +kernel) rfl
theorem dX10_damFor_46 : decode cX10_damFor 46 = .ok (.getfield 128, 3) := zrD zrw_cX10_damFor_32 (i := 14) (by decide +kernel) rfl
theorem dX10_damFor_49 : decode cX10_damFor 49 = .ok (.iload_n 3, 1) := zrD zrw_cX10_damFor_32 (i := 17) (by decide +kernel) rfl
theorem dX10_damFor_50 : decode cX10_damFor 50 = .ok (.invokestatic 216, 3) := zrD zrw_cX10_damFor_32 (i := 18) (by decide +kernel) rfl
theorem dX10_damFor_53 : decode cX10_damFor 53 = .ok (.ior, 1) := zrD zrw_cX10_damFor_32 (i := 21) (by decide +kernel) rfl
theorem dX10_damFor_54 : decode cX10_damFor 54 = .ok (.invokevirtual 274, 3) := zrD zrw_cX10_damFor_32 (i := 22) (by decide +kernel) rfl
theorem dX10_damFor_57 : decode cX10_damFor 57 = .ok (.aload_n 0, 1) := zrD zrw_cX10_damFor_32 (i := 25) (by decide +kernel) rfl
theorem dX10_damFor_58 : decode cX10_damFor 58 = .ok (.getfield 26, 3) := zrD zrw_cX10_damFor_32 (i := 26) (by decide +kernel) rfl
theorem dX10_damFor_61 : decode cX10_damFor 61 = .ok (.iload_n 2, 1) := zrD zrw_cX10_damFor_32 (i := 29) (by decide +kernel) rfl
def zrk_cX10_damFor_62 : ByteArray := .mk #[182, 0, 172, 27, 160, 0, 5, 29, 172, 132, 3, 1, 167, 255, 195, 16, 254, 172]
theorem zrw_cX10_damFor_62 : zrW 62 cX10_damFor zrk_cX10_damFor_62 := by unfold zrW; decide +kernel
theorem dX10_damFor_62 : decode cX10_damFor 62 = .ok (.invokevirtual 172, 3) := zrD zrw_cX10_damFor_62 (i := 0) (by decide +kernel) rfl
theorem dX10_damFor_65 : decode cX10_damFor 65 = .ok (.iload_n 1, 1) := zrD zrw_cX10_damFor_62 (i := 3) (by decide +kernel) rfl
theorem dX10_damFor_66 : decode cX10_damFor 66 = .ok (.if_icmp .ne 5, 3) := zrD zrw_cX10_damFor_62 (i := 4) (by decide +kernel) rfl
theorem dX10_damFor_69 : decode cX10_damFor 69 = .ok (.iload_n 3, 1) := zrD zrw_cX10_damFor_62 (i := 7) (by decide +kernel) rfl
theorem dX10_damFor_70 : decode cX10_damFor 70 = .ok (.ireturn, 1) := zrD zrw_cX10_damFor_62 (i := 8) (by decide +kernel) rfl
theorem dX10_damFor_71 : decode cX10_damFor 71 = .ok (.iinc 3 1, 3) := zrD zrw_cX10_damFor_62 (i := 9) (by decide +kernel) rfl
theorem dX10_damFor_74 : decode cX10_damFor 74 = .ok (.goto (-61), 3) := zrD zrw_cX10_damFor_62 (i := 12) (by decide +kernel) rfl
theorem dX10_damFor_77 : decode cX10_damFor 77 = .ok (.bipush (-2), 2) := zrD zrw_cX10_damFor_62 (i := 15) (by decide +kernel) rfl
theorem dX10_damFor_79 : decode cX10_damFor 79 = .ok (.ireturn, 1) := zrD zrw_cX10_damFor_62 (i := 17) (by decide +kernel) rfl
def zrk_cX10_dams_0 : ByteArray := .mk #[42, 182, 1, 21, 153, 0, 23, 27, 3, 17, 39, 15, 184, 0, 229, 153, 0, 12, 28, 2, 5, 184, 0, 229, 154, 0, 5, 2, 172, 42]
theorem zrw_cX10_dams_0 : zrW 0 cX10_dams zrk_cX10_dams_0 := by unfold zrW; decide +kernel
theorem dX10_dams_0 : decode cX10_dams 0 = .ok (.aload_n 0, 1) := zrD zrw_cX10_dams_0 (i := 0) (by decide +kernel) rfl
theorem dX10_dams_1 : decode cX10_dams 1 = .ok (.invokevirtual 277, 3) := zrD zrw_cX10_dams_0 (i := 1) (by decide +kernel) rfl
theorem dX10_dams_4 : decode cX10_dams 4 = .ok (.ifCond .eq 23, 3) := zrD zrw_cX10_dams_0 (i := 4) (by decide +kernel) rfl
theorem dX10_dams_7 : decode cX10_dams 7 = .ok (.iload_n 1, 1) := zrD zrw_cX10_dams_0 (i := 7) (by decide +kernel) rfl
theorem dX10_dams_8 : decode cX10_dams 8 = .ok (.iconst 0, 1) := zrD zrw_cX10_dams_0 (i := 8) (by decide +kernel) rfl
theorem dX10_dams_9 : decode cX10_dams 9 = .ok (.sipush 9999, 3) := zrD zrw_cX10_dams_0 (i := 9) (by decide +kernel) rfl
theorem dX10_dams_12 : decode cX10_dams 12 = .ok (.invokestatic 229, 3) := zrD zrw_cX10_dams_0 (i := 12) (by decide +kernel) rfl
theorem dX10_dams_15 : decode cX10_dams 15 = .ok (.ifCond .eq 12, 3) := zrD zrw_cX10_dams_0 (i := 15) (by decide +kernel) rfl
theorem dX10_dams_18 : decode cX10_dams 18 = .ok (.iload_n 2, 1) := zrD zrw_cX10_dams_0 (i := 18) (by decide +kernel) rfl
theorem dX10_dams_19 : decode cX10_dams 19 = .ok (.iconst (-1), 1) := zrD zrw_cX10_dams_0 (i := 19) (by decide +kernel) rfl
theorem dX10_dams_20 : decode cX10_dams 20 = .ok (.iconst 2, 1) := zrD zrw_cX10_dams_0 (i := 20) (by decide +kernel) rfl
theorem dX10_dams_21 : decode cX10_dams 21 = .ok (.invokestatic 229, 3) := zrD zrw_cX10_dams_0 (i := 21) (by decide +kernel) rfl
theorem dX10_dams_24 : decode cX10_dams 24 = .ok (.ifCond .ne 5, 3) := zrD zrw_cX10_dams_0 (i := 24) (by decide +kernel) rfl
theorem dX10_dams_27 : decode cX10_dams 27 = .ok (.iconst (-1), 1) := zrD zrw_cX10_dams_0 (i := 27) (by decide +kernel) rfl
theorem dX10_dams_28 : decode cX10_dams 28 = .ok (.ireturn, 1) := zrD zrw_cX10_dams_0 (i := 28) (by decide +kernel) rfl
theorem dX10_dams_29 : decode cX10_dams 29 = .ok (.aload_n 0, 1) := zrD zrw_cX10_dams_0 (i := 29) (by decide +kernel) rfl
def zrk_cX10_dams_30 : ByteArray := .mk #[182, 0, 113, 42, 27, 182, 1, 25, 62, 29, 2, 160, 0, 6, 16, 254, 172, 28, 2, 160, 0, 10, 29, 184, 0, 198, 167, 0, 8, 29, 28]
theorem zrw_cX10_dams_30 : zrW 30 cX10_dams zrk_cX10_dams_30 := by unfold zrW; decide +kernel
theorem dX10_dams_30 : decode cX10_dams 30 = .ok (.invokevirtual 113, 3) := zrD zrw_cX10_dams_30 (i := 0) (by decide +kernel) rfl
theorem dX10_dams_33 : decode cX10_dams 33 = .ok (.aload_n 0, 1) := zrD zrw_cX10_dams_30 (i := 3) (by decide +kernel) rfl
theorem dX10_dams_34 : decode cX10_dams 34 = .ok (.iload_n 1, 1) := zrD zrw_cX10_dams_30 (i := 4) (by decide +kernel) rfl
theorem dX10_dams_35 : decode cX10_dams 35 = .ok (.invokevirtual 281, 3) := zrD zrw_cX10_dams_30 (i := 5) (by decide +kernel) rfl
theorem dX10_dams_38 : decode cX10_dams 38 = .ok (.istore_n 3, 1) := zrD zrw_cX10_dams_30 (i := 8) (by decide +kernel) rfl
theorem dX10_dams_39 : decode cX10_dams 39 = .ok (.iload_n 3, 1) := zrD zrw_cX10_dams_30 (i := 9) (by decide +kernel) rfl
theorem dX10_dams_40 : decode cX10_dams 40 = .ok (.iconst (-1), 1) := zrD zrw_cX10_dams_30 (i := 10) (by decide +kernel) rfl
theorem dX10_dams_41 : decode cX10_dams 41 = .ok (.if_icmp .ne 6, 3) := zrD zrw_cX10_dams_30 (i := 11) (by decide +kernel) rfl
theorem dX10_dams_44 : decode cX10_dams 44 = .ok (.bipush (-2), 2) := zrD zrw_cX10_dams_30 (i := 14) (by decide +kernel) rfl
theorem dX10_dams_46 : decode cX10_dams 46 = .ok (.ireturn, 1) := zrD zrw_cX10_dams_30 (i := 16) (by decide +kernel) rfl
theorem dX10_dams_47 : decode cX10_dams 47 = .ok (.iload_n 2, 1) := zrD zrw_cX10_dams_30 (i := 17) (by decide +kernel) rfl
theorem dX10_dams_48 : decode cX10_dams 48 = .ok (.iconst (-1), 1) := zrD zrw_cX10_dams_30 (i := 18) (by decide +kernel) rfl
theorem dX10_dams_49 : decode cX10_dams 49 = .ok (.if_icmp .ne 10, 3) := zrD zrw_cX10_dams_30 (i := 19) (by decide +kernel) rfl
theorem dX10_dams_52 : decode cX10_dams 52 = .ok (.iload_n 3, 1) := zrD zrw_cX10_dams_30 (i := 22) (by decide +kernel) rfl
theorem dX10_dams_53 : decode cX10_dams 53 = .ok (.invokestatic 198, 3) := zrD zrw_cX10_dams_30 (i := 23) (by decide +kernel) rfl
theorem dX10_dams_56 : decode cX10_dams 56 = .ok (.goto 8, 3) := zrD zrw_cX10_dams_30 (i := 26) (by decide +kernel) rfl
theorem dX10_dams_59 : decode cX10_dams 59 = .ok (.iload_n 3, 1) := zrD zrw_cX10_dams_30 (i := 29) (by decide +kernel) rfl
theorem dX10_dams_60 : decode cX10_dams 60 = .ok (.iload_n 2, 1) := zrD zrw_cX10_dams_30 (i := 30) (by decide +kernel) rfl
def zrk_cX10_dams_61 : ByteArray := .mk #[184, 1, 28, 172]
theorem zrw_cX10_dams_61 : zrW 61 cX10_dams zrk_cX10_dams_61 := by unfold zrW; decide +kernel
theorem dX10_dams_61 : decode cX10_dams 61 = .ok (.invokestatic 284, 3) := zrD zrw_cX10_dams_61 (i := 0) (by decide +kernel) rfl
theorem dX10_dams_64 : decode cX10_dams 64 = .ok (.ireturn, 1) := zrD zrw_cX10_dams_61 (i := 3) (by decide +kernel) rfl
def zrk_cX10_fewestDams_0 : ByteArray := .mk #[42, 180, 0, 70, 180, 0, 175, 184, 0, 216, 4, 100, 42, 180, 0, 52, 180, 0, 128, 3, 184, 0, 216, 128, 2, 130, 126, 61, 2, 62, 3]
theorem zrw_cX10_fewestDams_0 : zrW 0 cX10_fewestDams zrk_cX10_fewestDams_0 := by unfold zrW; decide +kernel
theorem dX10_fewestDams_0 : decode cX10_fewestDams 0 = .ok (.aload_n 0, 1) := zrD zrw_cX10_fewestDams_0 (i := 0) (by decide +kernel) rfl
theorem dX10_fewestDams_1 : decode cX10_fewestDams 1 = .ok (.getfield 70, 3) := zrD zrw_cX10_fewestDams_0 (i := 1) (by decide +kernel) rfl
theorem dX10_fewestDams_4 : decode cX10_fewestDams 4 = .ok (.getfield 175, 3) := zrD zrw_cX10_fewestDams_0 (i := 4) (by decide +kernel) rfl
theorem dX10_fewestDams_7 : decode cX10_fewestDams 7 = .ok (.invokestatic 216, 3) := zrD zrw_cX10_fewestDams_0 (i := 7) (by decide +kernel) rfl
theorem dX10_fewestDams_10 : decode cX10_fewestDams 10 = .ok (.iconst 1, 1) := zrD zrw_cX10_fewestDams_0 (i := 10) (by decide +kernel) rfl
theorem dX10_fewestDams_11 : decode cX10_fewestDams 11 = .ok (.isub, 1) := zrD zrw_cX10_fewestDams_0 (i := 11) (by decide +kernel) rfl
theorem dX10_fewestDams_12 : decode cX10_fewestDams 12 = .ok (.aload_n 0, 1) := zrD zrw_cX10_fewestDams_0 (i := 12) (by decide +kernel) rfl
theorem dX10_fewestDams_13 : decode cX10_fewestDams 13 = .ok (.getfield 52, 3) := zrD zrw_cX10_fewestDams_0 (i := 13) (by decide +kernel) rfl
theorem dX10_fewestDams_16 : decode cX10_fewestDams 16 = .ok (.getfield 128, 3) := zrD zrw_cX10_fewestDams_0 (i := 16) (by decide +kernel) rfl
theorem dX10_fewestDams_19 : decode cX10_fewestDams 19 = .ok (.iconst 0, 1) := zrD zrw_cX10_fewestDams_0 (i := 19) (by decide +kernel) rfl
theorem dX10_fewestDams_20 : decode cX10_fewestDams 20 = .ok (.invokestatic 216, 3) := zrD zrw_cX10_fewestDams_0 (i := 20) (by decide +kernel) rfl
theorem dX10_fewestDams_23 : decode cX10_fewestDams 23 = .ok (.ior, 1) := zrD zrw_cX10_fewestDams_0 (i := 23) (by decide +kernel) rfl
theorem dX10_fewestDams_24 : decode cX10_fewestDams 24 = .ok (.iconst (-1), 1) := zrD zrw_cX10_fewestDams_0 (i := 24) (by decide +kernel) rfl
theorem dX10_fewestDams_25 : decode cX10_fewestDams 25 = .ok (.ixor, 1) := zrD zrw_cX10_fewestDams_0 (i := 25) (by decide +kernel) rfl
theorem dX10_fewestDams_26 : decode cX10_fewestDams 26 = .ok (.iand, 1) := zrD zrw_cX10_fewestDams_0 (i := 26) (by decide +kernel) rfl
theorem dX10_fewestDams_27 : decode cX10_fewestDams 27 = .ok (.istore_n 2, 1) := zrD zrw_cX10_fewestDams_0 (i := 27) (by decide +kernel) rfl
theorem dX10_fewestDams_28 : decode cX10_fewestDams 28 = .ok (.iconst (-1), 1) := zrD zrw_cX10_fewestDams_0 (i := 28) (by decide +kernel) rfl
theorem dX10_fewestDams_29 : decode cX10_fewestDams 29 = .ok (.istore_n 3, 1) := zrD zrw_cX10_fewestDams_0 (i := 29) (by decide +kernel) rfl
theorem dX10_fewestDams_30 : decode cX10_fewestDams 30 = .ok (.iconst 0, 1) := zrD zrw_cX10_fewestDams_0 (i := 30) (by decide +kernel) rfl
def zrk_cX10_fewestDams_31 : ByteArray := .mk #[54, 4, 21, 4, 28, 163, 0, 68, 21, 4, 28, 2, 130, 126, 154, 0, 53, 21, 4, 184, 0, 198, 6, 163, 0, 44, 21, 4, 29, 184, 1, 31]
theorem zrw_cX10_fewestDams_31 : zrW 31 cX10_fewestDams zrk_cX10_fewestDams_31 := by unfold zrW; decide +kernel
theorem dX10_fewestDams_31 : decode cX10_fewestDams 31 = .ok (.istore 4, 2) := zrD zrw_cX10_fewestDams_31 (i := 0) (by decide +kernel) rfl
theorem dX10_fewestDams_33 : decode cX10_fewestDams 33 = .ok (.iload 4, 2) := zrD zrw_cX10_fewestDams_31 (i := 2) (by decide +kernel) rfl
theorem dX10_fewestDams_35 : decode cX10_fewestDams 35 = .ok (.iload_n 2, 1) := zrD zrw_cX10_fewestDams_31 (i := 4) (by decide +kernel) rfl
theorem dX10_fewestDams_36 : decode cX10_fewestDams 36 = .ok (.if_icmp .gt 68, 3) := zrD zrw_cX10_fewestDams_31 (i := 5) (by decide +kernel) rfl
theorem dX10_fewestDams_39 : decode cX10_fewestDams 39 = .ok (.iload 4, 2) := zrD zrw_cX10_fewestDams_31 (i := 8) (by decide +kernel) rfl
theorem dX10_fewestDams_41 : decode cX10_fewestDams 41 = .ok (.iload_n 2, 1) := zrD zrw_cX10_fewestDams_31 (i := 10) (by decide +kernel) rfl
theorem dX10_fewestDams_42 : decode cX10_fewestDams 42 = .ok (.iconst (-1), 1) := zrD zrw_cX10_fewestDams_31 (i := 11) (by decide +kernel) rfl
theorem dX10_fewestDams_43 : decode cX10_fewestDams 43 = .ok (.ixor, 1) := zrD zrw_cX10_fewestDams_31 (i := 12) (by decide +kernel) rfl
theorem dX10_fewestDams_44 : decode cX10_fewestDams 44 = .ok (.iand, 1) := zrD zrw_cX10_fewestDams_31 (i := 13) (by decide +kernel) rfl
theorem dX10_fewestDams_45 : decode cX10_fewestDams 45 = .ok (.ifCond .ne 53, 3) := zrD zrw_cX10_fewestDams_31 (i := 14) (by decide +kernel) rfl
theorem dX10_fewestDams_48 : decode cX10_fewestDams 48 = .ok (.iload 4, 2) := zrD zrw_cX10_fewestDams_31 (i := 17) (by decide +kernel) rfl
theorem dX10_fewestDams_50 : decode cX10_fewestDams 50 = .ok (.invokestatic 198, 3) := zrD zrw_cX10_fewestDams_31 (i := 19) (by decide +kernel) rfl
theorem dX10_fewestDams_53 : decode cX10_fewestDams 53 = .ok (.iconst 3, 1) := zrD zrw_cX10_fewestDams_31 (i := 22) (by decide +kernel) rfl
theorem dX10_fewestDams_54 : decode cX10_fewestDams 54 = .ok (.if_icmp .gt 44, 3) := zrD zrw_cX10_fewestDams_31 (i := 23) (by decide +kernel) rfl
theorem dX10_fewestDams_57 : decode cX10_fewestDams 57 = .ok (.iload 4, 2) := zrD zrw_cX10_fewestDams_31 (i := 26) (by decide +kernel) rfl
theorem dX10_fewestDams_59 : decode cX10_fewestDams 59 = .ok (.iload_n 3, 1) := zrD zrw_cX10_fewestDams_31 (i := 28) (by decide +kernel) rfl
theorem dX10_fewestDams_60 : decode cX10_fewestDams 60 = .ok (.invokestatic 287, 3) := zrD zrw_cX10_fewestDams_31 (i := 29) (by decide +kernel) rfl
def zrk_cX10_fewestDams_63 : ByteArray := .mk #[153, 0, 35, 42, 180, 0, 26, 42, 180, 0, 52, 180, 0, 128, 21, 4, 128, 182, 1, 18, 42, 182, 0, 191, 27, 163, 0, 8, 21, 4]
theorem zrw_cX10_fewestDams_63 : zrW 63 cX10_fewestDams zrk_cX10_fewestDams_63 := by unfold zrW; decide +kernel
theorem dX10_fewestDams_63 : decode cX10_fewestDams 63 = .ok (.ifCond .eq 35, 3) := zrD zrw_cX10_fewestDams_63 (i := 0) (by decide +kernel) rfl
theorem dX10_fewestDams_66 : decode cX10_fewestDams 66 = .ok (.aload_n 0, 1) := zrD zrw_cX10_fewestDams_63 (i := 3) (by decide +kernel) rfl
theorem dX10_fewestDams_67 : decode cX10_fewestDams 67 = .ok (.getfield 26, 3) := zrD zrw_cX10_fewestDams_63 (i := 4) (by decide +kernel) rfl
theorem dX10_fewestDams_70 : decode cX10_fewestDams 70 = .ok (.aload_n 0, 1) := zrD zrw_cX10_fewestDams_63 (i := 7) (by decide +kernel) rfl
theorem dX10_fewestDams_71 : decode cX10_fewestDams 71 = .ok (.getfield 52, 3) := zrD zrw_cX10_fewestDams_63 (i := 8) (by decide +kernel) rfl
theorem dX10_fewestDams_74 : decode cX10_fewestDams 74 = .ok (.getfield 128, 3) := zrD zrw_cX10_fewestDams_63 (i := 11) (by decide +kernel) rfl
theorem dX10_fewestDams_77 : decode cX10_fewestDams 77 = .ok (.iload 4, 2) := zrD zrw_cX10_fewestDams_63 (i := 14) (by decide +kernel) rfl
theorem dX10_fewestDams_79 : decode cX10_fewestDams 79 = .ok (.ior, 1) := zrD zrw_cX10_fewestDams_63 (i := 16) (by decide +kernel) rfl
theorem dX10_fewestDams_80 : decode cX10_fewestDams 80 = .ok (.invokevirtual 274, 3) := zrD zrw_cX10_fewestDams_63 (i := 17) (by decide +kernel) rfl
theorem dX10_fewestDams_83 : decode cX10_fewestDams 83 = .ok (.aload_n 0, 1) := zrD zrw_cX10_fewestDams_63 (i := 20) (by decide +kernel) rfl
theorem dX10_fewestDams_84 : decode cX10_fewestDams 84 = .ok (.invokevirtual 191, 3) := zrD zrw_cX10_fewestDams_63 (i := 21) (by decide +kernel) rfl
theorem dX10_fewestDams_87 : decode cX10_fewestDams 87 = .ok (.iload_n 1, 1) := zrD zrw_cX10_fewestDams_63 (i := 24) (by decide +kernel) rfl
theorem dX10_fewestDams_88 : decode cX10_fewestDams 88 = .ok (.if_icmp .gt 8, 3) := zrD zrw_cX10_fewestDams_63 (i := 25) (by decide +kernel) rfl
theorem dX10_fewestDams_91 : decode cX10_fewestDams 91 = .ok (.iload 4, 2) := zrD zrw_cX10_fewestDams_63 (i := 28) (by decide +kernel) rfl
def zrk_cX10_fewestDams_93 : ByteArray := .mk #[167, 0, 4, 29, 62, 132, 4, 1, 167, 255, 188, 29, 172]
theorem zrw_cX10_fewestDams_93 : zrW 93 cX10_fewestDams zrk_cX10_fewestDams_93 := by unfold zrW; decide +kernel
theorem dX10_fewestDams_93 : decode cX10_fewestDams 93 = .ok (.goto 4, 3) := zrD zrw_cX10_fewestDams_93 (i := 0) (by decide +kernel) rfl
theorem dX10_fewestDams_96 : decode cX10_fewestDams 96 = .ok (.iload_n 3, 1) := zrD zrw_cX10_fewestDams_93 (i := 3) (by decide +kernel) rfl
theorem dX10_fewestDams_97 : decode cX10_fewestDams 97 = .ok (.istore_n 3, 1) := zrD zrw_cX10_fewestDams_93 (i := 4) (by decide +kernel) rfl
theorem dX10_fewestDams_98 : decode cX10_fewestDams 98 = .ok (.iinc 4 1, 3) := zrD zrw_cX10_fewestDams_93 (i := 5) (by decide +kernel) rfl
theorem dX10_fewestDams_101 : decode cX10_fewestDams 101 = .ok (.goto (-68), 3) := zrD zrw_cX10_fewestDams_93 (i := 8) (by decide +kernel) rfl
theorem dX10_fewestDams_104 : decode cX10_fewestDams 104 = .ok (.iload_n 3, 1) := zrD zrw_cX10_fewestDams_93 (i := 11) (by decide +kernel) rfl
theorem dX10_fewestDams_105 : decode cX10_fewestDams 105 = .ok (.ireturn, 1) := zrD zrw_cX10_fewestDams_93 (i := 12) (by decide +kernel) rfl
def zrk_cX10_isAhead_0 : ByteArray := .mk #[27, 184, 0, 198, 26, 184, 0, 198, 100, 61, 26, 27, 130, 26, 27, 130, 116, 126, 62, 27, 2, 159, 0, 17, 28, 157, 0, 13, 28, 154, 0, 13]
theorem zrw_cX10_isAhead_0 : zrW 0 cX10_isAhead zrk_cX10_isAhead_0 := by unfold zrW; decide +kernel
theorem dX10_isAhead_0 : decode cX10_isAhead 0 = .ok (.iload_n 1, 1) := zrD zrw_cX10_isAhead_0 (i := 0) (by decide +kernel) rfl
theorem dX10_isAhead_1 : decode cX10_isAhead 1 = .ok (.invokestatic 198, 3) := zrD zrw_cX10_isAhead_0 (i := 1) (by decide +kernel) rfl
theorem dX10_isAhead_4 : decode cX10_isAhead 4 = .ok (.iload_n 0, 1) := zrD zrw_cX10_isAhead_0 (i := 4) (by decide +kernel) rfl
theorem dX10_isAhead_5 : decode cX10_isAhead 5 = .ok (.invokestatic 198, 3) := zrD zrw_cX10_isAhead_0 (i := 5) (by decide +kernel) rfl
theorem dX10_isAhead_8 : decode cX10_isAhead 8 = .ok (.isub, 1) := zrD zrw_cX10_isAhead_0 (i := 8) (by decide +kernel) rfl
theorem dX10_isAhead_9 : decode cX10_isAhead 9 = .ok (.istore_n 2, 1) := zrD zrw_cX10_isAhead_0 (i := 9) (by decide +kernel) rfl
theorem dX10_isAhead_10 : decode cX10_isAhead 10 = .ok (.iload_n 0, 1) := zrD zrw_cX10_isAhead_0 (i := 10) (by decide +kernel) rfl
theorem dX10_isAhead_11 : decode cX10_isAhead 11 = .ok (.iload_n 1, 1) := zrD zrw_cX10_isAhead_0 (i := 11) (by decide +kernel) rfl
theorem dX10_isAhead_12 : decode cX10_isAhead 12 = .ok (.ixor, 1) := zrD zrw_cX10_isAhead_0 (i := 12) (by decide +kernel) rfl
theorem dX10_isAhead_13 : decode cX10_isAhead 13 = .ok (.iload_n 0, 1) := zrD zrw_cX10_isAhead_0 (i := 13) (by decide +kernel) rfl
theorem dX10_isAhead_14 : decode cX10_isAhead 14 = .ok (.iload_n 1, 1) := zrD zrw_cX10_isAhead_0 (i := 14) (by decide +kernel) rfl
theorem dX10_isAhead_15 : decode cX10_isAhead 15 = .ok (.ixor, 1) := zrD zrw_cX10_isAhead_0 (i := 15) (by decide +kernel) rfl
theorem dX10_isAhead_16 : decode cX10_isAhead 16 = .ok (.ineg, 1) := zrD zrw_cX10_isAhead_0 (i := 16) (by decide +kernel) rfl
theorem dX10_isAhead_17 : decode cX10_isAhead 17 = .ok (.iand, 1) := zrD zrw_cX10_isAhead_0 (i := 17) (by decide +kernel) rfl
theorem dX10_isAhead_18 : decode cX10_isAhead 18 = .ok (.istore_n 3, 1) := zrD zrw_cX10_isAhead_0 (i := 18) (by decide +kernel) rfl
theorem dX10_isAhead_19 : decode cX10_isAhead 19 = .ok (.iload_n 1, 1) := zrD zrw_cX10_isAhead_0 (i := 19) (by decide +kernel) rfl
theorem dX10_isAhead_20 : decode cX10_isAhead 20 = .ok (.iconst (-1), 1) := zrD zrw_cX10_isAhead_0 (i := 20) (by decide +kernel) rfl
theorem dX10_isAhead_21 : decode cX10_isAhead 21 = .ok (.if_icmp .eq 17, 3) := zrD zrw_cX10_isAhead_0 (i := 21) (by decide +kernel) rfl
theorem dX10_isAhead_24 : decode cX10_isAhead 24 = .ok (.iload_n 2, 1) := zrD zrw_cX10_isAhead_0 (i := 24) (by decide +kernel) rfl
theorem dX10_isAhead_25 : decode cX10_isAhead 25 = .ok (.ifCond .gt 13, 3) := zrD zrw_cX10_isAhead_0 (i := 25) (by decide +kernel) rfl
theorem dX10_isAhead_28 : decode cX10_isAhead 28 = .ok (.iload_n 2, 1) := zrD zrw_cX10_isAhead_0 (i := 28) (by decide +kernel) rfl
theorem dX10_isAhead_29 : decode cX10_isAhead 29 = .ok (.ifCond .ne 13, 3) := zrD zrw_cX10_isAhead_0 (i := 29) (by decide +kernel) rfl
def zrk_cX10_isAhead_32 : ByteArray := .mk #[26, 29, 126, 153, 0, 7, 4, 167, 0, 4, 3, 172]
theorem zrw_cX10_isAhead_32 : zrW 32 cX10_isAhead zrk_cX10_isAhead_32 := by unfold zrW; decide +kernel
theorem dX10_isAhead_32 : decode cX10_isAhead 32 = .ok (.iload_n 0, 1) := zrD zrw_cX10_isAhead_32 (i := 0) (by decide +kernel) rfl
theorem dX10_isAhead_33 : decode cX10_isAhead 33 = .ok (.iload_n 3, 1) := zrD zrw_cX10_isAhead_32 (i := 1) (by decide +kernel) rfl
theorem dX10_isAhead_34 : decode cX10_isAhead 34 = .ok (.iand, 1) := zrD zrw_cX10_isAhead_32 (i := 2) (by decide +kernel) rfl
theorem dX10_isAhead_35 : decode cX10_isAhead 35 = .ok (.ifCond .eq 7, 3) := zrD zrw_cX10_isAhead_32 (i := 3) (by decide +kernel) rfl
theorem dX10_isAhead_38 : decode cX10_isAhead 38 = .ok (.iconst 1, 1) := zrD zrw_cX10_isAhead_32 (i := 6) (by decide +kernel) rfl
theorem dX10_isAhead_39 : decode cX10_isAhead 39 = .ok (.goto 4, 3) := zrD zrw_cX10_isAhead_32 (i := 7) (by decide +kernel) rfl
theorem dX10_isAhead_42 : decode cX10_isAhead 42 = .ok (.iconst 0, 1) := zrD zrw_cX10_isAhead_32 (i := 10) (by decide +kernel) rfl
theorem dX10_isAhead_43 : decode cX10_isAhead 43 = .ok (.ireturn, 1) := zrD zrw_cX10_isAhead_32 (i := 11) (by decide +kernel) rfl
def zrk_cX10_loss_0 : ByteArray := .mk #[27, 153, 0, 11, 42, 27, 182, 0, 109, 154, 0, 5, 2, 172, 42, 182, 0, 113, 42, 27, 182, 1, 34, 172]
theorem zrw_cX10_loss_0 : zrW 0 cX10_loss zrk_cX10_loss_0 := by unfold zrW; decide +kernel
theorem dX10_loss_0 : decode cX10_loss 0 = .ok (.iload_n 1, 1) := zrD zrw_cX10_loss_0 (i := 0) (by decide +kernel) rfl
theorem dX10_loss_1 : decode cX10_loss 1 = .ok (.ifCond .eq 11, 3) := zrD zrw_cX10_loss_0 (i := 1) (by decide +kernel) rfl
theorem dX10_loss_4 : decode cX10_loss 4 = .ok (.aload_n 0, 1) := zrD zrw_cX10_loss_0 (i := 4) (by decide +kernel) rfl
theorem dX10_loss_5 : decode cX10_loss 5 = .ok (.iload_n 1, 1) := zrD zrw_cX10_loss_0 (i := 5) (by decide +kernel) rfl
theorem dX10_loss_6 : decode cX10_loss 6 = .ok (.invokevirtual 109, 3) := zrD zrw_cX10_loss_0 (i := 6) (by decide +kernel) rfl
theorem dX10_loss_9 : decode cX10_loss 9 = .ok (.ifCond .ne 5, 3) := zrD zrw_cX10_loss_0 (i := 9) (by decide +kernel) rfl
theorem dX10_loss_12 : decode cX10_loss 12 = .ok (.iconst (-1), 1) := zrD zrw_cX10_loss_0 (i := 12) (by decide +kernel) rfl
theorem dX10_loss_13 : decode cX10_loss 13 = .ok (.ireturn, 1) := zrD zrw_cX10_loss_0 (i := 13) (by decide +kernel) rfl
theorem dX10_loss_14 : decode cX10_loss 14 = .ok (.aload_n 0, 1) := zrD zrw_cX10_loss_0 (i := 14) (by decide +kernel) rfl
theorem dX10_loss_15 : decode cX10_loss 15 = .ok (.invokevirtual 113, 3) := zrD zrw_cX10_loss_0 (i := 15) (by decide +kernel) rfl
theorem dX10_loss_18 : decode cX10_loss 18 = .ok (.aload_n 0, 1) := zrD zrw_cX10_loss_0 (i := 18) (by decide +kernel) rfl
theorem dX10_loss_19 : decode cX10_loss 19 = .ok (.iload_n 1, 1) := zrD zrw_cX10_loss_0 (i := 19) (by decide +kernel) rfl
theorem dX10_loss_20 : decode cX10_loss 20 = .ok (.invokevirtual 290, 3) := zrD zrw_cX10_loss_0 (i := 20) (by decide +kernel) rfl
theorem dX10_loss_23 : decode cX10_loss 23 = .ok (.ireturn, 1) := zrD zrw_cX10_loss_0 (i := 23) (by decide +kernel) rfl
def zrk_cX10_lossOf_0 : ByteArray := .mk #[42, 182, 0, 191, 61, 42, 180, 0, 26, 42, 180, 0, 52, 180, 0, 128, 27, 184, 0, 216, 128, 182, 1, 18, 28, 42, 182, 0, 191, 100, 172]
theorem zrw_cX10_lossOf_0 : zrW 0 cX10_lossOf zrk_cX10_lossOf_0 := by unfold zrW; decide +kernel
theorem dX10_lossOf_0 : decode cX10_lossOf 0 = .ok (.aload_n 0, 1) := zrD zrw_cX10_lossOf_0 (i := 0) (by decide +kernel) rfl
theorem dX10_lossOf_1 : decode cX10_lossOf 1 = .ok (.invokevirtual 191, 3) := zrD zrw_cX10_lossOf_0 (i := 1) (by decide +kernel) rfl
theorem dX10_lossOf_4 : decode cX10_lossOf 4 = .ok (.istore_n 2, 1) := zrD zrw_cX10_lossOf_0 (i := 4) (by decide +kernel) rfl
theorem dX10_lossOf_5 : decode cX10_lossOf 5 = .ok (.aload_n 0, 1) := zrD zrw_cX10_lossOf_0 (i := 5) (by decide +kernel) rfl
theorem dX10_lossOf_6 : decode cX10_lossOf 6 = .ok (.getfield 26, 3) := zrD zrw_cX10_lossOf_0 (i := 6) (by decide +kernel) rfl
theorem dX10_lossOf_9 : decode cX10_lossOf 9 = .ok (.aload_n 0, 1) := zrD zrw_cX10_lossOf_0 (i := 9) (by decide +kernel) rfl
theorem dX10_lossOf_10 : decode cX10_lossOf 10 = .ok (.getfield 52, 3) := zrD zrw_cX10_lossOf_0 (i := 10) (by decide +kernel) rfl
theorem dX10_lossOf_13 : decode cX10_lossOf 13 = .ok (.getfield 128, 3) := zrD zrw_cX10_lossOf_0 (i := 13) (by decide +kernel) rfl
theorem dX10_lossOf_16 : decode cX10_lossOf 16 = .ok (.iload_n 1, 1) := zrD zrw_cX10_lossOf_0 (i := 16) (by decide +kernel) rfl
theorem dX10_lossOf_17 : decode cX10_lossOf 17 = .ok (.invokestatic 216, 3) := zrD zrw_cX10_lossOf_0 (i := 17) (by decide +kernel) rfl
theorem dX10_lossOf_20 : decode cX10_lossOf 20 = .ok (.ior, 1) := zrD zrw_cX10_lossOf_0 (i := 20) (by decide +kernel) rfl
theorem dX10_lossOf_21 : decode cX10_lossOf 21 = .ok (.invokevirtual 274, 3) := zrD zrw_cX10_lossOf_0 (i := 21) (by decide +kernel) rfl
theorem dX10_lossOf_24 : decode cX10_lossOf 24 = .ok (.iload_n 2, 1) := zrD zrw_cX10_lossOf_0 (i := 24) (by decide +kernel) rfl
theorem dX10_lossOf_25 : decode cX10_lossOf 25 = .ok (.aload_n 0, 1) := zrD zrw_cX10_lossOf_0 (i := 25) (by decide +kernel) rfl
theorem dX10_lossOf_26 : decode cX10_lossOf 26 = .ok (.invokevirtual 191, 3) := zrD zrw_cX10_lossOf_0 (i := 26) (by decide +kernel) rfl
theorem dX10_lossOf_29 : decode cX10_lossOf 29 = .ok (.isub, 1) := zrD zrw_cX10_lossOf_0 (i := 29) (by decide +kernel) rfl
theorem dX10_lossOf_30 : decode cX10_lossOf 30 = .ok (.ireturn, 1) := zrD zrw_cX10_lossOf_0 (i := 30) (by decide +kernel) rfl
def zrk_cX10_part_0 : ByteArray := .mk #[27, 153, 0, 11, 42, 27, 182, 0, 109, 154, 0, 5, 2, 172, 42, 182, 0, 113, 42, 182, 0, 191, 61, 28, 154, 0, 7, 3, 167, 0, 14, 42]
theorem zrw_cX10_part_0 : zrW 0 cX10_part zrk_cX10_part_0 := by unfold zrW; decide +kernel
theorem dX10_part_0 : decode cX10_part 0 = .ok (.iload_n 1, 1) := zrD zrw_cX10_part_0 (i := 0) (by decide +kernel) rfl
theorem dX10_part_1 : decode cX10_part 1 = .ok (.ifCond .eq 11, 3) := zrD zrw_cX10_part_0 (i := 1) (by decide +kernel) rfl
theorem dX10_part_4 : decode cX10_part 4 = .ok (.aload_n 0, 1) := zrD zrw_cX10_part_0 (i := 4) (by decide +kernel) rfl
theorem dX10_part_5 : decode cX10_part 5 = .ok (.iload_n 1, 1) := zrD zrw_cX10_part_0 (i := 5) (by decide +kernel) rfl
theorem dX10_part_6 : decode cX10_part 6 = .ok (.invokevirtual 109, 3) := zrD zrw_cX10_part_0 (i := 6) (by decide +kernel) rfl
theorem dX10_part_9 : decode cX10_part 9 = .ok (.ifCond .ne 5, 3) := zrD zrw_cX10_part_0 (i := 9) (by decide +kernel) rfl
theorem dX10_part_12 : decode cX10_part 12 = .ok (.iconst (-1), 1) := zrD zrw_cX10_part_0 (i := 12) (by decide +kernel) rfl
theorem dX10_part_13 : decode cX10_part 13 = .ok (.ireturn, 1) := zrD zrw_cX10_part_0 (i := 13) (by decide +kernel) rfl
theorem dX10_part_14 : decode cX10_part 14 = .ok (.aload_n 0, 1) := zrD zrw_cX10_part_0 (i := 14) (by decide +kernel) rfl
theorem dX10_part_15 : decode cX10_part 15 = .ok (.invokevirtual 113, 3) := zrD zrw_cX10_part_0 (i := 15) (by decide +kernel) rfl
theorem dX10_part_18 : decode cX10_part 18 = .ok (.aload_n 0, 1) := zrD zrw_cX10_part_0 (i := 18) (by decide +kernel) rfl
theorem dX10_part_19 : decode cX10_part 19 = .ok (.invokevirtual 191, 3) := zrD zrw_cX10_part_0 (i := 19) (by decide +kernel) rfl
theorem dX10_part_22 : decode cX10_part 22 = .ok (.istore_n 2, 1) := zrD zrw_cX10_part_0 (i := 22) (by decide +kernel) rfl
theorem dX10_part_23 : decode cX10_part 23 = .ok (.iload_n 2, 1) := zrD zrw_cX10_part_0 (i := 23) (by decide +kernel) rfl
theorem dX10_part_24 : decode cX10_part 24 = .ok (.ifCond .ne 7, 3) := zrD zrw_cX10_part_0 (i := 24) (by decide +kernel) rfl
theorem dX10_part_27 : decode cX10_part 27 = .ok (.iconst 0, 1) := zrD zrw_cX10_part_0 (i := 27) (by decide +kernel) rfl
theorem dX10_part_28 : decode cX10_part 28 = .ok (.goto 14, 3) := zrD zrw_cX10_part_0 (i := 28) (by decide +kernel) rfl
theorem dX10_part_31 : decode cX10_part 31 = .ok (.aload_n 0, 1) := zrD zrw_cX10_part_0 (i := 31) (by decide +kernel) rfl
def zrk_cX10_part_32 : ByteArray := .mk #[27, 182, 1, 34, 17, 3, 232, 104, 28, 108, 172]
theorem zrw_cX10_part_32 : zrW 32 cX10_part zrk_cX10_part_32 := by unfold zrW; decide +kernel
theorem dX10_part_32 : decode cX10_part 32 = .ok (.iload_n 1, 1) := zrD zrw_cX10_part_32 (i := 0) (by decide +kernel) rfl
theorem dX10_part_33 : decode cX10_part 33 = .ok (.invokevirtual 290, 3) := zrD zrw_cX10_part_32 (i := 1) (by decide +kernel) rfl
theorem dX10_part_36 : decode cX10_part 36 = .ok (.sipush 1000, 3) := zrD zrw_cX10_part_32 (i := 4) (by decide +kernel) rfl
theorem dX10_part_39 : decode cX10_part 39 = .ok (.imul, 1) := zrD zrw_cX10_part_32 (i := 7) (by decide +kernel) rfl
theorem dX10_part_40 : decode cX10_part 40 = .ok (.iload_n 2, 1) := zrD zrw_cX10_part_32 (i := 8) (by decide +kernel) rfl
theorem dX10_part_41 : decode cX10_part 41 = .ok (.idiv, 1) := zrD zrw_cX10_part_32 (i := 9) (by decide +kernel) rfl
theorem dX10_part_42 : decode cX10_part 42 = .ok (.ireturn, 1) := zrD zrw_cX10_part_32 (i := 10) (by decide +kernel) rfl
def zrk_cX10_main_0 : ByteArray := .mk #[42, 182, 1, 21, 153, 0, 7, 27, 156, 0, 5, 2, 172, 42, 182, 0, 113, 3, 61, 3, 62, 29, 27, 162, 0, 20, 28, 2, 159, 0, 15, 42]
theorem zrw_cX10_main_0 : zrW 0 cX10_main zrk_cX10_main_0 := by unfold zrW; decide +kernel
theorem dX10_main_0 : decode cX10_main 0 = .ok (.aload_n 0, 1) := zrD zrw_cX10_main_0 (i := 0) (by decide +kernel) rfl
theorem dX10_main_1 : decode cX10_main 1 = .ok (.invokevirtual 277, 3) := zrD zrw_cX10_main_0 (i := 1) (by decide +kernel) rfl
theorem dX10_main_4 : decode cX10_main 4 = .ok (.ifCond .eq 7, 3) := zrD zrw_cX10_main_0 (i := 4) (by decide +kernel) rfl
theorem dX10_main_7 : decode cX10_main 7 = .ok (.iload_n 1, 1) := zrD zrw_cX10_main_0 (i := 7) (by decide +kernel) rfl
theorem dX10_main_8 : decode cX10_main 8 = .ok (.ifCond .ge 5, 3) := zrD zrw_cX10_main_0 (i := 8) (by decide +kernel) rfl
theorem dX10_main_11 : decode cX10_main 11 = .ok (.iconst (-1), 1) := zrD zrw_cX10_main_0 (i := 11) (by decide +kernel) rfl
theorem dX10_main_12 : decode cX10_main 12 = .ok (.ireturn, 1) := zrD zrw_cX10_main_0 (i := 12) (by decide +kernel) rfl
theorem dX10_main_13 : decode cX10_main 13 = .ok (.aload_n 0, 1) := zrD zrw_cX10_main_0 (i := 13) (by decide +kernel) rfl
theorem dX10_main_14 : decode cX10_main 14 = .ok (.invokevirtual 113, 3) := zrD zrw_cX10_main_0 (i := 14) (by decide +kernel) rfl
theorem dX10_main_17 : decode cX10_main 17 = .ok (.iconst 0, 1) := zrD zrw_cX10_main_0 (i := 17) (by decide +kernel) rfl
theorem dX10_main_18 : decode cX10_main 18 = .ok (.istore_n 2, 1) := zrD zrw_cX10_main_0 (i := 18) (by decide +kernel) rfl
theorem dX10_main_19 : decode cX10_main 19 = .ok (.iconst 0, 1) := zrD zrw_cX10_main_0 (i := 19) (by decide +kernel) rfl
theorem dX10_main_20 : decode cX10_main 20 = .ok (.istore_n 3, 1) := zrD zrw_cX10_main_0 (i := 20) (by decide +kernel) rfl
theorem dX10_main_21 : decode cX10_main 21 = .ok (.iload_n 3, 1) := zrD zrw_cX10_main_0 (i := 21) (by decide +kernel) rfl
theorem dX10_main_22 : decode cX10_main 22 = .ok (.iload_n 1, 1) := zrD zrw_cX10_main_0 (i := 22) (by decide +kernel) rfl
theorem dX10_main_23 : decode cX10_main 23 = .ok (.if_icmp .ge 20, 3) := zrD zrw_cX10_main_0 (i := 23) (by decide +kernel) rfl
theorem dX10_main_26 : decode cX10_main 26 = .ok (.iload_n 2, 1) := zrD zrw_cX10_main_0 (i := 26) (by decide +kernel) rfl
theorem dX10_main_27 : decode cX10_main 27 = .ok (.iconst (-1), 1) := zrD zrw_cX10_main_0 (i := 27) (by decide +kernel) rfl
theorem dX10_main_28 : decode cX10_main 28 = .ok (.if_icmp .eq 15, 3) := zrD zrw_cX10_main_0 (i := 28) (by decide +kernel) rfl
theorem dX10_main_31 : decode cX10_main 31 = .ok (.aload_n 0, 1) := zrD zrw_cX10_main_0 (i := 31) (by decide +kernel) rfl
def zrk_cX10_main_32 : ByteArray := .mk #[28, 182, 1, 37, 61, 132, 3, 1, 167, 255, 237, 28, 172]
theorem zrw_cX10_main_32 : zrW 32 cX10_main zrk_cX10_main_32 := by unfold zrW; decide +kernel
theorem dX10_main_32 : decode cX10_main 32 = .ok (.iload_n 2, 1) := zrD zrw_cX10_main_32 (i := 0) (by decide +kernel) rfl
theorem dX10_main_33 : decode cX10_main 33 = .ok (.invokevirtual 293, 3) := zrD zrw_cX10_main_32 (i := 1) (by decide +kernel) rfl
theorem dX10_main_36 : decode cX10_main 36 = .ok (.istore_n 2, 1) := zrD zrw_cX10_main_32 (i := 4) (by decide +kernel) rfl
theorem dX10_main_37 : decode cX10_main 37 = .ok (.iinc 3 1, 3) := zrD zrw_cX10_main_32 (i := 5) (by decide +kernel) rfl
theorem dX10_main_40 : decode cX10_main 40 = .ok (.goto (-19), 3) := zrD zrw_cX10_main_32 (i := 8) (by decide +kernel) rfl
theorem dX10_main_43 : decode cX10_main 43 = .ok (.iload_n 2, 1) := zrD zrw_cX10_main_32 (i := 11) (by decide +kernel) rfl
theorem dX10_main_44 : decode cX10_main 44 = .ok (.ireturn, 1) := zrD zrw_cX10_main_32 (i := 12) (by decide +kernel) rfl
def zrk_cX10_greatestInto_0 : ByteArray := .mk #[2, 61, 4, 62, 29, 42, 180, 0, 70, 180, 0, 175, 162, 0, 50, 42, 180, 0, 52, 180, 0, 116, 29, 46, 27, 160, 0, 31, 28, 2]
theorem zrw_cX10_greatestInto_0 : zrW 0 cX10_greatestInto zrk_cX10_greatestInto_0 := by unfold zrW; decide +kernel
theorem dX10_greatestInto_0 : decode cX10_greatestInto 0 = .ok (.iconst (-1), 1) := zrD zrw_cX10_greatestInto_0 (i := 0) (by decide +kernel) rfl
theorem dX10_greatestInto_1 : decode cX10_greatestInto 1 = .ok (.istore_n 2, 1) := zrD zrw_cX10_greatestInto_0 (i := 1) (by decide +kernel) rfl
theorem dX10_greatestInto_2 : decode cX10_greatestInto 2 = .ok (.iconst 1, 1) := zrD zrw_cX10_greatestInto_0 (i := 2) (by decide +kernel) rfl
theorem dX10_greatestInto_3 : decode cX10_greatestInto 3 = .ok (.istore_n 3, 1) := zrD zrw_cX10_greatestInto_0 (i := 3) (by decide +kernel) rfl
theorem dX10_greatestInto_4 : decode cX10_greatestInto 4 = .ok (.iload_n 3, 1) := zrD zrw_cX10_greatestInto_0 (i := 4) (by decide +kernel) rfl
theorem dX10_greatestInto_5 : decode cX10_greatestInto 5 = .ok (.aload_n 0, 1) := zrD zrw_cX10_greatestInto_0 (i := 5) (by decide +kernel) rfl
theorem dX10_greatestInto_6 : decode cX10_greatestInto 6 = .ok (.getfield 70, 3) := zrD zrw_cX10_greatestInto_0 (i := 6) (by decide +kernel) rfl
theorem dX10_greatestInto_9 : decode cX10_greatestInto 9 = .ok (.getfield 175, 3) := zrD zrw_cX10_greatestInto_0 (i := 9) (by decide +kernel) rfl
theorem dX10_greatestInto_12 : decode cX10_greatestInto 12 = .ok (.if_icmp .ge 50, 3) := zrD zrw_cX10_greatestInto_0 (i := 12) (by decide +kernel) rfl
theorem dX10_greatestInto_15 : decode cX10_greatestInto 15 = .ok (.aload_n 0, 1) := zrD zrw_cX10_greatestInto_0 (i := 15) (by decide +kernel) rfl
theorem dX10_greatestInto_16 : decode cX10_greatestInto 16 = .ok (.getfield 52, 3) := zrD zrw_cX10_greatestInto_0 (i := 16) (by decide +kernel) rfl
theorem dX10_greatestInto_19 : decode cX10_greatestInto 19 = .ok (.getfield 116, 3) := zrD zrw_cX10_greatestInto_0 (i := 19) (by decide +kernel) rfl
theorem dX10_greatestInto_22 : decode cX10_greatestInto 22 = .ok (.iload_n 3, 1) := zrD zrw_cX10_greatestInto_0 (i := 22) (by decide +kernel) rfl
theorem dX10_greatestInto_23 : decode cX10_greatestInto 23 = .ok (.iaload, 1) := zrD zrw_cX10_greatestInto_0 (i := 23) (by decide +kernel) rfl
theorem dX10_greatestInto_24 : decode cX10_greatestInto 24 = .ok (.iload_n 1, 1) := zrD zrw_cX10_greatestInto_0 (i := 24) (by decide +kernel) rfl
theorem dX10_greatestInto_25 : decode cX10_greatestInto 25 = .ok (.if_icmp .ne 31, 3) := zrD zrw_cX10_greatestInto_0 (i := 25) (by decide +kernel) rfl
theorem dX10_greatestInto_28 : decode cX10_greatestInto 28 = .ok (.iload_n 2, 1) := zrD zrw_cX10_greatestInto_0 (i := 28) (by decide +kernel) rfl
theorem dX10_greatestInto_29 : decode cX10_greatestInto 29 = .ok (.iconst (-1), 1) := zrD zrw_cX10_greatestInto_0 (i := 29) (by decide +kernel) rfl
def zrk_cX10_greatestInto_30 : ByteArray := .mk #[159, 0, 24, 42, 180, 0, 26, 180, 0, 135, 29, 46, 42, 180, 0, 26, 180, 0, 135, 28, 46, 164, 0, 5, 29, 61, 132, 3, 1, 167, 255, 201]
theorem zrw_cX10_greatestInto_30 : zrW 30 cX10_greatestInto zrk_cX10_greatestInto_30 := by unfold zrW; decide +kernel
theorem dX10_greatestInto_30 : decode cX10_greatestInto 30 = .ok (.if_icmp .eq 24, 3) := zrD zrw_cX10_greatestInto_30 (i := 0) (by decide +kernel) rfl
theorem dX10_greatestInto_33 : decode cX10_greatestInto 33 = .ok (.aload_n 0, 1) := zrD zrw_cX10_greatestInto_30 (i := 3) (by decide +kernel) rfl
theorem dX10_greatestInto_34 : decode cX10_greatestInto 34 = .ok (.getfield 26, 3) := zrD zrw_cX10_greatestInto_30 (i := 4) (by decide +kernel) rfl
theorem dX10_greatestInto_37 : decode cX10_greatestInto 37 = .ok (.getfield 135, 3) := zrD zrw_cX10_greatestInto_30 (i := 7) (by decide +kernel) rfl
theorem dX10_greatestInto_40 : decode cX10_greatestInto 40 = .ok (.iload_n 3, 1) := zrD zrw_cX10_greatestInto_30 (i := 10) (by decide +kernel) rfl
theorem dX10_greatestInto_41 : decode cX10_greatestInto 41 = .ok (.iaload, 1) := zrD zrw_cX10_greatestInto_30 (i := 11) (by decide +kernel) rfl
theorem dX10_greatestInto_42 : decode cX10_greatestInto 42 = .ok (.aload_n 0, 1) := zrD zrw_cX10_greatestInto_30 (i := 12) (by decide +kernel) rfl
theorem dX10_greatestInto_43 : decode cX10_greatestInto 43 = .ok (.getfield 26, 3) := zrD zrw_cX10_greatestInto_30 (i := 13) (by decide +kernel) rfl
theorem dX10_greatestInto_46 : decode cX10_greatestInto 46 = .ok (.getfield 135, 3) := zrD zrw_cX10_greatestInto_30 (i := 16) (by decide +kernel) rfl
theorem dX10_greatestInto_49 : decode cX10_greatestInto 49 = .ok (.iload_n 2, 1) := zrD zrw_cX10_greatestInto_30 (i := 19) (by decide +kernel) rfl
theorem dX10_greatestInto_50 : decode cX10_greatestInto 50 = .ok (.iaload, 1) := zrD zrw_cX10_greatestInto_30 (i := 20) (by decide +kernel) rfl
theorem dX10_greatestInto_51 : decode cX10_greatestInto 51 = .ok (.if_icmp .le 5, 3) := zrD zrw_cX10_greatestInto_30 (i := 21) (by decide +kernel) rfl
theorem dX10_greatestInto_54 : decode cX10_greatestInto 54 = .ok (.iload_n 3, 1) := zrD zrw_cX10_greatestInto_30 (i := 24) (by decide +kernel) rfl
theorem dX10_greatestInto_55 : decode cX10_greatestInto 55 = .ok (.istore_n 2, 1) := zrD zrw_cX10_greatestInto_30 (i := 25) (by decide +kernel) rfl
theorem dX10_greatestInto_56 : decode cX10_greatestInto 56 = .ok (.iinc 3 1, 3) := zrD zrw_cX10_greatestInto_30 (i := 26) (by decide +kernel) rfl
theorem dX10_greatestInto_59 : decode cX10_greatestInto 59 = .ok (.goto (-55), 3) := zrD zrw_cX10_greatestInto_30 (i := 29) (by decide +kernel) rfl
def zrk_cX10_greatestInto_62 : ByteArray := .mk #[28, 172]
theorem zrw_cX10_greatestInto_62 : zrW 62 cX10_greatestInto zrk_cX10_greatestInto_62 := by unfold zrW; decide +kernel
theorem dX10_greatestInto_62 : decode cX10_greatestInto 62 = .ok (.iload_n 2, 1) := zrD zrw_cX10_greatestInto_62 (i := 0) (by decide +kernel) rfl
theorem dX10_greatestInto_63 : decode cX10_greatestInto 63 = .ok (.ireturn, 1) := zrD zrw_cX10_greatestInto_62 (i := 1) (by decide +kernel) rfl
def zrk_cX10_tryFromNow_0 : ByteArray := .mk #[42, 180, 0, 56, 42, 180, 0, 52, 182, 0, 241, 42, 180, 0, 26, 42, 180, 0, 70, 42, 180, 0, 56, 182, 1, 15, 177]
theorem zrw_cX10_tryFromNow_0 : zrW 0 cX10_tryFromNow zrk_cX10_tryFromNow_0 := by unfold zrW; decide +kernel
theorem dX10_tryFromNow_0 : decode cX10_tryFromNow 0 = .ok (.aload_n 0, 1) := zrD zrw_cX10_tryFromNow_0 (i := 0) (by decide +kernel) rfl
theorem dX10_tryFromNow_1 : decode cX10_tryFromNow 1 = .ok (.getfield 56, 3) := zrD zrw_cX10_tryFromNow_0 (i := 1) (by decide +kernel) rfl
theorem dX10_tryFromNow_4 : decode cX10_tryFromNow 4 = .ok (.aload_n 0, 1) := zrD zrw_cX10_tryFromNow_0 (i := 4) (by decide +kernel) rfl
theorem dX10_tryFromNow_5 : decode cX10_tryFromNow 5 = .ok (.getfield 52, 3) := zrD zrw_cX10_tryFromNow_0 (i := 5) (by decide +kernel) rfl
theorem dX10_tryFromNow_8 : decode cX10_tryFromNow 8 = .ok (.invokevirtual 241, 3) := zrD zrw_cX10_tryFromNow_0 (i := 8) (by decide +kernel) rfl
theorem dX10_tryFromNow_11 : decode cX10_tryFromNow 11 = .ok (.aload_n 0, 1) := zrD zrw_cX10_tryFromNow_0 (i := 11) (by decide +kernel) rfl
theorem dX10_tryFromNow_12 : decode cX10_tryFromNow 12 = .ok (.getfield 26, 3) := zrD zrw_cX10_tryFromNow_0 (i := 12) (by decide +kernel) rfl
theorem dX10_tryFromNow_15 : decode cX10_tryFromNow 15 = .ok (.aload_n 0, 1) := zrD zrw_cX10_tryFromNow_0 (i := 15) (by decide +kernel) rfl
theorem dX10_tryFromNow_16 : decode cX10_tryFromNow 16 = .ok (.getfield 70, 3) := zrD zrw_cX10_tryFromNow_0 (i := 16) (by decide +kernel) rfl
theorem dX10_tryFromNow_19 : decode cX10_tryFromNow 19 = .ok (.aload_n 0, 1) := zrD zrw_cX10_tryFromNow_0 (i := 19) (by decide +kernel) rfl
theorem dX10_tryFromNow_20 : decode cX10_tryFromNow 20 = .ok (.getfield 56, 3) := zrD zrw_cX10_tryFromNow_0 (i := 20) (by decide +kernel) rfl
theorem dX10_tryFromNow_23 : decode cX10_tryFromNow 23 = .ok (.invokevirtual 271, 3) := zrD zrw_cX10_tryFromNow_0 (i := 23) (by decide +kernel) rfl
theorem dX10_tryFromNow_26 : decode cX10_tryFromNow 26 = .ok (.return_, 1) := zrD zrw_cX10_tryFromNow_0 (i := 26) (by decide +kernel) rfl
def zrk_cX10_agree_0 : ByteArray := .mk #[27, 4, 16, 24, 184, 0, 229, 154, 0, 5, 2, 172, 3, 61, 42, 182, 1, 40, 3, 62, 29, 27, 162, 0, 60, 42, 180, 0, 26, 3]
theorem zrw_cX10_agree_0 : zrW 0 cX10_agree zrk_cX10_agree_0 := by unfold zrW; decide +kernel
theorem dX10_agree_0 : decode cX10_agree 0 = .ok (.iload_n 1, 1) := zrD zrw_cX10_agree_0 (i := 0) (by decide +kernel) rfl
theorem dX10_agree_1 : decode cX10_agree 1 = .ok (.iconst 1, 1) := zrD zrw_cX10_agree_0 (i := 1) (by decide +kernel) rfl
theorem dX10_agree_2 : decode cX10_agree 2 = .ok (.bipush 24, 2) := zrD zrw_cX10_agree_0 (i := 2) (by decide +kernel) rfl
theorem dX10_agree_4 : decode cX10_agree 4 = .ok (.invokestatic 229, 3) := zrD zrw_cX10_agree_0 (i := 4) (by decide +kernel) rfl
theorem dX10_agree_7 : decode cX10_agree 7 = .ok (.ifCond .ne 5, 3) := zrD zrw_cX10_agree_0 (i := 7) (by decide +kernel) rfl
theorem dX10_agree_10 : decode cX10_agree 10 = .ok (.iconst (-1), 1) := zrD zrw_cX10_agree_0 (i := 10) (by decide +kernel) rfl
theorem dX10_agree_11 : decode cX10_agree 11 = .ok (.ireturn, 1) := zrD zrw_cX10_agree_0 (i := 11) (by decide +kernel) rfl
theorem dX10_agree_12 : decode cX10_agree 12 = .ok (.iconst 0, 1) := zrD zrw_cX10_agree_0 (i := 12) (by decide +kernel) rfl
theorem dX10_agree_13 : decode cX10_agree 13 = .ok (.istore_n 2, 1) := zrD zrw_cX10_agree_0 (i := 13) (by decide +kernel) rfl
theorem dX10_agree_14 : decode cX10_agree 14 = .ok (.aload_n 0, 1) := zrD zrw_cX10_agree_0 (i := 14) (by decide +kernel) rfl
theorem dX10_agree_15 : decode cX10_agree 15 = .ok (.invokevirtual 296, 3) := zrD zrw_cX10_agree_0 (i := 15) (by decide +kernel) rfl
theorem dX10_agree_18 : decode cX10_agree 18 = .ok (.iconst 0, 1) := zrD zrw_cX10_agree_0 (i := 18) (by decide +kernel) rfl
theorem dX10_agree_19 : decode cX10_agree 19 = .ok (.istore_n 3, 1) := zrD zrw_cX10_agree_0 (i := 19) (by decide +kernel) rfl
theorem dX10_agree_20 : decode cX10_agree 20 = .ok (.iload_n 3, 1) := zrD zrw_cX10_agree_0 (i := 20) (by decide +kernel) rfl
theorem dX10_agree_21 : decode cX10_agree 21 = .ok (.iload_n 1, 1) := zrD zrw_cX10_agree_0 (i := 21) (by decide +kernel) rfl
theorem dX10_agree_22 : decode cX10_agree 22 = .ok (.if_icmp .ge 60, 3) := zrD zrw_cX10_agree_0 (i := 22) (by decide +kernel) rfl
theorem dX10_agree_25 : decode cX10_agree 25 = .ok (.aload_n 0, 1) := zrD zrw_cX10_agree_0 (i := 25) (by decide +kernel) rfl
theorem dX10_agree_26 : decode cX10_agree 26 = .ok (.getfield 26, 3) := zrD zrw_cX10_agree_0 (i := 26) (by decide +kernel) rfl
theorem dX10_agree_29 : decode cX10_agree 29 = .ok (.iconst 0, 1) := zrD zrw_cX10_agree_0 (i := 29) (by decide +kernel) rfl
def zrk_cX10_agree_30 : ByteArray := .mk #[182, 0, 172, 54, 4, 21, 4, 158, 0, 32, 21, 4, 42, 180, 0, 26, 4, 182, 0, 172, 160, 0, 19, 21, 4, 42, 180, 0, 26, 5]
theorem zrw_cX10_agree_30 : zrW 30 cX10_agree zrk_cX10_agree_30 := by unfold zrW; decide +kernel
theorem dX10_agree_30 : decode cX10_agree 30 = .ok (.invokevirtual 172, 3) := zrD zrw_cX10_agree_30 (i := 0) (by decide +kernel) rfl
theorem dX10_agree_33 : decode cX10_agree 33 = .ok (.istore 4, 2) := zrD zrw_cX10_agree_30 (i := 3) (by decide +kernel) rfl
theorem dX10_agree_35 : decode cX10_agree 35 = .ok (.iload 4, 2) := zrD zrw_cX10_agree_30 (i := 5) (by decide +kernel) rfl
theorem dX10_agree_37 : decode cX10_agree 37 = .ok (.ifCond .le 32, 3) := zrD zrw_cX10_agree_30 (i := 7) (by decide +kernel) rfl
theorem dX10_agree_40 : decode cX10_agree 40 = .ok (.iload 4, 2) := zrD zrw_cX10_agree_30 (i := 10) (by decide +kernel) rfl
theorem dX10_agree_42 : decode cX10_agree 42 = .ok (.aload_n 0, 1) := zrD zrw_cX10_agree_30 (i := 12) (by decide +kernel) rfl
theorem dX10_agree_43 : decode cX10_agree 43 = .ok (.getfield 26, 3) := zrD zrw_cX10_agree_30 (i := 13) (by decide +kernel) rfl
theorem dX10_agree_46 : decode cX10_agree 46 = .ok (.iconst 1, 1) := zrD zrw_cX10_agree_30 (i := 16) (by decide +kernel) rfl
theorem dX10_agree_47 : decode cX10_agree 47 = .ok (.invokevirtual 172, 3) := zrD zrw_cX10_agree_30 (i := 17) (by decide +kernel) rfl
theorem dX10_agree_50 : decode cX10_agree 50 = .ok (.if_icmp .ne 19, 3) := zrD zrw_cX10_agree_30 (i := 20) (by decide +kernel) rfl
theorem dX10_agree_53 : decode cX10_agree 53 = .ok (.iload 4, 2) := zrD zrw_cX10_agree_30 (i := 23) (by decide +kernel) rfl
theorem dX10_agree_55 : decode cX10_agree 55 = .ok (.aload_n 0, 1) := zrD zrw_cX10_agree_30 (i := 25) (by decide +kernel) rfl
theorem dX10_agree_56 : decode cX10_agree 56 = .ok (.getfield 26, 3) := zrD zrw_cX10_agree_30 (i := 26) (by decide +kernel) rfl
theorem dX10_agree_59 : decode cX10_agree 59 = .ok (.iconst 2, 1) := zrD zrw_cX10_agree_30 (i := 29) (by decide +kernel) rfl
def zrk_cX10_agree_60 : ByteArray := .mk #[182, 0, 172, 160, 0, 6, 132, 2, 1, 42, 180, 0, 26, 182, 1, 43, 132, 3, 1, 167, 255, 197, 28, 172]
theorem zrw_cX10_agree_60 : zrW 60 cX10_agree zrk_cX10_agree_60 := by unfold zrW; decide +kernel
theorem dX10_agree_60 : decode cX10_agree 60 = .ok (.invokevirtual 172, 3) := zrD zrw_cX10_agree_60 (i := 0) (by decide +kernel) rfl
theorem dX10_agree_63 : decode cX10_agree 63 = .ok (.if_icmp .ne 6, 3) := zrD zrw_cX10_agree_60 (i := 3) (by decide +kernel) rfl
theorem dX10_agree_66 : decode cX10_agree 66 = .ok (.iinc 2 1, 3) := zrD zrw_cX10_agree_60 (i := 6) (by decide +kernel) rfl
theorem dX10_agree_69 : decode cX10_agree 69 = .ok (.aload_n 0, 1) := zrD zrw_cX10_agree_60 (i := 9) (by decide +kernel) rfl
theorem dX10_agree_70 : decode cX10_agree 70 = .ok (.getfield 26, 3) := zrD zrw_cX10_agree_60 (i := 10) (by decide +kernel) rfl
theorem dX10_agree_73 : decode cX10_agree 73 = .ok (.invokevirtual 299, 3) := zrD zrw_cX10_agree_60 (i := 13) (by decide +kernel) rfl
theorem dX10_agree_76 : decode cX10_agree 76 = .ok (.iinc 3 1, 3) := zrD zrw_cX10_agree_60 (i := 16) (by decide +kernel) rfl
theorem dX10_agree_79 : decode cX10_agree 79 = .ok (.goto (-59), 3) := zrD zrw_cX10_agree_60 (i := 19) (by decide +kernel) rfl
theorem dX10_agree_82 : decode cX10_agree 82 = .ok (.iload_n 2, 1) := zrD zrw_cX10_agree_60 (i := 22) (by decide +kernel) rfl
theorem dX10_agree_83 : decode cX10_agree 83 = .ok (.ireturn, 1) := zrD zrw_cX10_agree_60 (i := 23) (by decide +kernel) rfl
def zrk_cX10_driest_0 : ByteArray := .mk #[42, 182, 1, 21, 153, 0, 22, 27, 4, 16, 24, 184, 0, 229, 153, 0, 12, 28, 3, 4, 184, 0, 229, 154, 0, 5, 2, 172, 3, 62, 42]
theorem zrw_cX10_driest_0 : zrW 0 cX10_driest zrk_cX10_driest_0 := by unfold zrW; decide +kernel
theorem dX10_driest_0 : decode cX10_driest 0 = .ok (.aload_n 0, 1) := zrD zrw_cX10_driest_0 (i := 0) (by decide +kernel) rfl
theorem dX10_driest_1 : decode cX10_driest 1 = .ok (.invokevirtual 277, 3) := zrD zrw_cX10_driest_0 (i := 1) (by decide +kernel) rfl
theorem dX10_driest_4 : decode cX10_driest 4 = .ok (.ifCond .eq 22, 3) := zrD zrw_cX10_driest_0 (i := 4) (by decide +kernel) rfl
theorem dX10_driest_7 : decode cX10_driest 7 = .ok (.iload_n 1, 1) := zrD zrw_cX10_driest_0 (i := 7) (by decide +kernel) rfl
theorem dX10_driest_8 : decode cX10_driest 8 = .ok (.iconst 1, 1) := zrD zrw_cX10_driest_0 (i := 8) (by decide +kernel) rfl
theorem dX10_driest_9 : decode cX10_driest 9 = .ok (.bipush 24, 2) := zrD zrw_cX10_driest_0 (i := 9) (by decide +kernel) rfl
theorem dX10_driest_11 : decode cX10_driest 11 = .ok (.invokestatic 229, 3) := zrD zrw_cX10_driest_0 (i := 11) (by decide +kernel) rfl
theorem dX10_driest_14 : decode cX10_driest 14 = .ok (.ifCond .eq 12, 3) := zrD zrw_cX10_driest_0 (i := 14) (by decide +kernel) rfl
theorem dX10_driest_17 : decode cX10_driest 17 = .ok (.iload_n 2, 1) := zrD zrw_cX10_driest_0 (i := 17) (by decide +kernel) rfl
theorem dX10_driest_18 : decode cX10_driest 18 = .ok (.iconst 0, 1) := zrD zrw_cX10_driest_0 (i := 18) (by decide +kernel) rfl
theorem dX10_driest_19 : decode cX10_driest 19 = .ok (.iconst 1, 1) := zrD zrw_cX10_driest_0 (i := 19) (by decide +kernel) rfl
theorem dX10_driest_20 : decode cX10_driest 20 = .ok (.invokestatic 229, 3) := zrD zrw_cX10_driest_0 (i := 20) (by decide +kernel) rfl
theorem dX10_driest_23 : decode cX10_driest 23 = .ok (.ifCond .ne 5, 3) := zrD zrw_cX10_driest_0 (i := 23) (by decide +kernel) rfl
theorem dX10_driest_26 : decode cX10_driest 26 = .ok (.iconst (-1), 1) := zrD zrw_cX10_driest_0 (i := 26) (by decide +kernel) rfl
theorem dX10_driest_27 : decode cX10_driest 27 = .ok (.ireturn, 1) := zrD zrw_cX10_driest_0 (i := 27) (by decide +kernel) rfl
theorem dX10_driest_28 : decode cX10_driest 28 = .ok (.iconst 0, 1) := zrD zrw_cX10_driest_0 (i := 28) (by decide +kernel) rfl
theorem dX10_driest_29 : decode cX10_driest 29 = .ok (.istore_n 3, 1) := zrD zrw_cX10_driest_0 (i := 29) (by decide +kernel) rfl
theorem dX10_driest_30 : decode cX10_driest 30 = .ok (.aload_n 0, 1) := zrD zrw_cX10_driest_0 (i := 30) (by decide +kernel) rfl
def zrk_cX10_driest_31 : ByteArray := .mk #[182, 1, 40, 42, 182, 0, 191, 54, 4, 4, 54, 5, 21, 5, 27, 162, 0, 34, 42, 180, 0, 26, 182, 1, 43, 42, 182, 0, 191, 21, 4]
theorem zrw_cX10_driest_31 : zrW 31 cX10_driest zrk_cX10_driest_31 := by unfold zrW; decide +kernel
theorem dX10_driest_31 : decode cX10_driest 31 = .ok (.invokevirtual 296, 3) := zrD zrw_cX10_driest_31 (i := 0) (by decide +kernel) rfl
theorem dX10_driest_34 : decode cX10_driest 34 = .ok (.aload_n 0, 1) := zrD zrw_cX10_driest_31 (i := 3) (by decide +kernel) rfl
theorem dX10_driest_35 : decode cX10_driest 35 = .ok (.invokevirtual 191, 3) := zrD zrw_cX10_driest_31 (i := 4) (by decide +kernel) rfl
theorem dX10_driest_38 : decode cX10_driest 38 = .ok (.istore 4, 2) := zrD zrw_cX10_driest_31 (i := 7) (by decide +kernel) rfl
theorem dX10_driest_40 : decode cX10_driest 40 = .ok (.iconst 1, 1) := zrD zrw_cX10_driest_31 (i := 9) (by decide +kernel) rfl
theorem dX10_driest_41 : decode cX10_driest 41 = .ok (.istore 5, 2) := zrD zrw_cX10_driest_31 (i := 10) (by decide +kernel) rfl
theorem dX10_driest_43 : decode cX10_driest 43 = .ok (.iload 5, 2) := zrD zrw_cX10_driest_31 (i := 12) (by decide +kernel) rfl
theorem dX10_driest_45 : decode cX10_driest 45 = .ok (.iload_n 1, 1) := zrD zrw_cX10_driest_31 (i := 14) (by decide +kernel) rfl
theorem dX10_driest_46 : decode cX10_driest 46 = .ok (.if_icmp .ge 34, 3) := zrD zrw_cX10_driest_31 (i := 15) (by decide +kernel) rfl
theorem dX10_driest_49 : decode cX10_driest 49 = .ok (.aload_n 0, 1) := zrD zrw_cX10_driest_31 (i := 18) (by decide +kernel) rfl
theorem dX10_driest_50 : decode cX10_driest 50 = .ok (.getfield 26, 3) := zrD zrw_cX10_driest_31 (i := 19) (by decide +kernel) rfl
theorem dX10_driest_53 : decode cX10_driest 53 = .ok (.invokevirtual 299, 3) := zrD zrw_cX10_driest_31 (i := 22) (by decide +kernel) rfl
theorem dX10_driest_56 : decode cX10_driest 56 = .ok (.aload_n 0, 1) := zrD zrw_cX10_driest_31 (i := 25) (by decide +kernel) rfl
theorem dX10_driest_57 : decode cX10_driest 57 = .ok (.invokevirtual 191, 3) := zrD zrw_cX10_driest_31 (i := 26) (by decide +kernel) rfl
theorem dX10_driest_60 : decode cX10_driest 60 = .ok (.iload 4, 2) := zrD zrw_cX10_driest_31 (i := 29) (by decide +kernel) rfl
def zrk_cX10_driest_62 : ByteArray := .mk #[162, 0, 12, 42, 182, 0, 191, 54, 4, 21, 5, 62, 132, 5, 1, 167, 255, 222, 28, 154, 0, 7, 29, 167, 0, 5, 21, 4, 172]
theorem zrw_cX10_driest_62 : zrW 62 cX10_driest zrk_cX10_driest_62 := by unfold zrW; decide +kernel
theorem dX10_driest_62 : decode cX10_driest 62 = .ok (.if_icmp .ge 12, 3) := zrD zrw_cX10_driest_62 (i := 0) (by decide +kernel) rfl
theorem dX10_driest_65 : decode cX10_driest 65 = .ok (.aload_n 0, 1) := zrD zrw_cX10_driest_62 (i := 3) (by decide +kernel) rfl
theorem dX10_driest_66 : decode cX10_driest 66 = .ok (.invokevirtual 191, 3) := zrD zrw_cX10_driest_62 (i := 4) (by decide +kernel) rfl
theorem dX10_driest_69 : decode cX10_driest 69 = .ok (.istore 4, 2) := zrD zrw_cX10_driest_62 (i := 7) (by decide +kernel) rfl
theorem dX10_driest_71 : decode cX10_driest 71 = .ok (.iload 5, 2) := zrD zrw_cX10_driest_62 (i := 9) (by decide +kernel) rfl
theorem dX10_driest_73 : decode cX10_driest 73 = .ok (.istore_n 3, 1) := zrD zrw_cX10_driest_62 (i := 11) (by decide +kernel) rfl
theorem dX10_driest_74 : decode cX10_driest 74 = .ok (.iinc 5 1, 3) := zrD zrw_cX10_driest_62 (i := 12) (by decide +kernel) rfl
theorem dX10_driest_77 : decode cX10_driest 77 = .ok (.goto (-34), 3) := zrD zrw_cX10_driest_62 (i := 15) (by decide +kernel) rfl
theorem dX10_driest_80 : decode cX10_driest 80 = .ok (.iload_n 2, 1) := zrD zrw_cX10_driest_62 (i := 18) (by decide +kernel) rfl
theorem dX10_driest_81 : decode cX10_driest 81 = .ok (.ifCond .ne 7, 3) := zrD zrw_cX10_driest_62 (i := 19) (by decide +kernel) rfl
theorem dX10_driest_84 : decode cX10_driest 84 = .ok (.iload_n 3, 1) := zrD zrw_cX10_driest_62 (i := 22) (by decide +kernel) rfl
theorem dX10_driest_85 : decode cX10_driest 85 = .ok (.goto 5, 3) := zrD zrw_cX10_driest_62 (i := 23) (by decide +kernel) rfl
theorem dX10_driest_88 : decode cX10_driest 88 = .ok (.iload 4, 2) := zrD zrw_cX10_driest_62 (i := 26) (by decide +kernel) rfl
theorem dX10_driest_90 : decode cX10_driest 90 = .ok (.ireturn, 1) := zrD zrw_cX10_driest_62 (i := 28) (by decide +kernel) rfl
def zrk_cX10_reign_0 : ByteArray := .mk #[42, 27, 182, 0, 169, 153, 0, 22, 28, 4, 16, 24, 184, 0, 229, 153, 0, 12, 29, 3, 4, 184, 0, 229, 154, 0, 5, 2, 172, 42]
theorem zrw_cX10_reign_0 : zrW 0 cX10_reign zrk_cX10_reign_0 := by unfold zrW; decide +kernel
theorem dX10_reign_0 : decode cX10_reign 0 = .ok (.aload_n 0, 1) := zrD zrw_cX10_reign_0 (i := 0) (by decide +kernel) rfl
theorem dX10_reign_1 : decode cX10_reign 1 = .ok (.iload_n 1, 1) := zrD zrw_cX10_reign_0 (i := 1) (by decide +kernel) rfl
theorem dX10_reign_2 : decode cX10_reign 2 = .ok (.invokevirtual 169, 3) := zrD zrw_cX10_reign_0 (i := 2) (by decide +kernel) rfl
theorem dX10_reign_5 : decode cX10_reign 5 = .ok (.ifCond .eq 22, 3) := zrD zrw_cX10_reign_0 (i := 5) (by decide +kernel) rfl
theorem dX10_reign_8 : decode cX10_reign 8 = .ok (.iload_n 2, 1) := zrD zrw_cX10_reign_0 (i := 8) (by decide +kernel) rfl
theorem dX10_reign_9 : decode cX10_reign 9 = .ok (.iconst 1, 1) := zrD zrw_cX10_reign_0 (i := 9) (by decide +kernel) rfl
theorem dX10_reign_10 : decode cX10_reign 10 = .ok (.bipush 24, 2) := zrD zrw_cX10_reign_0 (i := 10) (by decide +kernel) rfl
theorem dX10_reign_12 : decode cX10_reign 12 = .ok (.invokestatic 229, 3) := zrD zrw_cX10_reign_0 (i := 12) (by decide +kernel) rfl
theorem dX10_reign_15 : decode cX10_reign 15 = .ok (.ifCond .eq 12, 3) := zrD zrw_cX10_reign_0 (i := 15) (by decide +kernel) rfl
theorem dX10_reign_18 : decode cX10_reign 18 = .ok (.iload_n 3, 1) := zrD zrw_cX10_reign_0 (i := 18) (by decide +kernel) rfl
theorem dX10_reign_19 : decode cX10_reign 19 = .ok (.iconst 0, 1) := zrD zrw_cX10_reign_0 (i := 19) (by decide +kernel) rfl
theorem dX10_reign_20 : decode cX10_reign 20 = .ok (.iconst 1, 1) := zrD zrw_cX10_reign_0 (i := 20) (by decide +kernel) rfl
theorem dX10_reign_21 : decode cX10_reign 21 = .ok (.invokestatic 229, 3) := zrD zrw_cX10_reign_0 (i := 21) (by decide +kernel) rfl
theorem dX10_reign_24 : decode cX10_reign 24 = .ok (.ifCond .ne 5, 3) := zrD zrw_cX10_reign_0 (i := 24) (by decide +kernel) rfl
theorem dX10_reign_27 : decode cX10_reign 27 = .ok (.iconst (-1), 1) := zrD zrw_cX10_reign_0 (i := 27) (by decide +kernel) rfl
theorem dX10_reign_28 : decode cX10_reign 28 = .ok (.ireturn, 1) := zrD zrw_cX10_reign_0 (i := 28) (by decide +kernel) rfl
theorem dX10_reign_29 : decode cX10_reign 29 = .ok (.aload_n 0, 1) := zrD zrw_cX10_reign_0 (i := 29) (by decide +kernel) rfl
def zrk_cX10_reign_30 : ByteArray := .mk #[180, 0, 63, 3, 184, 1, 46, 42, 182, 1, 40, 3, 54, 4, 21, 4, 28, 162, 0, 42, 42, 180, 0, 26, 27, 182, 0, 172, 54, 5, 21, 5]
theorem zrw_cX10_reign_30 : zrW 30 cX10_reign zrk_cX10_reign_30 := by unfold zrW; decide +kernel
theorem dX10_reign_30 : decode cX10_reign 30 = .ok (.getfield 63, 3) := zrD zrw_cX10_reign_30 (i := 0) (by decide +kernel) rfl
theorem dX10_reign_33 : decode cX10_reign 33 = .ok (.iconst 0, 1) := zrD zrw_cX10_reign_30 (i := 3) (by decide +kernel) rfl
theorem dX10_reign_34 : decode cX10_reign 34 = .ok (.invokestatic 302, 3) := zrD zrw_cX10_reign_30 (i := 4) (by decide +kernel) rfl
theorem dX10_reign_37 : decode cX10_reign 37 = .ok (.aload_n 0, 1) := zrD zrw_cX10_reign_30 (i := 7) (by decide +kernel) rfl
theorem dX10_reign_38 : decode cX10_reign 38 = .ok (.invokevirtual 296, 3) := zrD zrw_cX10_reign_30 (i := 8) (by decide +kernel) rfl
theorem dX10_reign_41 : decode cX10_reign 41 = .ok (.iconst 0, 1) := zrD zrw_cX10_reign_30 (i := 11) (by decide +kernel) rfl
theorem dX10_reign_42 : decode cX10_reign 42 = .ok (.istore 4, 2) := zrD zrw_cX10_reign_30 (i := 12) (by decide +kernel) rfl
theorem dX10_reign_44 : decode cX10_reign 44 = .ok (.iload 4, 2) := zrD zrw_cX10_reign_30 (i := 14) (by decide +kernel) rfl
theorem dX10_reign_46 : decode cX10_reign 46 = .ok (.iload_n 2, 1) := zrD zrw_cX10_reign_30 (i := 16) (by decide +kernel) rfl
theorem dX10_reign_47 : decode cX10_reign 47 = .ok (.if_icmp .ge 42, 3) := zrD zrw_cX10_reign_30 (i := 17) (by decide +kernel) rfl
theorem dX10_reign_50 : decode cX10_reign 50 = .ok (.aload_n 0, 1) := zrD zrw_cX10_reign_30 (i := 20) (by decide +kernel) rfl
theorem dX10_reign_51 : decode cX10_reign 51 = .ok (.getfield 26, 3) := zrD zrw_cX10_reign_30 (i := 21) (by decide +kernel) rfl
theorem dX10_reign_54 : decode cX10_reign 54 = .ok (.iload_n 1, 1) := zrD zrw_cX10_reign_30 (i := 24) (by decide +kernel) rfl
theorem dX10_reign_55 : decode cX10_reign 55 = .ok (.invokevirtual 172, 3) := zrD zrw_cX10_reign_30 (i := 25) (by decide +kernel) rfl
theorem dX10_reign_58 : decode cX10_reign 58 = .ok (.istore 5, 2) := zrD zrw_cX10_reign_30 (i := 28) (by decide +kernel) rfl
theorem dX10_reign_60 : decode cX10_reign 60 = .ok (.iload 5, 2) := zrD zrw_cX10_reign_30 (i := 30) (by decide +kernel) rfl
def zrk_cX10_reign_62 : ByteArray := .mk #[158, 0, 14, 42, 180, 0, 63, 21, 5, 92, 46, 4, 96, 79, 42, 180, 0, 26, 182, 1, 43, 132, 4, 1, 167, 255, 214, 29, 154, 0, 10, 42]
theorem zrw_cX10_reign_62 : zrW 62 cX10_reign zrk_cX10_reign_62 := by unfold zrW; decide +kernel
theorem dX10_reign_62 : decode cX10_reign 62 = .ok (.ifCond .le 14, 3) := zrD zrw_cX10_reign_62 (i := 0) (by decide +kernel) rfl
theorem dX10_reign_65 : decode cX10_reign 65 = .ok (.aload_n 0, 1) := zrD zrw_cX10_reign_62 (i := 3) (by decide +kernel) rfl
theorem dX10_reign_66 : decode cX10_reign 66 = .ok (.getfield 63, 3) := zrD zrw_cX10_reign_62 (i := 4) (by decide +kernel) rfl
theorem dX10_reign_69 : decode cX10_reign 69 = .ok (.iload 5, 2) := zrD zrw_cX10_reign_62 (i := 7) (by decide +kernel) rfl
theorem dX10_reign_71 : decode cX10_reign 71 = .ok (.dup2, 1) := zrD zrw_cX10_reign_62 (i := 9) (by decide +kernel) rfl
theorem dX10_reign_72 : decode cX10_reign 72 = .ok (.iaload, 1) := zrD zrw_cX10_reign_62 (i := 10) (by decide +kernel) rfl
theorem dX10_reign_73 : decode cX10_reign 73 = .ok (.iconst 1, 1) := zrD zrw_cX10_reign_62 (i := 11) (by decide +kernel) rfl
theorem dX10_reign_74 : decode cX10_reign 74 = .ok (.iadd, 1) := zrD zrw_cX10_reign_62 (i := 12) (by decide +kernel) rfl
theorem dX10_reign_75 : decode cX10_reign 75 = .ok (.iastore, 1) := zrD zrw_cX10_reign_62 (i := 13) (by decide +kernel) rfl
theorem dX10_reign_76 : decode cX10_reign 76 = .ok (.aload_n 0, 1) := zrD zrw_cX10_reign_62 (i := 14) (by decide +kernel) rfl
theorem dX10_reign_77 : decode cX10_reign 77 = .ok (.getfield 26, 3) := zrD zrw_cX10_reign_62 (i := 15) (by decide +kernel) rfl
theorem dX10_reign_80 : decode cX10_reign 80 = .ok (.invokevirtual 299, 3) := zrD zrw_cX10_reign_62 (i := 18) (by decide +kernel) rfl
theorem dX10_reign_83 : decode cX10_reign 83 = .ok (.iinc 4 1, 3) := zrD zrw_cX10_reign_62 (i := 21) (by decide +kernel) rfl
theorem dX10_reign_86 : decode cX10_reign 86 = .ok (.goto (-42), 3) := zrD zrw_cX10_reign_62 (i := 24) (by decide +kernel) rfl
theorem dX10_reign_89 : decode cX10_reign 89 = .ok (.iload_n 3, 1) := zrD zrw_cX10_reign_62 (i := 27) (by decide +kernel) rfl
theorem dX10_reign_90 : decode cX10_reign 90 = .ok (.ifCond .ne 10, 3) := zrD zrw_cX10_reign_62 (i := 28) (by decide +kernel) rfl
theorem dX10_reign_93 : decode cX10_reign 93 = .ok (.aload_n 0, 1) := zrD zrw_cX10_reign_62 (i := 31) (by decide +kernel) rfl
def zrk_cX10_reign_94 : ByteArray := .mk #[182, 1, 52, 167, 0, 7, 42, 182, 1, 55, 172]
theorem zrw_cX10_reign_94 : zrW 94 cX10_reign zrk_cX10_reign_94 := by unfold zrW; decide +kernel
theorem dX10_reign_94 : decode cX10_reign 94 = .ok (.invokevirtual 308, 3) := zrD zrw_cX10_reign_94 (i := 0) (by decide +kernel) rfl
theorem dX10_reign_97 : decode cX10_reign 97 = .ok (.goto 7, 3) := zrD zrw_cX10_reign_94 (i := 3) (by decide +kernel) rfl
theorem dX10_reign_100 : decode cX10_reign 100 = .ok (.aload_n 0, 1) := zrD zrw_cX10_reign_94 (i := 6) (by decide +kernel) rfl
theorem dX10_reign_101 : decode cX10_reign 101 = .ok (.invokevirtual 311, 3) := zrD zrw_cX10_reign_94 (i := 7) (by decide +kernel) rfl
theorem dX10_reign_104 : decode cX10_reign 104 = .ok (.ireturn, 1) := zrD zrw_cX10_reign_94 (i := 10) (by decide +kernel) rfl
def zrk_cX10_tallied_0 : ByteArray := .mk #[3, 60, 4, 61, 28, 42, 180, 0, 70, 180, 0, 175, 162, 0, 21, 42, 180, 0, 63, 28, 46, 158, 0, 6, 132, 1, 1, 132, 2, 1]
theorem zrw_cX10_tallied_0 : zrW 0 cX10_tallied zrk_cX10_tallied_0 := by unfold zrW; decide +kernel
theorem dX10_tallied_0 : decode cX10_tallied 0 = .ok (.iconst 0, 1) := zrD zrw_cX10_tallied_0 (i := 0) (by decide +kernel) rfl
theorem dX10_tallied_1 : decode cX10_tallied 1 = .ok (.istore_n 1, 1) := zrD zrw_cX10_tallied_0 (i := 1) (by decide +kernel) rfl
theorem dX10_tallied_2 : decode cX10_tallied 2 = .ok (.iconst 1, 1) := zrD zrw_cX10_tallied_0 (i := 2) (by decide +kernel) rfl
theorem dX10_tallied_3 : decode cX10_tallied 3 = .ok (.istore_n 2, 1) := zrD zrw_cX10_tallied_0 (i := 3) (by decide +kernel) rfl
theorem dX10_tallied_4 : decode cX10_tallied 4 = .ok (.iload_n 2, 1) := zrD zrw_cX10_tallied_0 (i := 4) (by decide +kernel) rfl
theorem dX10_tallied_5 : decode cX10_tallied 5 = .ok (.aload_n 0, 1) := zrD zrw_cX10_tallied_0 (i := 5) (by decide +kernel) rfl
theorem dX10_tallied_6 : decode cX10_tallied 6 = .ok (.getfield 70, 3) := zrD zrw_cX10_tallied_0 (i := 6) (by decide +kernel) rfl
theorem dX10_tallied_9 : decode cX10_tallied 9 = .ok (.getfield 175, 3) := zrD zrw_cX10_tallied_0 (i := 9) (by decide +kernel) rfl
theorem dX10_tallied_12 : decode cX10_tallied 12 = .ok (.if_icmp .ge 21, 3) := zrD zrw_cX10_tallied_0 (i := 12) (by decide +kernel) rfl
theorem dX10_tallied_15 : decode cX10_tallied 15 = .ok (.aload_n 0, 1) := zrD zrw_cX10_tallied_0 (i := 15) (by decide +kernel) rfl
theorem dX10_tallied_16 : decode cX10_tallied 16 = .ok (.getfield 63, 3) := zrD zrw_cX10_tallied_0 (i := 16) (by decide +kernel) rfl
theorem dX10_tallied_19 : decode cX10_tallied 19 = .ok (.iload_n 2, 1) := zrD zrw_cX10_tallied_0 (i := 19) (by decide +kernel) rfl
theorem dX10_tallied_20 : decode cX10_tallied 20 = .ok (.iaload, 1) := zrD zrw_cX10_tallied_0 (i := 20) (by decide +kernel) rfl
theorem dX10_tallied_21 : decode cX10_tallied 21 = .ok (.ifCond .le 6, 3) := zrD zrw_cX10_tallied_0 (i := 21) (by decide +kernel) rfl
theorem dX10_tallied_24 : decode cX10_tallied 24 = .ok (.iinc 1 1, 3) := zrD zrw_cX10_tallied_0 (i := 24) (by decide +kernel) rfl
theorem dX10_tallied_27 : decode cX10_tallied 27 = .ok (.iinc 2 1, 3) := zrD zrw_cX10_tallied_0 (i := 27) (by decide +kernel) rfl
def zrk_cX10_tallied_30 : ByteArray := .mk #[167, 255, 230, 27, 172]
theorem zrw_cX10_tallied_30 : zrW 30 cX10_tallied zrk_cX10_tallied_30 := by unfold zrW; decide +kernel
theorem dX10_tallied_30 : decode cX10_tallied 30 = .ok (.goto (-26), 3) := zrD zrw_cX10_tallied_30 (i := 0) (by decide +kernel) rfl
theorem dX10_tallied_33 : decode cX10_tallied 33 = .ok (.iload_n 1, 1) := zrD zrw_cX10_tallied_30 (i := 3) (by decide +kernel) rfl
theorem dX10_tallied_34 : decode cX10_tallied 34 = .ok (.ireturn, 1) := zrD zrw_cX10_tallied_30 (i := 4) (by decide +kernel) rfl
def zrk_cX10_mostTallied_0 : ByteArray := .mk #[16, 254, 60, 4, 61, 28, 42, 180, 0, 70, 180, 0, 175, 162, 0, 34, 42, 180, 0, 63, 28, 46, 27, 156, 0, 7, 3, 167, 0, 9, 42]
theorem zrw_cX10_mostTallied_0 : zrW 0 cX10_mostTallied zrk_cX10_mostTallied_0 := by unfold zrW; decide +kernel
theorem dX10_mostTallied_0 : decode cX10_mostTallied 0 = .ok (.bipush (-2), 2) := zrD zrw_cX10_mostTallied_0 (i := 0) (by decide +kernel) rfl
theorem dX10_mostTallied_2 : decode cX10_mostTallied 2 = .ok (.istore_n 1, 1) := zrD zrw_cX10_mostTallied_0 (i := 2) (by decide +kernel) rfl
theorem dX10_mostTallied_3 : decode cX10_mostTallied 3 = .ok (.iconst 1, 1) := zrD zrw_cX10_mostTallied_0 (i := 3) (by decide +kernel) rfl
theorem dX10_mostTallied_4 : decode cX10_mostTallied 4 = .ok (.istore_n 2, 1) := zrD zrw_cX10_mostTallied_0 (i := 4) (by decide +kernel) rfl
theorem dX10_mostTallied_5 : decode cX10_mostTallied 5 = .ok (.iload_n 2, 1) := zrD zrw_cX10_mostTallied_0 (i := 5) (by decide +kernel) rfl
theorem dX10_mostTallied_6 : decode cX10_mostTallied 6 = .ok (.aload_n 0, 1) := zrD zrw_cX10_mostTallied_0 (i := 6) (by decide +kernel) rfl
theorem dX10_mostTallied_7 : decode cX10_mostTallied 7 = .ok (.getfield 70, 3) := zrD zrw_cX10_mostTallied_0 (i := 7) (by decide +kernel) rfl
theorem dX10_mostTallied_10 : decode cX10_mostTallied 10 = .ok (.getfield 175, 3) := zrD zrw_cX10_mostTallied_0 (i := 10) (by decide +kernel) rfl
theorem dX10_mostTallied_13 : decode cX10_mostTallied 13 = .ok (.if_icmp .ge 34, 3) := zrD zrw_cX10_mostTallied_0 (i := 13) (by decide +kernel) rfl
theorem dX10_mostTallied_16 : decode cX10_mostTallied 16 = .ok (.aload_n 0, 1) := zrD zrw_cX10_mostTallied_0 (i := 16) (by decide +kernel) rfl
theorem dX10_mostTallied_17 : decode cX10_mostTallied 17 = .ok (.getfield 63, 3) := zrD zrw_cX10_mostTallied_0 (i := 17) (by decide +kernel) rfl
theorem dX10_mostTallied_20 : decode cX10_mostTallied 20 = .ok (.iload_n 2, 1) := zrD zrw_cX10_mostTallied_0 (i := 20) (by decide +kernel) rfl
theorem dX10_mostTallied_21 : decode cX10_mostTallied 21 = .ok (.iaload, 1) := zrD zrw_cX10_mostTallied_0 (i := 21) (by decide +kernel) rfl
theorem dX10_mostTallied_22 : decode cX10_mostTallied 22 = .ok (.iload_n 1, 1) := zrD zrw_cX10_mostTallied_0 (i := 22) (by decide +kernel) rfl
theorem dX10_mostTallied_23 : decode cX10_mostTallied 23 = .ok (.ifCond .ge 7, 3) := zrD zrw_cX10_mostTallied_0 (i := 23) (by decide +kernel) rfl
theorem dX10_mostTallied_26 : decode cX10_mostTallied 26 = .ok (.iconst 0, 1) := zrD zrw_cX10_mostTallied_0 (i := 26) (by decide +kernel) rfl
theorem dX10_mostTallied_27 : decode cX10_mostTallied 27 = .ok (.goto 9, 3) := zrD zrw_cX10_mostTallied_0 (i := 27) (by decide +kernel) rfl
theorem dX10_mostTallied_30 : decode cX10_mostTallied 30 = .ok (.aload_n 0, 1) := zrD zrw_cX10_mostTallied_0 (i := 30) (by decide +kernel) rfl
def zrk_cX10_mostTallied_31 : ByteArray := .mk #[180, 0, 63, 27, 46, 164, 0, 5, 28, 60, 132, 2, 1, 167, 255, 217, 27, 172]
theorem zrw_cX10_mostTallied_31 : zrW 31 cX10_mostTallied zrk_cX10_mostTallied_31 := by unfold zrW; decide +kernel
theorem dX10_mostTallied_31 : decode cX10_mostTallied 31 = .ok (.getfield 63, 3) := zrD zrw_cX10_mostTallied_31 (i := 0) (by decide +kernel) rfl
theorem dX10_mostTallied_34 : decode cX10_mostTallied 34 = .ok (.iload_n 1, 1) := zrD zrw_cX10_mostTallied_31 (i := 3) (by decide +kernel) rfl
theorem dX10_mostTallied_35 : decode cX10_mostTallied 35 = .ok (.iaload, 1) := zrD zrw_cX10_mostTallied_31 (i := 4) (by decide +kernel) rfl
theorem dX10_mostTallied_36 : decode cX10_mostTallied 36 = .ok (.if_icmp .le 5, 3) := zrD zrw_cX10_mostTallied_31 (i := 5) (by decide +kernel) rfl
theorem dX10_mostTallied_39 : decode cX10_mostTallied 39 = .ok (.iload_n 2, 1) := zrD zrw_cX10_mostTallied_31 (i := 8) (by decide +kernel) rfl
theorem dX10_mostTallied_40 : decode cX10_mostTallied 40 = .ok (.istore_n 1, 1) := zrD zrw_cX10_mostTallied_31 (i := 9) (by decide +kernel) rfl
theorem dX10_mostTallied_41 : decode cX10_mostTallied 41 = .ok (.iinc 2 1, 3) := zrD zrw_cX10_mostTallied_31 (i := 10) (by decide +kernel) rfl
theorem dX10_mostTallied_44 : decode cX10_mostTallied 44 = .ok (.goto (-39), 3) := zrD zrw_cX10_mostTallied_31 (i := 13) (by decide +kernel) rfl
theorem dX10_mostTallied_47 : decode cX10_mostTallied 47 = .ok (.iload_n 1, 1) := zrD zrw_cX10_mostTallied_31 (i := 16) (by decide +kernel) rfl
theorem dX10_mostTallied_48 : decode cX10_mostTallied 48 = .ok (.ireturn, 1) := zrD zrw_cX10_mostTallied_31 (i := 17) (by decide +kernel) rfl
def zrk_cX10_when_0 : ByteArray := .mk #[42, 182, 0, 113, 42, 180, 0, 34, 27, 182, 0, 146, 154, 0, 5, 2, 172, 42, 182, 1, 40, 4, 61, 28, 16, 60, 163, 0, 39, 42]
theorem zrw_cX10_when_0 : zrW 0 cX10_when zrk_cX10_when_0 := by unfold zrW; decide +kernel
theorem dX10_when_0 : decode cX10_when 0 = .ok (.aload_n 0, 1) := zrD zrw_cX10_when_0 (i := 0) (by decide +kernel) rfl
theorem dX10_when_1 : decode cX10_when 1 = .ok (.invokevirtual 113, 3) := zrD zrw_cX10_when_0 (i := 1) (by decide +kernel) rfl
theorem dX10_when_4 : decode cX10_when 4 = .ok (.aload_n 0, 1) := zrD zrw_cX10_when_0 (i := 4) (by decide +kernel) rfl
theorem dX10_when_5 : decode cX10_when 5 = .ok (.getfield 34, 3) := zrD zrw_cX10_when_0 (i := 5) (by decide +kernel) rfl
theorem dX10_when_8 : decode cX10_when 8 = .ok (.iload_n 1, 1) := zrD zrw_cX10_when_0 (i := 8) (by decide +kernel) rfl
theorem dX10_when_9 : decode cX10_when 9 = .ok (.invokevirtual 146, 3) := zrD zrw_cX10_when_0 (i := 9) (by decide +kernel) rfl
theorem dX10_when_12 : decode cX10_when 12 = .ok (.ifCond .ne 5, 3) := zrD zrw_cX10_when_0 (i := 12) (by decide +kernel) rfl
theorem dX10_when_15 : decode cX10_when 15 = .ok (.iconst (-1), 1) := zrD zrw_cX10_when_0 (i := 15) (by decide +kernel) rfl
theorem dX10_when_16 : decode cX10_when 16 = .ok (.ireturn, 1) := zrD zrw_cX10_when_0 (i := 16) (by decide +kernel) rfl
theorem dX10_when_17 : decode cX10_when 17 = .ok (.aload_n 0, 1) := zrD zrw_cX10_when_0 (i := 17) (by decide +kernel) rfl
theorem dX10_when_18 : decode cX10_when 18 = .ok (.invokevirtual 296, 3) := zrD zrw_cX10_when_0 (i := 18) (by decide +kernel) rfl
theorem dX10_when_21 : decode cX10_when 21 = .ok (.iconst 1, 1) := zrD zrw_cX10_when_0 (i := 21) (by decide +kernel) rfl
theorem dX10_when_22 : decode cX10_when 22 = .ok (.istore_n 2, 1) := zrD zrw_cX10_when_0 (i := 22) (by decide +kernel) rfl
theorem dX10_when_23 : decode cX10_when 23 = .ok (.iload_n 2, 1) := zrD zrw_cX10_when_0 (i := 23) (by decide +kernel) rfl
theorem dX10_when_24 : decode cX10_when 24 = .ok (.bipush 60, 2) := zrD zrw_cX10_when_0 (i := 24) (by decide +kernel) rfl
theorem dX10_when_26 : decode cX10_when 26 = .ok (.if_icmp .gt 39, 3) := zrD zrw_cX10_when_0 (i := 26) (by decide +kernel) rfl
theorem dX10_when_29 : decode cX10_when 29 = .ok (.aload_n 0, 1) := zrD zrw_cX10_when_0 (i := 29) (by decide +kernel) rfl
def zrk_cX10_when_30 : ByteArray := .mk #[180, 0, 26, 182, 1, 43, 42, 180, 0, 56, 180, 0, 149, 27, 46, 42, 180, 0, 52, 180, 0, 149, 27, 46, 164, 0, 5, 28, 172, 132, 2, 1]
theorem zrw_cX10_when_30 : zrW 30 cX10_when zrk_cX10_when_30 := by unfold zrW; decide +kernel
theorem dX10_when_30 : decode cX10_when 30 = .ok (.getfield 26, 3) := zrD zrw_cX10_when_30 (i := 0) (by decide +kernel) rfl
theorem dX10_when_33 : decode cX10_when 33 = .ok (.invokevirtual 299, 3) := zrD zrw_cX10_when_30 (i := 3) (by decide +kernel) rfl
theorem dX10_when_36 : decode cX10_when 36 = .ok (.aload_n 0, 1) := zrD zrw_cX10_when_30 (i := 6) (by decide +kernel) rfl
theorem dX10_when_37 : decode cX10_when 37 = .ok (.getfield 56, 3) := zrD zrw_cX10_when_30 (i := 7) (by decide +kernel) rfl
theorem dX10_when_40 : decode cX10_when 40 = .ok (.getfield 149, 3) := zrD zrw_cX10_when_30 (i := 10) (by decide +kernel) rfl
theorem dX10_when_43 : decode cX10_when 43 = .ok (.iload_n 1, 1) := zrD zrw_cX10_when_30 (i := 13) (by decide +kernel) rfl
theorem dX10_when_44 : decode cX10_when 44 = .ok (.iaload, 1) := zrD zrw_cX10_when_30 (i := 14) (by decide +kernel) rfl
theorem dX10_when_45 : decode cX10_when 45 = .ok (.aload_n 0, 1) := zrD zrw_cX10_when_30 (i := 15) (by decide +kernel) rfl
theorem dX10_when_46 : decode cX10_when 46 = .ok (.getfield 52, 3) := zrD zrw_cX10_when_30 (i := 16) (by decide +kernel) rfl
theorem dX10_when_49 : decode cX10_when 49 = .ok (.getfield 149, 3) := zrD zrw_cX10_when_30 (i := 19) (by decide +kernel) rfl
theorem dX10_when_52 : decode cX10_when 52 = .ok (.iload_n 1, 1) := zrD zrw_cX10_when_30 (i := 22) (by decide +kernel) rfl
theorem dX10_when_53 : decode cX10_when 53 = .ok (.iaload, 1) := zrD zrw_cX10_when_30 (i := 23) (by decide +kernel) rfl
theorem dX10_when_54 : decode cX10_when 54 = .ok (.if_icmp .le 5, 3) := zrD zrw_cX10_when_30 (i := 24) (by decide +kernel) rfl
theorem dX10_when_57 : decode cX10_when 57 = .ok (.iload_n 2, 1) := zrD zrw_cX10_when_30 (i := 27) (by decide +kernel) rfl
theorem dX10_when_58 : decode cX10_when 58 = .ok (.ireturn, 1) := zrD zrw_cX10_when_30 (i := 28) (by decide +kernel) rfl
theorem dX10_when_59 : decode cX10_when 59 = .ok (.iinc 2 1, 3) := zrD zrw_cX10_when_30 (i := 29) (by decide +kernel) rfl
def zrk_cX10_when_62 : ByteArray := .mk #[167, 255, 217, 16, 254, 172]
theorem zrw_cX10_when_62 : zrW 62 cX10_when zrk_cX10_when_62 := by unfold zrW; decide +kernel
theorem dX10_when_62 : decode cX10_when 62 = .ok (.goto (-39), 3) := zrD zrw_cX10_when_62 (i := 0) (by decide +kernel) rfl
theorem dX10_when_65 : decode cX10_when 65 = .ok (.bipush (-2), 2) := zrD zrw_cX10_when_62 (i := 3) (by decide +kernel) rfl
theorem dX10_when_67 : decode cX10_when 67 = .ok (.ireturn, 1) := zrD zrw_cX10_when_62 (i := 5) (by decide +kernel) rfl
def zrk_cX10_then_0 : ByteArray := .mk #[42, 182, 0, 113, 42, 180, 0, 34, 27, 182, 0, 146, 153, 0, 22, 28, 3, 16, 60, 184, 0, 229, 153, 0, 12, 29, 3, 4, 184, 0, 229]
theorem zrw_cX10_then_0 : zrW 0 cX10_then zrk_cX10_then_0 := by unfold zrW; decide +kernel
theorem dX10_then_0 : decode cX10_then 0 = .ok (.aload_n 0, 1) := zrD zrw_cX10_then_0 (i := 0) (by decide +kernel) rfl
theorem dX10_then_1 : decode cX10_then 1 = .ok (.invokevirtual 113, 3) := zrD zrw_cX10_then_0 (i := 1) (by decide +kernel) rfl
theorem dX10_then_4 : decode cX10_then 4 = .ok (.aload_n 0, 1) := zrD zrw_cX10_then_0 (i := 4) (by decide +kernel) rfl
theorem dX10_then_5 : decode cX10_then 5 = .ok (.getfield 34, 3) := zrD zrw_cX10_then_0 (i := 5) (by decide +kernel) rfl
theorem dX10_then_8 : decode cX10_then 8 = .ok (.iload_n 1, 1) := zrD zrw_cX10_then_0 (i := 8) (by decide +kernel) rfl
theorem dX10_then_9 : decode cX10_then 9 = .ok (.invokevirtual 146, 3) := zrD zrw_cX10_then_0 (i := 9) (by decide +kernel) rfl
theorem dX10_then_12 : decode cX10_then 12 = .ok (.ifCond .eq 22, 3) := zrD zrw_cX10_then_0 (i := 12) (by decide +kernel) rfl
theorem dX10_then_15 : decode cX10_then 15 = .ok (.iload_n 2, 1) := zrD zrw_cX10_then_0 (i := 15) (by decide +kernel) rfl
theorem dX10_then_16 : decode cX10_then 16 = .ok (.iconst 0, 1) := zrD zrw_cX10_then_0 (i := 16) (by decide +kernel) rfl
theorem dX10_then_17 : decode cX10_then 17 = .ok (.bipush 60, 2) := zrD zrw_cX10_then_0 (i := 17) (by decide +kernel) rfl
theorem dX10_then_19 : decode cX10_then 19 = .ok (.invokestatic 229, 3) := zrD zrw_cX10_then_0 (i := 19) (by decide +kernel) rfl
theorem dX10_then_22 : decode cX10_then 22 = .ok (.ifCond .eq 12, 3) := zrD zrw_cX10_then_0 (i := 22) (by decide +kernel) rfl
theorem dX10_then_25 : decode cX10_then 25 = .ok (.iload_n 3, 1) := zrD zrw_cX10_then_0 (i := 25) (by decide +kernel) rfl
theorem dX10_then_26 : decode cX10_then 26 = .ok (.iconst 0, 1) := zrD zrw_cX10_then_0 (i := 26) (by decide +kernel) rfl
theorem dX10_then_27 : decode cX10_then 27 = .ok (.iconst 1, 1) := zrD zrw_cX10_then_0 (i := 27) (by decide +kernel) rfl
theorem dX10_then_28 : decode cX10_then 28 = .ok (.invokestatic 229, 3) := zrD zrw_cX10_then_0 (i := 28) (by decide +kernel) rfl
def zrk_cX10_then_31 : ByteArray := .mk #[154, 0, 5, 2, 172, 42, 180, 0, 56, 42, 180, 0, 52, 182, 0, 241, 42, 180, 0, 26, 42, 180, 0, 70, 42, 180, 0, 56, 28, 42]
theorem zrw_cX10_then_31 : zrW 31 cX10_then zrk_cX10_then_31 := by unfold zrW; decide +kernel
theorem dX10_then_31 : decode cX10_then 31 = .ok (.ifCond .ne 5, 3) := zrD zrw_cX10_then_31 (i := 0) (by decide +kernel) rfl
theorem dX10_then_34 : decode cX10_then 34 = .ok (.iconst (-1), 1) := zrD zrw_cX10_then_31 (i := 3) (by decide +kernel) rfl
theorem dX10_then_35 : decode cX10_then 35 = .ok (.ireturn, 1) := zrD zrw_cX10_then_31 (i := 4) (by decide +kernel) rfl
theorem dX10_then_36 : decode cX10_then 36 = .ok (.aload_n 0, 1) := zrD zrw_cX10_then_31 (i := 5) (by decide +kernel) rfl
theorem dX10_then_37 : decode cX10_then 37 = .ok (.getfield 56, 3) := zrD zrw_cX10_then_31 (i := 6) (by decide +kernel) rfl
theorem dX10_then_40 : decode cX10_then 40 = .ok (.aload_n 0, 1) := zrD zrw_cX10_then_31 (i := 9) (by decide +kernel) rfl
theorem dX10_then_41 : decode cX10_then 41 = .ok (.getfield 52, 3) := zrD zrw_cX10_then_31 (i := 10) (by decide +kernel) rfl
theorem dX10_then_44 : decode cX10_then 44 = .ok (.invokevirtual 241, 3) := zrD zrw_cX10_then_31 (i := 13) (by decide +kernel) rfl
theorem dX10_then_47 : decode cX10_then 47 = .ok (.aload_n 0, 1) := zrD zrw_cX10_then_31 (i := 16) (by decide +kernel) rfl
theorem dX10_then_48 : decode cX10_then 48 = .ok (.getfield 26, 3) := zrD zrw_cX10_then_31 (i := 17) (by decide +kernel) rfl
theorem dX10_then_51 : decode cX10_then 51 = .ok (.aload_n 0, 1) := zrD zrw_cX10_then_31 (i := 20) (by decide +kernel) rfl
theorem dX10_then_52 : decode cX10_then 52 = .ok (.getfield 70, 3) := zrD zrw_cX10_then_31 (i := 21) (by decide +kernel) rfl
theorem dX10_then_55 : decode cX10_then 55 = .ok (.aload_n 0, 1) := zrD zrw_cX10_then_31 (i := 24) (by decide +kernel) rfl
theorem dX10_then_56 : decode cX10_then 56 = .ok (.getfield 56, 3) := zrD zrw_cX10_then_31 (i := 25) (by decide +kernel) rfl
theorem dX10_then_59 : decode cX10_then 59 = .ok (.iload_n 2, 1) := zrD zrw_cX10_then_31 (i := 28) (by decide +kernel) rfl
theorem dX10_then_60 : decode cX10_then 60 = .ok (.aload_n 0, 1) := zrD zrw_cX10_then_31 (i := 29) (by decide +kernel) rfl
def zrk_cX10_then_61 : ByteArray := .mk #[180, 0, 70, 180, 0, 203, 182, 0, 233, 29, 154, 0, 15, 42, 180, 0, 56, 180, 0, 149, 27, 46, 167, 0, 12, 42, 180, 0, 56, 180, 0, 152]
theorem zrw_cX10_then_61 : zrW 61 cX10_then zrk_cX10_then_61 := by unfold zrW; decide +kernel
theorem dX10_then_61 : decode cX10_then 61 = .ok (.getfield 70, 3) := zrD zrw_cX10_then_61 (i := 0) (by decide +kernel) rfl
theorem dX10_then_64 : decode cX10_then 64 = .ok (.getfield 203, 3) := zrD zrw_cX10_then_61 (i := 3) (by decide +kernel) rfl
theorem dX10_then_67 : decode cX10_then 67 = .ok (.invokevirtual 233, 3) := zrD zrw_cX10_then_61 (i := 6) (by decide +kernel) rfl
theorem dX10_then_70 : decode cX10_then 70 = .ok (.iload_n 3, 1) := zrD zrw_cX10_then_61 (i := 9) (by decide +kernel) rfl
theorem dX10_then_71 : decode cX10_then 71 = .ok (.ifCond .ne 15, 3) := zrD zrw_cX10_then_61 (i := 10) (by decide +kernel) rfl
theorem dX10_then_74 : decode cX10_then 74 = .ok (.aload_n 0, 1) := zrD zrw_cX10_then_61 (i := 13) (by decide +kernel) rfl
theorem dX10_then_75 : decode cX10_then 75 = .ok (.getfield 56, 3) := zrD zrw_cX10_then_61 (i := 14) (by decide +kernel) rfl
theorem dX10_then_78 : decode cX10_then 78 = .ok (.getfield 149, 3) := zrD zrw_cX10_then_61 (i := 17) (by decide +kernel) rfl
theorem dX10_then_81 : decode cX10_then 81 = .ok (.iload_n 1, 1) := zrD zrw_cX10_then_61 (i := 20) (by decide +kernel) rfl
theorem dX10_then_82 : decode cX10_then 82 = .ok (.iaload, 1) := zrD zrw_cX10_then_61 (i := 21) (by decide +kernel) rfl
theorem dX10_then_83 : decode cX10_then 83 = .ok (.goto 12, 3) := zrD zrw_cX10_then_61 (i := 22) (by decide +kernel) rfl
theorem dX10_then_86 : decode cX10_then 86 = .ok (.aload_n 0, 1) := zrD zrw_cX10_then_61 (i := 25) (by decide +kernel) rfl
theorem dX10_then_87 : decode cX10_then 87 = .ok (.getfield 56, 3) := zrD zrw_cX10_then_61 (i := 26) (by decide +kernel) rfl
theorem dX10_then_90 : decode cX10_then 90 = .ok (.getfield 152, 3) := zrD zrw_cX10_then_61 (i := 29) (by decide +kernel) rfl
def zrk_cX10_then_93 : ByteArray := .mk #[27, 46, 172]
theorem zrw_cX10_then_93 : zrW 93 cX10_then zrk_cX10_then_93 := by unfold zrW; decide +kernel
theorem dX10_then_93 : decode cX10_then 93 = .ok (.iload_n 1, 1) := zrD zrw_cX10_then_93 (i := 0) (by decide +kernel) rfl
theorem dX10_then_94 : decode cX10_then 94 = .ok (.iaload, 1) := zrD zrw_cX10_then_93 (i := 1) (by decide +kernel) rfl
theorem dX10_then_95 : decode cX10_then 95 = .ok (.ireturn, 1) := zrD zrw_cX10_then_93 (i := 2) (by decide +kernel) rfl
def zrk_cX10_flowIn_0 : ByteArray := .mk #[42, 182, 1, 21, 153, 0, 13, 27, 3, 16, 60, 184, 0, 229, 154, 0, 5, 2, 172, 42, 180, 0, 56, 42, 180, 0, 52, 182, 0, 241, 42]
theorem zrw_cX10_flowIn_0 : zrW 0 cX10_flowIn zrk_cX10_flowIn_0 := by unfold zrW; decide +kernel
theorem dX10_flowIn_0 : decode cX10_flowIn 0 = .ok (.aload_n 0, 1) := zrD zrw_cX10_flowIn_0 (i := 0) (by decide +kernel) rfl
theorem dX10_flowIn_1 : decode cX10_flowIn 1 = .ok (.invokevirtual 277, 3) := zrD zrw_cX10_flowIn_0 (i := 1) (by decide +kernel) rfl
theorem dX10_flowIn_4 : decode cX10_flowIn 4 = .ok (.ifCond .eq 13, 3) := zrD zrw_cX10_flowIn_0 (i := 4) (by decide +kernel) rfl
theorem dX10_flowIn_7 : decode cX10_flowIn 7 = .ok (.iload_n 1, 1) := zrD zrw_cX10_flowIn_0 (i := 7) (by decide +kernel) rfl
theorem dX10_flowIn_8 : decode cX10_flowIn 8 = .ok (.iconst 0, 1) := zrD zrw_cX10_flowIn_0 (i := 8) (by decide +kernel) rfl
theorem dX10_flowIn_9 : decode cX10_flowIn 9 = .ok (.bipush 60, 2) := zrD zrw_cX10_flowIn_0 (i := 9) (by decide +kernel) rfl
theorem dX10_flowIn_11 : decode cX10_flowIn 11 = .ok (.invokestatic 229, 3) := zrD zrw_cX10_flowIn_0 (i := 11) (by decide +kernel) rfl
theorem dX10_flowIn_14 : decode cX10_flowIn 14 = .ok (.ifCond .ne 5, 3) := zrD zrw_cX10_flowIn_0 (i := 14) (by decide +kernel) rfl
theorem dX10_flowIn_17 : decode cX10_flowIn 17 = .ok (.iconst (-1), 1) := zrD zrw_cX10_flowIn_0 (i := 17) (by decide +kernel) rfl
theorem dX10_flowIn_18 : decode cX10_flowIn 18 = .ok (.ireturn, 1) := zrD zrw_cX10_flowIn_0 (i := 18) (by decide +kernel) rfl
theorem dX10_flowIn_19 : decode cX10_flowIn 19 = .ok (.aload_n 0, 1) := zrD zrw_cX10_flowIn_0 (i := 19) (by decide +kernel) rfl
theorem dX10_flowIn_20 : decode cX10_flowIn 20 = .ok (.getfield 56, 3) := zrD zrw_cX10_flowIn_0 (i := 20) (by decide +kernel) rfl
theorem dX10_flowIn_23 : decode cX10_flowIn 23 = .ok (.aload_n 0, 1) := zrD zrw_cX10_flowIn_0 (i := 23) (by decide +kernel) rfl
theorem dX10_flowIn_24 : decode cX10_flowIn 24 = .ok (.getfield 52, 3) := zrD zrw_cX10_flowIn_0 (i := 24) (by decide +kernel) rfl
theorem dX10_flowIn_27 : decode cX10_flowIn 27 = .ok (.invokevirtual 241, 3) := zrD zrw_cX10_flowIn_0 (i := 27) (by decide +kernel) rfl
theorem dX10_flowIn_30 : decode cX10_flowIn 30 = .ok (.aload_n 0, 1) := zrD zrw_cX10_flowIn_0 (i := 30) (by decide +kernel) rfl
def zrk_cX10_flowIn_31 : ByteArray := .mk #[180, 0, 26, 42, 180, 0, 70, 42, 180, 0, 56, 27, 42, 180, 0, 70, 180, 0, 203, 182, 0, 233, 42, 180, 0, 26, 42, 180, 0, 70, 42]
theorem zrw_cX10_flowIn_31 : zrW 31 cX10_flowIn zrk_cX10_flowIn_31 := by unfold zrW; decide +kernel
theorem dX10_flowIn_31 : decode cX10_flowIn 31 = .ok (.getfield 26, 3) := zrD zrw_cX10_flowIn_31 (i := 0) (by decide +kernel) rfl
theorem dX10_flowIn_34 : decode cX10_flowIn 34 = .ok (.aload_n 0, 1) := zrD zrw_cX10_flowIn_31 (i := 3) (by decide +kernel) rfl
theorem dX10_flowIn_35 : decode cX10_flowIn 35 = .ok (.getfield 70, 3) := zrD zrw_cX10_flowIn_31 (i := 4) (by decide +kernel) rfl
theorem dX10_flowIn_38 : decode cX10_flowIn 38 = .ok (.aload_n 0, 1) := zrD zrw_cX10_flowIn_31 (i := 7) (by decide +kernel) rfl
theorem dX10_flowIn_39 : decode cX10_flowIn 39 = .ok (.getfield 56, 3) := zrD zrw_cX10_flowIn_31 (i := 8) (by decide +kernel) rfl
theorem dX10_flowIn_42 : decode cX10_flowIn 42 = .ok (.iload_n 1, 1) := zrD zrw_cX10_flowIn_31 (i := 11) (by decide +kernel) rfl
theorem dX10_flowIn_43 : decode cX10_flowIn 43 = .ok (.aload_n 0, 1) := zrD zrw_cX10_flowIn_31 (i := 12) (by decide +kernel) rfl
theorem dX10_flowIn_44 : decode cX10_flowIn 44 = .ok (.getfield 70, 3) := zrD zrw_cX10_flowIn_31 (i := 13) (by decide +kernel) rfl
theorem dX10_flowIn_47 : decode cX10_flowIn 47 = .ok (.getfield 203, 3) := zrD zrw_cX10_flowIn_31 (i := 16) (by decide +kernel) rfl
theorem dX10_flowIn_50 : decode cX10_flowIn 50 = .ok (.invokevirtual 233, 3) := zrD zrw_cX10_flowIn_31 (i := 19) (by decide +kernel) rfl
theorem dX10_flowIn_53 : decode cX10_flowIn 53 = .ok (.aload_n 0, 1) := zrD zrw_cX10_flowIn_31 (i := 22) (by decide +kernel) rfl
theorem dX10_flowIn_54 : decode cX10_flowIn 54 = .ok (.getfield 26, 3) := zrD zrw_cX10_flowIn_31 (i := 23) (by decide +kernel) rfl
theorem dX10_flowIn_57 : decode cX10_flowIn 57 = .ok (.aload_n 0, 1) := zrD zrw_cX10_flowIn_31 (i := 26) (by decide +kernel) rfl
theorem dX10_flowIn_58 : decode cX10_flowIn 58 = .ok (.getfield 70, 3) := zrD zrw_cX10_flowIn_31 (i := 27) (by decide +kernel) rfl
theorem dX10_flowIn_61 : decode cX10_flowIn 61 = .ok (.aload_n 0, 1) := zrD zrw_cX10_flowIn_31 (i := 30) (by decide +kernel) rfl
def zrk_cX10_flowIn_62 : ByteArray := .mk #[180, 0, 56, 182, 1, 15, 42, 182, 0, 191, 172]
theorem zrw_cX10_flowIn_62 : zrW 62 cX10_flowIn zrk_cX10_flowIn_62 := by unfold zrW; decide +kernel
theorem dX10_flowIn_62 : decode cX10_flowIn 62 = .ok (.getfield 56, 3) := zrD zrw_cX10_flowIn_62 (i := 0) (by decide +kernel) rfl
theorem dX10_flowIn_65 : decode cX10_flowIn 65 = .ok (.invokevirtual 271, 3) := zrD zrw_cX10_flowIn_62 (i := 3) (by decide +kernel) rfl
theorem dX10_flowIn_68 : decode cX10_flowIn 68 = .ok (.aload_n 0, 1) := zrD zrw_cX10_flowIn_62 (i := 6) (by decide +kernel) rfl
theorem dX10_flowIn_69 : decode cX10_flowIn 69 = .ok (.invokevirtual 191, 3) := zrD zrw_cX10_flowIn_62 (i := 7) (by decide +kernel) rfl
theorem dX10_flowIn_72 : decode cX10_flowIn 72 = .ok (.ireturn, 1) := zrD zrw_cX10_flowIn_62 (i := 10) (by decide +kernel) rfl
def zrk_cX10_year_0 : ByteArray := .mk #[42, 182, 0, 113, 42, 180, 0, 34, 27, 182, 0, 146, 153, 0, 23, 28, 3, 16, 60, 184, 0, 229, 153, 0, 13, 29, 4, 16, 20, 184, 0, 229]
theorem zrw_cX10_year_0 : zrW 0 cX10_year zrk_cX10_year_0 := by unfold zrW; decide +kernel
theorem dX10_year_0 : decode cX10_year 0 = .ok (.aload_n 0, 1) := zrD zrw_cX10_year_0 (i := 0) (by decide +kernel) rfl
theorem dX10_year_1 : decode cX10_year 1 = .ok (.invokevirtual 113, 3) := zrD zrw_cX10_year_0 (i := 1) (by decide +kernel) rfl
theorem dX10_year_4 : decode cX10_year 4 = .ok (.aload_n 0, 1) := zrD zrw_cX10_year_0 (i := 4) (by decide +kernel) rfl
theorem dX10_year_5 : decode cX10_year 5 = .ok (.getfield 34, 3) := zrD zrw_cX10_year_0 (i := 5) (by decide +kernel) rfl
theorem dX10_year_8 : decode cX10_year 8 = .ok (.iload_n 1, 1) := zrD zrw_cX10_year_0 (i := 8) (by decide +kernel) rfl
theorem dX10_year_9 : decode cX10_year 9 = .ok (.invokevirtual 146, 3) := zrD zrw_cX10_year_0 (i := 9) (by decide +kernel) rfl
theorem dX10_year_12 : decode cX10_year 12 = .ok (.ifCond .eq 23, 3) := zrD zrw_cX10_year_0 (i := 12) (by decide +kernel) rfl
theorem dX10_year_15 : decode cX10_year 15 = .ok (.iload_n 2, 1) := zrD zrw_cX10_year_0 (i := 15) (by decide +kernel) rfl
theorem dX10_year_16 : decode cX10_year 16 = .ok (.iconst 0, 1) := zrD zrw_cX10_year_0 (i := 16) (by decide +kernel) rfl
theorem dX10_year_17 : decode cX10_year 17 = .ok (.bipush 60, 2) := zrD zrw_cX10_year_0 (i := 17) (by decide +kernel) rfl
theorem dX10_year_19 : decode cX10_year 19 = .ok (.invokestatic 229, 3) := zrD zrw_cX10_year_0 (i := 19) (by decide +kernel) rfl
theorem dX10_year_22 : decode cX10_year 22 = .ok (.ifCond .eq 13, 3) := zrD zrw_cX10_year_0 (i := 22) (by decide +kernel) rfl
theorem dX10_year_25 : decode cX10_year 25 = .ok (.iload_n 3, 1) := zrD zrw_cX10_year_0 (i := 25) (by decide +kernel) rfl
theorem dX10_year_26 : decode cX10_year 26 = .ok (.iconst 1, 1) := zrD zrw_cX10_year_0 (i := 26) (by decide +kernel) rfl
theorem dX10_year_27 : decode cX10_year 27 = .ok (.bipush 20, 2) := zrD zrw_cX10_year_0 (i := 27) (by decide +kernel) rfl
theorem dX10_year_29 : decode cX10_year 29 = .ok (.invokestatic 229, 3) := zrD zrw_cX10_year_0 (i := 29) (by decide +kernel) rfl
def zrk_cX10_year_32 : ByteArray := .mk #[154, 0, 5, 2, 172, 3, 54, 4, 3, 54, 5, 21, 5, 29, 162, 0, 57, 42, 180, 0, 56, 42, 180, 0, 52, 182, 0, 241, 42, 180, 0, 26]
theorem zrw_cX10_year_32 : zrW 32 cX10_year zrk_cX10_year_32 := by unfold zrW; decide +kernel
theorem dX10_year_32 : decode cX10_year 32 = .ok (.ifCond .ne 5, 3) := zrD zrw_cX10_year_32 (i := 0) (by decide +kernel) rfl
theorem dX10_year_35 : decode cX10_year 35 = .ok (.iconst (-1), 1) := zrD zrw_cX10_year_32 (i := 3) (by decide +kernel) rfl
theorem dX10_year_36 : decode cX10_year 36 = .ok (.ireturn, 1) := zrD zrw_cX10_year_32 (i := 4) (by decide +kernel) rfl
theorem dX10_year_37 : decode cX10_year 37 = .ok (.iconst 0, 1) := zrD zrw_cX10_year_32 (i := 5) (by decide +kernel) rfl
theorem dX10_year_38 : decode cX10_year 38 = .ok (.istore 4, 2) := zrD zrw_cX10_year_32 (i := 6) (by decide +kernel) rfl
theorem dX10_year_40 : decode cX10_year 40 = .ok (.iconst 0, 1) := zrD zrw_cX10_year_32 (i := 8) (by decide +kernel) rfl
theorem dX10_year_41 : decode cX10_year 41 = .ok (.istore 5, 2) := zrD zrw_cX10_year_32 (i := 9) (by decide +kernel) rfl
theorem dX10_year_43 : decode cX10_year 43 = .ok (.iload 5, 2) := zrD zrw_cX10_year_32 (i := 11) (by decide +kernel) rfl
theorem dX10_year_45 : decode cX10_year 45 = .ok (.iload_n 3, 1) := zrD zrw_cX10_year_32 (i := 13) (by decide +kernel) rfl
theorem dX10_year_46 : decode cX10_year 46 = .ok (.if_icmp .ge 57, 3) := zrD zrw_cX10_year_32 (i := 14) (by decide +kernel) rfl
theorem dX10_year_49 : decode cX10_year 49 = .ok (.aload_n 0, 1) := zrD zrw_cX10_year_32 (i := 17) (by decide +kernel) rfl
theorem dX10_year_50 : decode cX10_year 50 = .ok (.getfield 56, 3) := zrD zrw_cX10_year_32 (i := 18) (by decide +kernel) rfl
theorem dX10_year_53 : decode cX10_year 53 = .ok (.aload_n 0, 1) := zrD zrw_cX10_year_32 (i := 21) (by decide +kernel) rfl
theorem dX10_year_54 : decode cX10_year 54 = .ok (.getfield 52, 3) := zrD zrw_cX10_year_32 (i := 22) (by decide +kernel) rfl
theorem dX10_year_57 : decode cX10_year 57 = .ok (.invokevirtual 241, 3) := zrD zrw_cX10_year_32 (i := 25) (by decide +kernel) rfl
theorem dX10_year_60 : decode cX10_year 60 = .ok (.aload_n 0, 1) := zrD zrw_cX10_year_32 (i := 28) (by decide +kernel) rfl
theorem dX10_year_61 : decode cX10_year 61 = .ok (.getfield 26, 3) := zrD zrw_cX10_year_32 (i := 29) (by decide +kernel) rfl
def zrk_cX10_year_64 : ByteArray := .mk #[42, 180, 0, 70, 42, 180, 0, 56, 28, 42, 180, 0, 70, 180, 0, 203, 21, 5, 96, 182, 0, 233, 42, 27, 182, 1, 58, 153, 0, 6]
theorem zrw_cX10_year_64 : zrW 64 cX10_year zrk_cX10_year_64 := by unfold zrW; decide +kernel
theorem dX10_year_64 : decode cX10_year 64 = .ok (.aload_n 0, 1) := zrD zrw_cX10_year_64 (i := 0) (by decide +kernel) rfl
theorem dX10_year_65 : decode cX10_year 65 = .ok (.getfield 70, 3) := zrD zrw_cX10_year_64 (i := 1) (by decide +kernel) rfl
theorem dX10_year_68 : decode cX10_year 68 = .ok (.aload_n 0, 1) := zrD zrw_cX10_year_64 (i := 4) (by decide +kernel) rfl
theorem dX10_year_69 : decode cX10_year 69 = .ok (.getfield 56, 3) := zrD zrw_cX10_year_64 (i := 5) (by decide +kernel) rfl
theorem dX10_year_72 : decode cX10_year 72 = .ok (.iload_n 2, 1) := zrD zrw_cX10_year_64 (i := 8) (by decide +kernel) rfl
theorem dX10_year_73 : decode cX10_year 73 = .ok (.aload_n 0, 1) := zrD zrw_cX10_year_64 (i := 9) (by decide +kernel) rfl
theorem dX10_year_74 : decode cX10_year 74 = .ok (.getfield 70, 3) := zrD zrw_cX10_year_64 (i := 10) (by decide +kernel) rfl
theorem dX10_year_77 : decode cX10_year 77 = .ok (.getfield 203, 3) := zrD zrw_cX10_year_64 (i := 13) (by decide +kernel) rfl
theorem dX10_year_80 : decode cX10_year 80 = .ok (.iload 5, 2) := zrD zrw_cX10_year_64 (i := 16) (by decide +kernel) rfl
theorem dX10_year_82 : decode cX10_year 82 = .ok (.iadd, 1) := zrD zrw_cX10_year_64 (i := 18) (by decide +kernel) rfl
theorem dX10_year_83 : decode cX10_year 83 = .ok (.invokevirtual 233, 3) := zrD zrw_cX10_year_64 (i := 19) (by decide +kernel) rfl
theorem dX10_year_86 : decode cX10_year 86 = .ok (.aload_n 0, 1) := zrD zrw_cX10_year_64 (i := 22) (by decide +kernel) rfl
theorem dX10_year_87 : decode cX10_year 87 = .ok (.iload_n 1, 1) := zrD zrw_cX10_year_64 (i := 23) (by decide +kernel) rfl
theorem dX10_year_88 : decode cX10_year 88 = .ok (.invokevirtual 314, 3) := zrD zrw_cX10_year_64 (i := 24) (by decide +kernel) rfl
theorem dX10_year_91 : decode cX10_year 91 = .ok (.ifCond .eq 6, 3) := zrD zrw_cX10_year_64 (i := 27) (by decide +kernel) rfl
def zrk_cX10_year_94 : ByteArray := .mk #[132, 4, 1, 132, 5, 1, 167, 255, 199, 21, 4, 172]
theorem zrw_cX10_year_94 : zrW 94 cX10_year zrk_cX10_year_94 := by unfold zrW; decide +kernel
theorem dX10_year_94 : decode cX10_year 94 = .ok (.iinc 4 1, 3) := zrD zrw_cX10_year_94 (i := 0) (by decide +kernel) rfl
theorem dX10_year_97 : decode cX10_year 97 = .ok (.iinc 5 1, 3) := zrD zrw_cX10_year_94 (i := 3) (by decide +kernel) rfl
theorem dX10_year_100 : decode cX10_year 100 = .ok (.goto (-57), 3) := zrD zrw_cX10_year_94 (i := 6) (by decide +kernel) rfl
theorem dX10_year_103 : decode cX10_year 103 = .ok (.iload 4, 2) := zrD zrw_cX10_year_94 (i := 9) (by decide +kernel) rfl
theorem dX10_year_105 : decode cX10_year 105 = .ok (.ireturn, 1) := zrD zrw_cX10_year_94 (i := 11) (by decide +kernel) rfl
def zrk_cX10_hasWonMost_0 : ByteArray := .mk #[4, 61, 4, 62, 29, 42, 180, 0, 70, 180, 0, 175, 162, 0, 48, 29, 27, 159, 0, 37, 42, 180, 0, 34, 29, 182, 0, 146, 153, 0, 26, 42]
theorem zrw_cX10_hasWonMost_0 : zrW 0 cX10_hasWonMost zrk_cX10_hasWonMost_0 := by unfold zrW; decide +kernel
theorem dX10_hasWonMost_0 : decode cX10_hasWonMost 0 = .ok (.iconst 1, 1) := zrD zrw_cX10_hasWonMost_0 (i := 0) (by decide +kernel) rfl
theorem dX10_hasWonMost_1 : decode cX10_hasWonMost 1 = .ok (.istore_n 2, 1) := zrD zrw_cX10_hasWonMost_0 (i := 1) (by decide +kernel) rfl
theorem dX10_hasWonMost_2 : decode cX10_hasWonMost 2 = .ok (.iconst 1, 1) := zrD zrw_cX10_hasWonMost_0 (i := 2) (by decide +kernel) rfl
theorem dX10_hasWonMost_3 : decode cX10_hasWonMost 3 = .ok (.istore_n 3, 1) := zrD zrw_cX10_hasWonMost_0 (i := 3) (by decide +kernel) rfl
theorem dX10_hasWonMost_4 : decode cX10_hasWonMost 4 = .ok (.iload_n 3, 1) := zrD zrw_cX10_hasWonMost_0 (i := 4) (by decide +kernel) rfl
theorem dX10_hasWonMost_5 : decode cX10_hasWonMost 5 = .ok (.aload_n 0, 1) := zrD zrw_cX10_hasWonMost_0 (i := 5) (by decide +kernel) rfl
theorem dX10_hasWonMost_6 : decode cX10_hasWonMost 6 = .ok (.getfield 70, 3) := zrD zrw_cX10_hasWonMost_0 (i := 6) (by decide +kernel) rfl
theorem dX10_hasWonMost_9 : decode cX10_hasWonMost 9 = .ok (.getfield 175, 3) := zrD zrw_cX10_hasWonMost_0 (i := 9) (by decide +kernel) rfl
theorem dX10_hasWonMost_12 : decode cX10_hasWonMost 12 = .ok (.if_icmp .ge 48, 3) := zrD zrw_cX10_hasWonMost_0 (i := 12) (by decide +kernel) rfl
theorem dX10_hasWonMost_15 : decode cX10_hasWonMost 15 = .ok (.iload_n 3, 1) := zrD zrw_cX10_hasWonMost_0 (i := 15) (by decide +kernel) rfl
theorem dX10_hasWonMost_16 : decode cX10_hasWonMost 16 = .ok (.iload_n 1, 1) := zrD zrw_cX10_hasWonMost_0 (i := 16) (by decide +kernel) rfl
theorem dX10_hasWonMost_17 : decode cX10_hasWonMost 17 = .ok (.if_icmp .eq 37, 3) := zrD zrw_cX10_hasWonMost_0 (i := 17) (by decide +kernel) rfl
theorem dX10_hasWonMost_20 : decode cX10_hasWonMost 20 = .ok (.aload_n 0, 1) := zrD zrw_cX10_hasWonMost_0 (i := 20) (by decide +kernel) rfl
theorem dX10_hasWonMost_21 : decode cX10_hasWonMost 21 = .ok (.getfield 34, 3) := zrD zrw_cX10_hasWonMost_0 (i := 21) (by decide +kernel) rfl
theorem dX10_hasWonMost_24 : decode cX10_hasWonMost 24 = .ok (.iload_n 3, 1) := zrD zrw_cX10_hasWonMost_0 (i := 24) (by decide +kernel) rfl
theorem dX10_hasWonMost_25 : decode cX10_hasWonMost 25 = .ok (.invokevirtual 146, 3) := zrD zrw_cX10_hasWonMost_0 (i := 25) (by decide +kernel) rfl
theorem dX10_hasWonMost_28 : decode cX10_hasWonMost 28 = .ok (.ifCond .eq 26, 3) := zrD zrw_cX10_hasWonMost_0 (i := 28) (by decide +kernel) rfl
theorem dX10_hasWonMost_31 : decode cX10_hasWonMost 31 = .ok (.aload_n 0, 1) := zrD zrw_cX10_hasWonMost_0 (i := 31) (by decide +kernel) rfl
def zrk_cX10_hasWonMost_32 : ByteArray := .mk #[180, 0, 56, 180, 0, 149, 29, 46, 42, 180, 0, 56, 180, 0, 149, 27, 46, 161, 0, 5, 3, 61, 132, 3, 1, 167, 255, 203, 28, 172]
theorem zrw_cX10_hasWonMost_32 : zrW 32 cX10_hasWonMost zrk_cX10_hasWonMost_32 := by unfold zrW; decide +kernel
theorem dX10_hasWonMost_32 : decode cX10_hasWonMost 32 = .ok (.getfield 56, 3) := zrD zrw_cX10_hasWonMost_32 (i := 0) (by decide +kernel) rfl
theorem dX10_hasWonMost_35 : decode cX10_hasWonMost 35 = .ok (.getfield 149, 3) := zrD zrw_cX10_hasWonMost_32 (i := 3) (by decide +kernel) rfl
theorem dX10_hasWonMost_38 : decode cX10_hasWonMost 38 = .ok (.iload_n 3, 1) := zrD zrw_cX10_hasWonMost_32 (i := 6) (by decide +kernel) rfl
theorem dX10_hasWonMost_39 : decode cX10_hasWonMost 39 = .ok (.iaload, 1) := zrD zrw_cX10_hasWonMost_32 (i := 7) (by decide +kernel) rfl
theorem dX10_hasWonMost_40 : decode cX10_hasWonMost 40 = .ok (.aload_n 0, 1) := zrD zrw_cX10_hasWonMost_32 (i := 8) (by decide +kernel) rfl
theorem dX10_hasWonMost_41 : decode cX10_hasWonMost 41 = .ok (.getfield 56, 3) := zrD zrw_cX10_hasWonMost_32 (i := 9) (by decide +kernel) rfl
theorem dX10_hasWonMost_44 : decode cX10_hasWonMost 44 = .ok (.getfield 149, 3) := zrD zrw_cX10_hasWonMost_32 (i := 12) (by decide +kernel) rfl
theorem dX10_hasWonMost_47 : decode cX10_hasWonMost 47 = .ok (.iload_n 1, 1) := zrD zrw_cX10_hasWonMost_32 (i := 15) (by decide +kernel) rfl
theorem dX10_hasWonMost_48 : decode cX10_hasWonMost 48 = .ok (.iaload, 1) := zrD zrw_cX10_hasWonMost_32 (i := 16) (by decide +kernel) rfl
theorem dX10_hasWonMost_49 : decode cX10_hasWonMost 49 = .ok (.if_icmp .lt 5, 3) := zrD zrw_cX10_hasWonMost_32 (i := 17) (by decide +kernel) rfl
theorem dX10_hasWonMost_52 : decode cX10_hasWonMost 52 = .ok (.iconst 0, 1) := zrD zrw_cX10_hasWonMost_32 (i := 20) (by decide +kernel) rfl
theorem dX10_hasWonMost_53 : decode cX10_hasWonMost 53 = .ok (.istore_n 2, 1) := zrD zrw_cX10_hasWonMost_32 (i := 21) (by decide +kernel) rfl
theorem dX10_hasWonMost_54 : decode cX10_hasWonMost 54 = .ok (.iinc 3 1, 3) := zrD zrw_cX10_hasWonMost_32 (i := 22) (by decide +kernel) rfl
theorem dX10_hasWonMost_57 : decode cX10_hasWonMost 57 = .ok (.goto (-53), 3) := zrD zrw_cX10_hasWonMost_32 (i := 25) (by decide +kernel) rfl
theorem dX10_hasWonMost_60 : decode cX10_hasWonMost 60 = .ok (.iload_n 2, 1) := zrD zrw_cX10_hasWonMost_32 (i := 28) (by decide +kernel) rfl
theorem dX10_hasWonMost_61 : decode cX10_hasWonMost 61 = .ok (.ireturn, 1) := zrD zrw_cX10_hasWonMost_32 (i := 29) (by decide +kernel) rfl
def zrk_cX10_depth_0 : ByteArray := .mk #[42, 182, 0, 113, 42, 180, 0, 34, 182, 1, 61, 172]
theorem zrw_cX10_depth_0 : zrW 0 cX10_depth zrk_cX10_depth_0 := by unfold zrW; decide +kernel
theorem dX10_depth_0 : decode cX10_depth 0 = .ok (.aload_n 0, 1) := zrD zrw_cX10_depth_0 (i := 0) (by decide +kernel) rfl
theorem dX10_depth_1 : decode cX10_depth 1 = .ok (.invokevirtual 113, 3) := zrD zrw_cX10_depth_0 (i := 1) (by decide +kernel) rfl
theorem dX10_depth_4 : decode cX10_depth 4 = .ok (.aload_n 0, 1) := zrD zrw_cX10_depth_0 (i := 4) (by decide +kernel) rfl
theorem dX10_depth_5 : decode cX10_depth 5 = .ok (.getfield 34, 3) := zrD zrw_cX10_depth_0 (i := 5) (by decide +kernel) rfl
theorem dX10_depth_8 : decode cX10_depth 8 = .ok (.invokevirtual 317, 3) := zrD zrw_cX10_depth_0 (i := 8) (by decide +kernel) rfl
theorem dX10_depth_11 : decode cX10_depth 11 = .ok (.ireturn, 1) := zrD zrw_cX10_depth_0 (i := 11) (by decide +kernel) rfl
def zrk_cX10_order_0 : ByteArray := .mk #[42, 27, 182, 0, 109, 154, 0, 5, 2, 172, 42, 182, 0, 113, 42, 180, 0, 34, 42, 180, 0, 52, 27, 182, 1, 64, 172]
theorem zrw_cX10_order_0 : zrW 0 cX10_order zrk_cX10_order_0 := by unfold zrW; decide +kernel
theorem dX10_order_0 : decode cX10_order 0 = .ok (.aload_n 0, 1) := zrD zrw_cX10_order_0 (i := 0) (by decide +kernel) rfl
theorem dX10_order_1 : decode cX10_order 1 = .ok (.iload_n 1, 1) := zrD zrw_cX10_order_0 (i := 1) (by decide +kernel) rfl
theorem dX10_order_2 : decode cX10_order 2 = .ok (.invokevirtual 109, 3) := zrD zrw_cX10_order_0 (i := 2) (by decide +kernel) rfl
theorem dX10_order_5 : decode cX10_order 5 = .ok (.ifCond .ne 5, 3) := zrD zrw_cX10_order_0 (i := 5) (by decide +kernel) rfl
theorem dX10_order_8 : decode cX10_order 8 = .ok (.iconst (-1), 1) := zrD zrw_cX10_order_0 (i := 8) (by decide +kernel) rfl
theorem dX10_order_9 : decode cX10_order 9 = .ok (.ireturn, 1) := zrD zrw_cX10_order_0 (i := 9) (by decide +kernel) rfl
theorem dX10_order_10 : decode cX10_order 10 = .ok (.aload_n 0, 1) := zrD zrw_cX10_order_0 (i := 10) (by decide +kernel) rfl
theorem dX10_order_11 : decode cX10_order 11 = .ok (.invokevirtual 113, 3) := zrD zrw_cX10_order_0 (i := 11) (by decide +kernel) rfl
theorem dX10_order_14 : decode cX10_order 14 = .ok (.aload_n 0, 1) := zrD zrw_cX10_order_0 (i := 14) (by decide +kernel) rfl
theorem dX10_order_15 : decode cX10_order 15 = .ok (.getfield 34, 3) := zrD zrw_cX10_order_0 (i := 15) (by decide +kernel) rfl
theorem dX10_order_18 : decode cX10_order 18 = .ok (.aload_n 0, 1) := zrD zrw_cX10_order_0 (i := 18) (by decide +kernel) rfl
theorem dX10_order_19 : decode cX10_order 19 = .ok (.getfield 52, 3) := zrD zrw_cX10_order_0 (i := 19) (by decide +kernel) rfl
theorem dX10_order_22 : decode cX10_order 22 = .ok (.iload_n 1, 1) := zrD zrw_cX10_order_0 (i := 22) (by decide +kernel) rfl
theorem dX10_order_23 : decode cX10_order 23 = .ok (.invokevirtual 320, 3) := zrD zrw_cX10_order_0 (i := 23) (by decide +kernel) rfl
theorem dX10_order_26 : decode cX10_order 26 = .ok (.ireturn, 1) := zrD zrw_cX10_order_0 (i := 26) (by decide +kernel) rfl
def zrk_cX10_basin_0 : ByteArray := .mk #[42, 27, 182, 0, 109, 153, 0, 12, 28, 3, 4, 184, 0, 229, 154, 0, 5, 2, 172, 42, 182, 0, 113, 42, 180, 0, 34, 27, 182, 1, 68, 62]
theorem zrw_cX10_basin_0 : zrW 0 cX10_basin zrk_cX10_basin_0 := by unfold zrW; decide +kernel
theorem dX10_basin_0 : decode cX10_basin 0 = .ok (.aload_n 0, 1) := zrD zrw_cX10_basin_0 (i := 0) (by decide +kernel) rfl
theorem dX10_basin_1 : decode cX10_basin 1 = .ok (.iload_n 1, 1) := zrD zrw_cX10_basin_0 (i := 1) (by decide +kernel) rfl
theorem dX10_basin_2 : decode cX10_basin 2 = .ok (.invokevirtual 109, 3) := zrD zrw_cX10_basin_0 (i := 2) (by decide +kernel) rfl
theorem dX10_basin_5 : decode cX10_basin 5 = .ok (.ifCond .eq 12, 3) := zrD zrw_cX10_basin_0 (i := 5) (by decide +kernel) rfl
theorem dX10_basin_8 : decode cX10_basin 8 = .ok (.iload_n 2, 1) := zrD zrw_cX10_basin_0 (i := 8) (by decide +kernel) rfl
theorem dX10_basin_9 : decode cX10_basin 9 = .ok (.iconst 0, 1) := zrD zrw_cX10_basin_0 (i := 9) (by decide +kernel) rfl
theorem dX10_basin_10 : decode cX10_basin 10 = .ok (.iconst 1, 1) := zrD zrw_cX10_basin_0 (i := 10) (by decide +kernel) rfl
theorem dX10_basin_11 : decode cX10_basin 11 = .ok (.invokestatic 229, 3) := zrD zrw_cX10_basin_0 (i := 11) (by decide +kernel) rfl
theorem dX10_basin_14 : decode cX10_basin 14 = .ok (.ifCond .ne 5, 3) := zrD zrw_cX10_basin_0 (i := 14) (by decide +kernel) rfl
theorem dX10_basin_17 : decode cX10_basin 17 = .ok (.iconst (-1), 1) := zrD zrw_cX10_basin_0 (i := 17) (by decide +kernel) rfl
theorem dX10_basin_18 : decode cX10_basin 18 = .ok (.ireturn, 1) := zrD zrw_cX10_basin_0 (i := 18) (by decide +kernel) rfl
theorem dX10_basin_19 : decode cX10_basin 19 = .ok (.aload_n 0, 1) := zrD zrw_cX10_basin_0 (i := 19) (by decide +kernel) rfl
theorem dX10_basin_20 : decode cX10_basin 20 = .ok (.invokevirtual 113, 3) := zrD zrw_cX10_basin_0 (i := 20) (by decide +kernel) rfl
theorem dX10_basin_23 : decode cX10_basin 23 = .ok (.aload_n 0, 1) := zrD zrw_cX10_basin_0 (i := 23) (by decide +kernel) rfl
theorem dX10_basin_24 : decode cX10_basin 24 = .ok (.getfield 34, 3) := zrD zrw_cX10_basin_0 (i := 24) (by decide +kernel) rfl
theorem dX10_basin_27 : decode cX10_basin 27 = .ok (.iload_n 1, 1) := zrD zrw_cX10_basin_0 (i := 27) (by decide +kernel) rfl
theorem dX10_basin_28 : decode cX10_basin 28 = .ok (.invokevirtual 324, 3) := zrD zrw_cX10_basin_0 (i := 28) (by decide +kernel) rfl
theorem dX10_basin_31 : decode cX10_basin 31 = .ok (.istore_n 3, 1) := zrD zrw_cX10_basin_0 (i := 31) (by decide +kernel) rfl
def zrk_cX10_basin_32 : ByteArray := .mk #[28, 154, 0, 7, 29, 167, 0, 11, 42, 180, 0, 26, 29, 182, 1, 71, 172]
theorem zrw_cX10_basin_32 : zrW 32 cX10_basin zrk_cX10_basin_32 := by unfold zrW; decide +kernel
theorem dX10_basin_32 : decode cX10_basin 32 = .ok (.iload_n 2, 1) := zrD zrw_cX10_basin_32 (i := 0) (by decide +kernel) rfl
theorem dX10_basin_33 : decode cX10_basin 33 = .ok (.ifCond .ne 7, 3) := zrD zrw_cX10_basin_32 (i := 1) (by decide +kernel) rfl
theorem dX10_basin_36 : decode cX10_basin 36 = .ok (.iload_n 3, 1) := zrD zrw_cX10_basin_32 (i := 4) (by decide +kernel) rfl
theorem dX10_basin_37 : decode cX10_basin 37 = .ok (.goto 11, 3) := zrD zrw_cX10_basin_32 (i := 5) (by decide +kernel) rfl
theorem dX10_basin_40 : decode cX10_basin 40 = .ok (.aload_n 0, 1) := zrD zrw_cX10_basin_32 (i := 8) (by decide +kernel) rfl
theorem dX10_basin_41 : decode cX10_basin 41 = .ok (.getfield 26, 3) := zrD zrw_cX10_basin_32 (i := 9) (by decide +kernel) rfl
theorem dX10_basin_44 : decode cX10_basin 44 = .ok (.iload_n 3, 1) := zrD zrw_cX10_basin_32 (i := 12) (by decide +kernel) rfl
theorem dX10_basin_45 : decode cX10_basin 45 = .ok (.invokevirtual 327, 3) := zrD zrw_cX10_basin_32 (i := 13) (by decide +kernel) rfl
theorem dX10_basin_48 : decode cX10_basin 48 = .ok (.ireturn, 1) := zrD zrw_cX10_basin_32 (i := 16) (by decide +kernel) rfl
def zrk_cX10_tour_0 : ByteArray := .mk #[42, 182, 0, 113, 42, 180, 0, 34, 42, 180, 0, 34, 182, 0, 188, 182, 1, 74, 172]
theorem zrw_cX10_tour_0 : zrW 0 cX10_tour zrk_cX10_tour_0 := by unfold zrW; decide +kernel
theorem dX10_tour_0 : decode cX10_tour 0 = .ok (.aload_n 0, 1) := zrD zrw_cX10_tour_0 (i := 0) (by decide +kernel) rfl
theorem dX10_tour_1 : decode cX10_tour 1 = .ok (.invokevirtual 113, 3) := zrD zrw_cX10_tour_0 (i := 1) (by decide +kernel) rfl
theorem dX10_tour_4 : decode cX10_tour 4 = .ok (.aload_n 0, 1) := zrD zrw_cX10_tour_0 (i := 4) (by decide +kernel) rfl
theorem dX10_tour_5 : decode cX10_tour 5 = .ok (.getfield 34, 3) := zrD zrw_cX10_tour_0 (i := 5) (by decide +kernel) rfl
theorem dX10_tour_8 : decode cX10_tour 8 = .ok (.aload_n 0, 1) := zrD zrw_cX10_tour_0 (i := 8) (by decide +kernel) rfl
theorem dX10_tour_9 : decode cX10_tour 9 = .ok (.getfield 34, 3) := zrD zrw_cX10_tour_0 (i := 9) (by decide +kernel) rfl
theorem dX10_tour_12 : decode cX10_tour 12 = .ok (.invokevirtual 188, 3) := zrD zrw_cX10_tour_0 (i := 12) (by decide +kernel) rfl
theorem dX10_tour_15 : decode cX10_tour 15 = .ok (.invokevirtual 330, 3) := zrD zrw_cX10_tour_0 (i := 15) (by decide +kernel) rfl
theorem dX10_tour_18 : decode cX10_tour 18 = .ok (.ireturn, 1) := zrD zrw_cX10_tour_0 (i := 18) (by decide +kernel) rfl
def zrk_cX10_parted_0 : ByteArray := .mk #[42, 182, 0, 113, 42, 180, 0, 34, 182, 0, 188, 60, 42, 180, 0, 34, 27, 182, 1, 74, 61, 3, 62, 29, 27, 162, 0, 44, 29, 27, 126, 29]
theorem zrw_cX10_parted_0 : zrW 0 cX10_parted zrk_cX10_parted_0 := by unfold zrW; decide +kernel
theorem dX10_parted_0 : decode cX10_parted 0 = .ok (.aload_n 0, 1) := zrD zrw_cX10_parted_0 (i := 0) (by decide +kernel) rfl
theorem dX10_parted_1 : decode cX10_parted 1 = .ok (.invokevirtual 113, 3) := zrD zrw_cX10_parted_0 (i := 1) (by decide +kernel) rfl
theorem dX10_parted_4 : decode cX10_parted 4 = .ok (.aload_n 0, 1) := zrD zrw_cX10_parted_0 (i := 4) (by decide +kernel) rfl
theorem dX10_parted_5 : decode cX10_parted 5 = .ok (.getfield 34, 3) := zrD zrw_cX10_parted_0 (i := 5) (by decide +kernel) rfl
theorem dX10_parted_8 : decode cX10_parted 8 = .ok (.invokevirtual 188, 3) := zrD zrw_cX10_parted_0 (i := 8) (by decide +kernel) rfl
theorem dX10_parted_11 : decode cX10_parted 11 = .ok (.istore_n 1, 1) := zrD zrw_cX10_parted_0 (i := 11) (by decide +kernel) rfl
theorem dX10_parted_12 : decode cX10_parted 12 = .ok (.aload_n 0, 1) := zrD zrw_cX10_parted_0 (i := 12) (by decide +kernel) rfl
theorem dX10_parted_13 : decode cX10_parted 13 = .ok (.getfield 34, 3) := zrD zrw_cX10_parted_0 (i := 13) (by decide +kernel) rfl
theorem dX10_parted_16 : decode cX10_parted 16 = .ok (.iload_n 1, 1) := zrD zrw_cX10_parted_0 (i := 16) (by decide +kernel) rfl
theorem dX10_parted_17 : decode cX10_parted 17 = .ok (.invokevirtual 330, 3) := zrD zrw_cX10_parted_0 (i := 17) (by decide +kernel) rfl
theorem dX10_parted_20 : decode cX10_parted 20 = .ok (.istore_n 2, 1) := zrD zrw_cX10_parted_0 (i := 20) (by decide +kernel) rfl
theorem dX10_parted_21 : decode cX10_parted 21 = .ok (.iconst 0, 1) := zrD zrw_cX10_parted_0 (i := 21) (by decide +kernel) rfl
theorem dX10_parted_22 : decode cX10_parted 22 = .ok (.istore_n 3, 1) := zrD zrw_cX10_parted_0 (i := 22) (by decide +kernel) rfl
theorem dX10_parted_23 : decode cX10_parted 23 = .ok (.iload_n 3, 1) := zrD zrw_cX10_parted_0 (i := 23) (by decide +kernel) rfl
theorem dX10_parted_24 : decode cX10_parted 24 = .ok (.iload_n 1, 1) := zrD zrw_cX10_parted_0 (i := 24) (by decide +kernel) rfl
theorem dX10_parted_25 : decode cX10_parted 25 = .ok (.if_icmp .ge 44, 3) := zrD zrw_cX10_parted_0 (i := 25) (by decide +kernel) rfl
theorem dX10_parted_28 : decode cX10_parted 28 = .ok (.iload_n 3, 1) := zrD zrw_cX10_parted_0 (i := 28) (by decide +kernel) rfl
theorem dX10_parted_29 : decode cX10_parted 29 = .ok (.iload_n 1, 1) := zrD zrw_cX10_parted_0 (i := 29) (by decide +kernel) rfl
theorem dX10_parted_30 : decode cX10_parted 30 = .ok (.iand, 1) := zrD zrw_cX10_parted_0 (i := 30) (by decide +kernel) rfl
theorem dX10_parted_31 : decode cX10_parted 31 = .ok (.iload_n 3, 1) := zrD zrw_cX10_parted_0 (i := 31) (by decide +kernel) rfl
def zrk_cX10_parted_32 : ByteArray := .mk #[160, 0, 31, 28, 42, 180, 0, 34, 29, 182, 1, 74, 42, 180, 0, 34, 27, 29, 2, 130, 126, 182, 1, 74, 184, 1, 77, 184, 1, 6, 61]
theorem zrw_cX10_parted_32 : zrW 32 cX10_parted zrk_cX10_parted_32 := by unfold zrW; decide +kernel
theorem dX10_parted_32 : decode cX10_parted 32 = .ok (.if_icmp .ne 31, 3) := zrD zrw_cX10_parted_32 (i := 0) (by decide +kernel) rfl
theorem dX10_parted_35 : decode cX10_parted 35 = .ok (.iload_n 2, 1) := zrD zrw_cX10_parted_32 (i := 3) (by decide +kernel) rfl
theorem dX10_parted_36 : decode cX10_parted 36 = .ok (.aload_n 0, 1) := zrD zrw_cX10_parted_32 (i := 4) (by decide +kernel) rfl
theorem dX10_parted_37 : decode cX10_parted 37 = .ok (.getfield 34, 3) := zrD zrw_cX10_parted_32 (i := 5) (by decide +kernel) rfl
theorem dX10_parted_40 : decode cX10_parted 40 = .ok (.iload_n 3, 1) := zrD zrw_cX10_parted_32 (i := 8) (by decide +kernel) rfl
theorem dX10_parted_41 : decode cX10_parted 41 = .ok (.invokevirtual 330, 3) := zrD zrw_cX10_parted_32 (i := 9) (by decide +kernel) rfl
theorem dX10_parted_44 : decode cX10_parted 44 = .ok (.aload_n 0, 1) := zrD zrw_cX10_parted_32 (i := 12) (by decide +kernel) rfl
theorem dX10_parted_45 : decode cX10_parted 45 = .ok (.getfield 34, 3) := zrD zrw_cX10_parted_32 (i := 13) (by decide +kernel) rfl
theorem dX10_parted_48 : decode cX10_parted 48 = .ok (.iload_n 1, 1) := zrD zrw_cX10_parted_32 (i := 16) (by decide +kernel) rfl
theorem dX10_parted_49 : decode cX10_parted 49 = .ok (.iload_n 3, 1) := zrD zrw_cX10_parted_32 (i := 17) (by decide +kernel) rfl
theorem dX10_parted_50 : decode cX10_parted 50 = .ok (.iconst (-1), 1) := zrD zrw_cX10_parted_32 (i := 18) (by decide +kernel) rfl
theorem dX10_parted_51 : decode cX10_parted 51 = .ok (.ixor, 1) := zrD zrw_cX10_parted_32 (i := 19) (by decide +kernel) rfl
theorem dX10_parted_52 : decode cX10_parted 52 = .ok (.iand, 1) := zrD zrw_cX10_parted_32 (i := 20) (by decide +kernel) rfl
theorem dX10_parted_53 : decode cX10_parted 53 = .ok (.invokevirtual 330, 3) := zrD zrw_cX10_parted_32 (i := 21) (by decide +kernel) rfl
theorem dX10_parted_56 : decode cX10_parted 56 = .ok (.invokestatic 333, 3) := zrD zrw_cX10_parted_32 (i := 24) (by decide +kernel) rfl
theorem dX10_parted_59 : decode cX10_parted 59 = .ok (.invokestatic 262, 3) := zrD zrw_cX10_parted_32 (i := 27) (by decide +kernel) rfl
theorem dX10_parted_62 : decode cX10_parted 62 = .ok (.istore_n 2, 1) := zrD zrw_cX10_parted_32 (i := 30) (by decide +kernel) rfl
def zrk_cX10_parted_63 : ByteArray := .mk #[132, 3, 1, 167, 255, 213, 28, 172]
theorem zrw_cX10_parted_63 : zrW 63 cX10_parted zrk_cX10_parted_63 := by unfold zrW; decide +kernel
theorem dX10_parted_63 : decode cX10_parted 63 = .ok (.iinc 3 1, 3) := zrD zrw_cX10_parted_63 (i := 0) (by decide +kernel) rfl
theorem dX10_parted_66 : decode cX10_parted 66 = .ok (.goto (-43), 3) := zrD zrw_cX10_parted_63 (i := 3) (by decide +kernel) rfl
theorem dX10_parted_69 : decode cX10_parted 69 = .ok (.iload_n 2, 1) := zrD zrw_cX10_parted_63 (i := 6) (by decide +kernel) rfl
theorem dX10_parted_70 : decode cX10_parted 70 = .ok (.ireturn, 1) := zrD zrw_cX10_parted_63 (i := 7) (by decide +kernel) rfl
def zrk_cX10_meet_0 : ByteArray := .mk #[42, 27, 182, 0, 109, 153, 0, 20, 42, 28, 182, 0, 109, 153, 0, 12, 29, 3, 4, 184, 0, 229, 154, 0, 5, 2, 172, 42, 182, 0, 113, 42]
theorem zrw_cX10_meet_0 : zrW 0 cX10_meet zrk_cX10_meet_0 := by unfold zrW; decide +kernel
theorem dX10_meet_0 : decode cX10_meet 0 = .ok (.aload_n 0, 1) := zrD zrw_cX10_meet_0 (i := 0) (by decide +kernel) rfl
theorem dX10_meet_1 : decode cX10_meet 1 = .ok (.iload_n 1, 1) := zrD zrw_cX10_meet_0 (i := 1) (by decide +kernel) rfl
theorem dX10_meet_2 : decode cX10_meet 2 = .ok (.invokevirtual 109, 3) := zrD zrw_cX10_meet_0 (i := 2) (by decide +kernel) rfl
theorem dX10_meet_5 : decode cX10_meet 5 = .ok (.ifCond .eq 20, 3) := zrD zrw_cX10_meet_0 (i := 5) (by decide +kernel) rfl
theorem dX10_meet_8 : decode cX10_meet 8 = .ok (.aload_n 0, 1) := zrD zrw_cX10_meet_0 (i := 8) (by decide +kernel) rfl
theorem dX10_meet_9 : decode cX10_meet 9 = .ok (.iload_n 2, 1) := zrD zrw_cX10_meet_0 (i := 9) (by decide +kernel) rfl
theorem dX10_meet_10 : decode cX10_meet 10 = .ok (.invokevirtual 109, 3) := zrD zrw_cX10_meet_0 (i := 10) (by decide +kernel) rfl
theorem dX10_meet_13 : decode cX10_meet 13 = .ok (.ifCond .eq 12, 3) := zrD zrw_cX10_meet_0 (i := 13) (by decide +kernel) rfl
theorem dX10_meet_16 : decode cX10_meet 16 = .ok (.iload_n 3, 1) := zrD zrw_cX10_meet_0 (i := 16) (by decide +kernel) rfl
theorem dX10_meet_17 : decode cX10_meet 17 = .ok (.iconst 0, 1) := zrD zrw_cX10_meet_0 (i := 17) (by decide +kernel) rfl
theorem dX10_meet_18 : decode cX10_meet 18 = .ok (.iconst 1, 1) := zrD zrw_cX10_meet_0 (i := 18) (by decide +kernel) rfl
theorem dX10_meet_19 : decode cX10_meet 19 = .ok (.invokestatic 229, 3) := zrD zrw_cX10_meet_0 (i := 19) (by decide +kernel) rfl
theorem dX10_meet_22 : decode cX10_meet 22 = .ok (.ifCond .ne 5, 3) := zrD zrw_cX10_meet_0 (i := 22) (by decide +kernel) rfl
theorem dX10_meet_25 : decode cX10_meet 25 = .ok (.iconst (-1), 1) := zrD zrw_cX10_meet_0 (i := 25) (by decide +kernel) rfl
theorem dX10_meet_26 : decode cX10_meet 26 = .ok (.ireturn, 1) := zrD zrw_cX10_meet_0 (i := 26) (by decide +kernel) rfl
theorem dX10_meet_27 : decode cX10_meet 27 = .ok (.aload_n 0, 1) := zrD zrw_cX10_meet_0 (i := 27) (by decide +kernel) rfl
theorem dX10_meet_28 : decode cX10_meet 28 = .ok (.invokevirtual 113, 3) := zrD zrw_cX10_meet_0 (i := 28) (by decide +kernel) rfl
theorem dX10_meet_31 : decode cX10_meet 31 = .ok (.aload_n 0, 1) := zrD zrw_cX10_meet_0 (i := 31) (by decide +kernel) rfl
def zrk_cX10_meet_32 : ByteArray := .mk #[180, 0, 34, 27, 28, 182, 1, 80, 54, 4, 29, 154, 0, 8, 21, 4, 167, 0, 35, 42, 180, 0, 34, 180, 0, 138, 27, 46, 42, 180, 0, 34]
theorem zrw_cX10_meet_32 : zrW 32 cX10_meet zrk_cX10_meet_32 := by unfold zrW; decide +kernel
theorem dX10_meet_32 : decode cX10_meet 32 = .ok (.getfield 34, 3) := zrD zrw_cX10_meet_32 (i := 0) (by decide +kernel) rfl
theorem dX10_meet_35 : decode cX10_meet 35 = .ok (.iload_n 1, 1) := zrD zrw_cX10_meet_32 (i := 3) (by decide +kernel) rfl
theorem dX10_meet_36 : decode cX10_meet 36 = .ok (.iload_n 2, 1) := zrD zrw_cX10_meet_32 (i := 4) (by decide +kernel) rfl
theorem dX10_meet_37 : decode cX10_meet 37 = .ok (.invokevirtual 336, 3) := zrD zrw_cX10_meet_32 (i := 5) (by decide +kernel) rfl
theorem dX10_meet_40 : decode cX10_meet 40 = .ok (.istore 4, 2) := zrD zrw_cX10_meet_32 (i := 8) (by decide +kernel) rfl
theorem dX10_meet_42 : decode cX10_meet 42 = .ok (.iload_n 3, 1) := zrD zrw_cX10_meet_32 (i := 10) (by decide +kernel) rfl
theorem dX10_meet_43 : decode cX10_meet 43 = .ok (.ifCond .ne 8, 3) := zrD zrw_cX10_meet_32 (i := 11) (by decide +kernel) rfl
theorem dX10_meet_46 : decode cX10_meet 46 = .ok (.iload 4, 2) := zrD zrw_cX10_meet_32 (i := 14) (by decide +kernel) rfl
theorem dX10_meet_48 : decode cX10_meet 48 = .ok (.goto 35, 3) := zrD zrw_cX10_meet_32 (i := 16) (by decide +kernel) rfl
theorem dX10_meet_51 : decode cX10_meet 51 = .ok (.aload_n 0, 1) := zrD zrw_cX10_meet_32 (i := 19) (by decide +kernel) rfl
theorem dX10_meet_52 : decode cX10_meet 52 = .ok (.getfield 34, 3) := zrD zrw_cX10_meet_32 (i := 20) (by decide +kernel) rfl
theorem dX10_meet_55 : decode cX10_meet 55 = .ok (.getfield 138, 3) := zrD zrw_cX10_meet_32 (i := 23) (by decide +kernel) rfl
theorem dX10_meet_58 : decode cX10_meet 58 = .ok (.iload_n 1, 1) := zrD zrw_cX10_meet_32 (i := 26) (by decide +kernel) rfl
theorem dX10_meet_59 : decode cX10_meet 59 = .ok (.iaload, 1) := zrD zrw_cX10_meet_32 (i := 27) (by decide +kernel) rfl
theorem dX10_meet_60 : decode cX10_meet 60 = .ok (.aload_n 0, 1) := zrD zrw_cX10_meet_32 (i := 28) (by decide +kernel) rfl
theorem dX10_meet_61 : decode cX10_meet 61 = .ok (.getfield 34, 3) := zrD zrw_cX10_meet_32 (i := 29) (by decide +kernel) rfl
def zrk_cX10_meet_64 : ByteArray := .mk #[180, 0, 138, 28, 46, 96, 5, 42, 180, 0, 34, 180, 0, 138, 21, 4, 46, 104, 100, 172]
theorem zrw_cX10_meet_64 : zrW 64 cX10_meet zrk_cX10_meet_64 := by unfold zrW; decide +kernel
theorem dX10_meet_64 : decode cX10_meet 64 = .ok (.getfield 138, 3) := zrD zrw_cX10_meet_64 (i := 0) (by decide +kernel) rfl
theorem dX10_meet_67 : decode cX10_meet 67 = .ok (.iload_n 2, 1) := zrD zrw_cX10_meet_64 (i := 3) (by decide +kernel) rfl
theorem dX10_meet_68 : decode cX10_meet 68 = .ok (.iaload, 1) := zrD zrw_cX10_meet_64 (i := 4) (by decide +kernel) rfl
theorem dX10_meet_69 : decode cX10_meet 69 = .ok (.iadd, 1) := zrD zrw_cX10_meet_64 (i := 5) (by decide +kernel) rfl
theorem dX10_meet_70 : decode cX10_meet 70 = .ok (.iconst 2, 1) := zrD zrw_cX10_meet_64 (i := 6) (by decide +kernel) rfl
theorem dX10_meet_71 : decode cX10_meet 71 = .ok (.aload_n 0, 1) := zrD zrw_cX10_meet_64 (i := 7) (by decide +kernel) rfl
theorem dX10_meet_72 : decode cX10_meet 72 = .ok (.getfield 34, 3) := zrD zrw_cX10_meet_64 (i := 8) (by decide +kernel) rfl
theorem dX10_meet_75 : decode cX10_meet 75 = .ok (.getfield 138, 3) := zrD zrw_cX10_meet_64 (i := 11) (by decide +kernel) rfl
theorem dX10_meet_78 : decode cX10_meet 78 = .ok (.iload 4, 2) := zrD zrw_cX10_meet_64 (i := 14) (by decide +kernel) rfl
theorem dX10_meet_80 : decode cX10_meet 80 = .ok (.iaload, 1) := zrD zrw_cX10_meet_64 (i := 16) (by decide +kernel) rfl
theorem dX10_meet_81 : decode cX10_meet 81 = .ok (.imul, 1) := zrD zrw_cX10_meet_64 (i := 17) (by decide +kernel) rfl
theorem dX10_meet_82 : decode cX10_meet 82 = .ok (.isub, 1) := zrD zrw_cX10_meet_64 (i := 18) (by decide +kernel) rfl
theorem dX10_meet_83 : decode cX10_meet 83 = .ok (.ireturn, 1) := zrD zrw_cX10_meet_64 (i := 19) (by decide +kernel) rfl
def zrk_cX10_tell_0 : ByteArray := .mk #[42, 27, 182, 0, 109, 153, 0, 25, 28, 3, 17, 39, 15, 184, 0, 229, 153, 0, 14, 29, 28, 17, 39, 15, 184, 0, 229, 154, 0, 5, 2, 172]
theorem zrw_cX10_tell_0 : zrW 0 cX10_tell zrk_cX10_tell_0 := by unfold zrW; decide +kernel
theorem dX10_tell_0 : decode cX10_tell 0 = .ok (.aload_n 0, 1) := zrD zrw_cX10_tell_0 (i := 0) (by decide +kernel) rfl
theorem dX10_tell_1 : decode cX10_tell 1 = .ok (.iload_n 1, 1) := zrD zrw_cX10_tell_0 (i := 1) (by decide +kernel) rfl
theorem dX10_tell_2 : decode cX10_tell 2 = .ok (.invokevirtual 109, 3) := zrD zrw_cX10_tell_0 (i := 2) (by decide +kernel) rfl
theorem dX10_tell_5 : decode cX10_tell 5 = .ok (.ifCond .eq 25, 3) := zrD zrw_cX10_tell_0 (i := 5) (by decide +kernel) rfl
theorem dX10_tell_8 : decode cX10_tell 8 = .ok (.iload_n 2, 1) := zrD zrw_cX10_tell_0 (i := 8) (by decide +kernel) rfl
theorem dX10_tell_9 : decode cX10_tell 9 = .ok (.iconst 0, 1) := zrD zrw_cX10_tell_0 (i := 9) (by decide +kernel) rfl
theorem dX10_tell_10 : decode cX10_tell 10 = .ok (.sipush 9999, 3) := zrD zrw_cX10_tell_0 (i := 10) (by decide +kernel) rfl
theorem dX10_tell_13 : decode cX10_tell 13 = .ok (.invokestatic 229, 3) := zrD zrw_cX10_tell_0 (i := 13) (by decide +kernel) rfl
theorem dX10_tell_16 : decode cX10_tell 16 = .ok (.ifCond .eq 14, 3) := zrD zrw_cX10_tell_0 (i := 16) (by decide +kernel) rfl
theorem dX10_tell_19 : decode cX10_tell 19 = .ok (.iload_n 3, 1) := zrD zrw_cX10_tell_0 (i := 19) (by decide +kernel) rfl
theorem dX10_tell_20 : decode cX10_tell 20 = .ok (.iload_n 2, 1) := zrD zrw_cX10_tell_0 (i := 20) (by decide +kernel) rfl
theorem dX10_tell_21 : decode cX10_tell 21 = .ok (.sipush 9999, 3) := zrD zrw_cX10_tell_0 (i := 21) (by decide +kernel) rfl
theorem dX10_tell_24 : decode cX10_tell 24 = .ok (.invokestatic 229, 3) := zrD zrw_cX10_tell_0 (i := 24) (by decide +kernel) rfl
theorem dX10_tell_27 : decode cX10_tell 27 = .ok (.ifCond .ne 5, 3) := zrD zrw_cX10_tell_0 (i := 27) (by decide +kernel) rfl
theorem dX10_tell_30 : decode cX10_tell 30 = .ok (.iconst (-1), 1) := zrD zrw_cX10_tell_0 (i := 30) (by decide +kernel) rfl
theorem dX10_tell_31 : decode cX10_tell 31 = .ok (.ireturn, 1) := zrD zrw_cX10_tell_0 (i := 31) (by decide +kernel) rfl
def zrk_cX10_tell_32 : ByteArray := .mk #[42, 180, 0, 45, 27, 28, 29, 21, 4, 182, 1, 83, 172]
theorem zrw_cX10_tell_32 : zrW 32 cX10_tell zrk_cX10_tell_32 := by unfold zrW; decide +kernel
theorem dX10_tell_32 : decode cX10_tell 32 = .ok (.aload_n 0, 1) := zrD zrw_cX10_tell_32 (i := 0) (by decide +kernel) rfl
theorem dX10_tell_33 : decode cX10_tell 33 = .ok (.getfield 45, 3) := zrD zrw_cX10_tell_32 (i := 1) (by decide +kernel) rfl
theorem dX10_tell_36 : decode cX10_tell 36 = .ok (.iload_n 1, 1) := zrD zrw_cX10_tell_32 (i := 4) (by decide +kernel) rfl
theorem dX10_tell_37 : decode cX10_tell 37 = .ok (.iload_n 2, 1) := zrD zrw_cX10_tell_32 (i := 5) (by decide +kernel) rfl
theorem dX10_tell_38 : decode cX10_tell 38 = .ok (.iload_n 3, 1) := zrD zrw_cX10_tell_32 (i := 6) (by decide +kernel) rfl
theorem dX10_tell_39 : decode cX10_tell 39 = .ok (.iload 4, 2) := zrD zrw_cX10_tell_32 (i := 7) (by decide +kernel) rfl
theorem dX10_tell_41 : decode cX10_tell 41 = .ok (.invokevirtual 339, 3) := zrD zrw_cX10_tell_32 (i := 9) (by decide +kernel) rfl
theorem dX10_tell_44 : decode cX10_tell 44 = .ok (.ireturn, 1) := zrD zrw_cX10_tell_32 (i := 12) (by decide +kernel) rfl
def zrk_cX10_forget_0 : ByteArray := .mk #[42, 180, 0, 45, 180, 0, 108, 60, 42, 180, 0, 45, 3, 181, 0, 108, 27, 172]
theorem zrw_cX10_forget_0 : zrW 0 cX10_forget zrk_cX10_forget_0 := by unfold zrW; decide +kernel
theorem dX10_forget_0 : decode cX10_forget 0 = .ok (.aload_n 0, 1) := zrD zrw_cX10_forget_0 (i := 0) (by decide +kernel) rfl
theorem dX10_forget_1 : decode cX10_forget 1 = .ok (.getfield 45, 3) := zrD zrw_cX10_forget_0 (i := 1) (by decide +kernel) rfl
theorem dX10_forget_4 : decode cX10_forget 4 = .ok (.getfield 108, 3) := zrD zrw_cX10_forget_0 (i := 4) (by decide +kernel) rfl
theorem dX10_forget_7 : decode cX10_forget 7 = .ok (.istore_n 1, 1) := zrD zrw_cX10_forget_0 (i := 7) (by decide +kernel) rfl
theorem dX10_forget_8 : decode cX10_forget 8 = .ok (.aload_n 0, 1) := zrD zrw_cX10_forget_0 (i := 8) (by decide +kernel) rfl
theorem dX10_forget_9 : decode cX10_forget 9 = .ok (.getfield 45, 3) := zrD zrw_cX10_forget_0 (i := 9) (by decide +kernel) rfl
theorem dX10_forget_12 : decode cX10_forget 12 = .ok (.iconst 0, 1) := zrD zrw_cX10_forget_0 (i := 12) (by decide +kernel) rfl
theorem dX10_forget_13 : decode cX10_forget 13 = .ok (.putfield 108, 3) := zrD zrw_cX10_forget_0 (i := 13) (by decide +kernel) rfl
theorem dX10_forget_16 : decode cX10_forget 16 = .ok (.iload_n 1, 1) := zrD zrw_cX10_forget_0 (i := 16) (by decide +kernel) rfl
theorem dX10_forget_17 : decode cX10_forget 17 = .ok (.ireturn, 1) := zrD zrw_cX10_forget_0 (i := 17) (by decide +kernel) rfl
def zrk_cX10_dyed_0 : ByteArray := .mk #[27, 3, 42, 180, 0, 45, 180, 0, 108, 184, 0, 229, 153, 0, 12, 28, 3, 4, 184, 0, 229, 154, 0, 5, 2, 172, 42, 182, 0, 113, 42]
theorem zrw_cX10_dyed_0 : zrW 0 cX10_dyed zrk_cX10_dyed_0 := by unfold zrW; decide +kernel
theorem dX10_dyed_0 : decode cX10_dyed 0 = .ok (.iload_n 1, 1) := zrD zrw_cX10_dyed_0 (i := 0) (by decide +kernel) rfl
theorem dX10_dyed_1 : decode cX10_dyed 1 = .ok (.iconst 0, 1) := zrD zrw_cX10_dyed_0 (i := 1) (by decide +kernel) rfl
theorem dX10_dyed_2 : decode cX10_dyed 2 = .ok (.aload_n 0, 1) := zrD zrw_cX10_dyed_0 (i := 2) (by decide +kernel) rfl
theorem dX10_dyed_3 : decode cX10_dyed 3 = .ok (.getfield 45, 3) := zrD zrw_cX10_dyed_0 (i := 3) (by decide +kernel) rfl
theorem dX10_dyed_6 : decode cX10_dyed 6 = .ok (.getfield 108, 3) := zrD zrw_cX10_dyed_0 (i := 6) (by decide +kernel) rfl
theorem dX10_dyed_9 : decode cX10_dyed 9 = .ok (.invokestatic 229, 3) := zrD zrw_cX10_dyed_0 (i := 9) (by decide +kernel) rfl
theorem dX10_dyed_12 : decode cX10_dyed 12 = .ok (.ifCond .eq 12, 3) := zrD zrw_cX10_dyed_0 (i := 12) (by decide +kernel) rfl
theorem dX10_dyed_15 : decode cX10_dyed 15 = .ok (.iload_n 2, 1) := zrD zrw_cX10_dyed_0 (i := 15) (by decide +kernel) rfl
theorem dX10_dyed_16 : decode cX10_dyed 16 = .ok (.iconst 0, 1) := zrD zrw_cX10_dyed_0 (i := 16) (by decide +kernel) rfl
theorem dX10_dyed_17 : decode cX10_dyed 17 = .ok (.iconst 1, 1) := zrD zrw_cX10_dyed_0 (i := 17) (by decide +kernel) rfl
theorem dX10_dyed_18 : decode cX10_dyed 18 = .ok (.invokestatic 229, 3) := zrD zrw_cX10_dyed_0 (i := 18) (by decide +kernel) rfl
theorem dX10_dyed_21 : decode cX10_dyed 21 = .ok (.ifCond .ne 5, 3) := zrD zrw_cX10_dyed_0 (i := 21) (by decide +kernel) rfl
theorem dX10_dyed_24 : decode cX10_dyed 24 = .ok (.iconst (-1), 1) := zrD zrw_cX10_dyed_0 (i := 24) (by decide +kernel) rfl
theorem dX10_dyed_25 : decode cX10_dyed 25 = .ok (.ireturn, 1) := zrD zrw_cX10_dyed_0 (i := 25) (by decide +kernel) rfl
theorem dX10_dyed_26 : decode cX10_dyed 26 = .ok (.aload_n 0, 1) := zrD zrw_cX10_dyed_0 (i := 26) (by decide +kernel) rfl
theorem dX10_dyed_27 : decode cX10_dyed 27 = .ok (.invokevirtual 113, 3) := zrD zrw_cX10_dyed_0 (i := 27) (by decide +kernel) rfl
theorem dX10_dyed_30 : decode cX10_dyed 30 = .ok (.aload_n 0, 1) := zrD zrw_cX10_dyed_0 (i := 30) (by decide +kernel) rfl
def zrk_cX10_dyed_31 : ByteArray := .mk #[180, 0, 45, 42, 180, 0, 34, 27, 182, 1, 87, 62, 28, 154, 0, 10, 29, 184, 0, 198, 167, 0, 4, 29, 172]
theorem zrw_cX10_dyed_31 : zrW 31 cX10_dyed zrk_cX10_dyed_31 := by unfold zrW; decide +kernel
theorem dX10_dyed_31 : decode cX10_dyed 31 = .ok (.getfield 45, 3) := zrD zrw_cX10_dyed_31 (i := 0) (by decide +kernel) rfl
theorem dX10_dyed_34 : decode cX10_dyed 34 = .ok (.aload_n 0, 1) := zrD zrw_cX10_dyed_31 (i := 3) (by decide +kernel) rfl
theorem dX10_dyed_35 : decode cX10_dyed 35 = .ok (.getfield 34, 3) := zrD zrw_cX10_dyed_31 (i := 4) (by decide +kernel) rfl
theorem dX10_dyed_38 : decode cX10_dyed 38 = .ok (.iload_n 1, 1) := zrD zrw_cX10_dyed_31 (i := 7) (by decide +kernel) rfl
theorem dX10_dyed_39 : decode cX10_dyed 39 = .ok (.invokevirtual 343, 3) := zrD zrw_cX10_dyed_31 (i := 8) (by decide +kernel) rfl
theorem dX10_dyed_42 : decode cX10_dyed 42 = .ok (.istore_n 3, 1) := zrD zrw_cX10_dyed_31 (i := 11) (by decide +kernel) rfl
theorem dX10_dyed_43 : decode cX10_dyed 43 = .ok (.iload_n 2, 1) := zrD zrw_cX10_dyed_31 (i := 12) (by decide +kernel) rfl
theorem dX10_dyed_44 : decode cX10_dyed 44 = .ok (.ifCond .ne 10, 3) := zrD zrw_cX10_dyed_31 (i := 13) (by decide +kernel) rfl
theorem dX10_dyed_47 : decode cX10_dyed 47 = .ok (.iload_n 3, 1) := zrD zrw_cX10_dyed_31 (i := 16) (by decide +kernel) rfl
theorem dX10_dyed_48 : decode cX10_dyed 48 = .ok (.invokestatic 198, 3) := zrD zrw_cX10_dyed_31 (i := 17) (by decide +kernel) rfl
theorem dX10_dyed_51 : decode cX10_dyed 51 = .ok (.goto 4, 3) := zrD zrw_cX10_dyed_31 (i := 20) (by decide +kernel) rfl
theorem dX10_dyed_54 : decode cX10_dyed 54 = .ok (.iload_n 3, 1) := zrD zrw_cX10_dyed_31 (i := 23) (by decide +kernel) rfl
theorem dX10_dyed_55 : decode cX10_dyed 55 = .ok (.ireturn, 1) := zrD zrw_cX10_dyed_31 (i := 24) (by decide +kernel) rfl
def zrk_cX10_watch_0 : ByteArray := .mk #[27, 3, 42, 180, 0, 45, 180, 0, 108, 184, 0, 229, 154, 0, 5, 2, 172, 42, 182, 0, 113, 42, 180, 0, 45, 42, 180, 0, 34, 27]
theorem zrw_cX10_watch_0 : zrW 0 cX10_watch zrk_cX10_watch_0 := by unfold zrW; decide +kernel
theorem dX10_watch_0 : decode cX10_watch 0 = .ok (.iload_n 1, 1) := zrD zrw_cX10_watch_0 (i := 0) (by decide +kernel) rfl
theorem dX10_watch_1 : decode cX10_watch 1 = .ok (.iconst 0, 1) := zrD zrw_cX10_watch_0 (i := 1) (by decide +kernel) rfl
theorem dX10_watch_2 : decode cX10_watch 2 = .ok (.aload_n 0, 1) := zrD zrw_cX10_watch_0 (i := 2) (by decide +kernel) rfl
theorem dX10_watch_3 : decode cX10_watch 3 = .ok (.getfield 45, 3) := zrD zrw_cX10_watch_0 (i := 3) (by decide +kernel) rfl
theorem dX10_watch_6 : decode cX10_watch 6 = .ok (.getfield 108, 3) := zrD zrw_cX10_watch_0 (i := 6) (by decide +kernel) rfl
theorem dX10_watch_9 : decode cX10_watch 9 = .ok (.invokestatic 229, 3) := zrD zrw_cX10_watch_0 (i := 9) (by decide +kernel) rfl
theorem dX10_watch_12 : decode cX10_watch 12 = .ok (.ifCond .ne 5, 3) := zrD zrw_cX10_watch_0 (i := 12) (by decide +kernel) rfl
theorem dX10_watch_15 : decode cX10_watch 15 = .ok (.iconst (-1), 1) := zrD zrw_cX10_watch_0 (i := 15) (by decide +kernel) rfl
theorem dX10_watch_16 : decode cX10_watch 16 = .ok (.ireturn, 1) := zrD zrw_cX10_watch_0 (i := 16) (by decide +kernel) rfl
theorem dX10_watch_17 : decode cX10_watch 17 = .ok (.aload_n 0, 1) := zrD zrw_cX10_watch_0 (i := 17) (by decide +kernel) rfl
theorem dX10_watch_18 : decode cX10_watch 18 = .ok (.invokevirtual 113, 3) := zrD zrw_cX10_watch_0 (i := 18) (by decide +kernel) rfl
theorem dX10_watch_21 : decode cX10_watch 21 = .ok (.aload_n 0, 1) := zrD zrw_cX10_watch_0 (i := 21) (by decide +kernel) rfl
theorem dX10_watch_22 : decode cX10_watch 22 = .ok (.getfield 45, 3) := zrD zrw_cX10_watch_0 (i := 22) (by decide +kernel) rfl
theorem dX10_watch_25 : decode cX10_watch 25 = .ok (.aload_n 0, 1) := zrD zrw_cX10_watch_0 (i := 25) (by decide +kernel) rfl
theorem dX10_watch_26 : decode cX10_watch 26 = .ok (.getfield 34, 3) := zrD zrw_cX10_watch_0 (i := 26) (by decide +kernel) rfl
theorem dX10_watch_29 : decode cX10_watch 29 = .ok (.iload_n 1, 1) := zrD zrw_cX10_watch_0 (i := 29) (by decide +kernel) rfl
def zrk_cX10_watch_30 : ByteArray := .mk #[182, 1, 87, 61, 28, 154, 0, 6, 16, 254, 172, 3, 62, 4, 54, 4, 21, 4, 42, 180, 0, 70, 180, 0, 175, 162, 0, 28, 42, 28, 21, 4]
theorem zrw_cX10_watch_30 : zrW 30 cX10_watch zrk_cX10_watch_30 := by unfold zrW; decide +kernel
theorem dX10_watch_30 : decode cX10_watch 30 = .ok (.invokevirtual 343, 3) := zrD zrw_cX10_watch_30 (i := 0) (by decide +kernel) rfl
theorem dX10_watch_33 : decode cX10_watch 33 = .ok (.istore_n 2, 1) := zrD zrw_cX10_watch_30 (i := 3) (by decide +kernel) rfl
theorem dX10_watch_34 : decode cX10_watch 34 = .ok (.iload_n 2, 1) := zrD zrw_cX10_watch_30 (i := 4) (by decide +kernel) rfl
theorem dX10_watch_35 : decode cX10_watch 35 = .ok (.ifCond .ne 6, 3) := zrD zrw_cX10_watch_30 (i := 5) (by decide +kernel) rfl
theorem dX10_watch_38 : decode cX10_watch 38 = .ok (.bipush (-2), 2) := zrD zrw_cX10_watch_30 (i := 8) (by decide +kernel) rfl
theorem dX10_watch_40 : decode cX10_watch 40 = .ok (.ireturn, 1) := zrD zrw_cX10_watch_30 (i := 10) (by decide +kernel) rfl
theorem dX10_watch_41 : decode cX10_watch 41 = .ok (.iconst 0, 1) := zrD zrw_cX10_watch_30 (i := 11) (by decide +kernel) rfl
theorem dX10_watch_42 : decode cX10_watch 42 = .ok (.istore_n 3, 1) := zrD zrw_cX10_watch_30 (i := 12) (by decide +kernel) rfl
theorem dX10_watch_43 : decode cX10_watch 43 = .ok (.iconst 1, 1) := zrD zrw_cX10_watch_30 (i := 13) (by decide +kernel) rfl
theorem dX10_watch_44 : decode cX10_watch 44 = .ok (.istore 4, 2) := zrD zrw_cX10_watch_30 (i := 14) (by decide +kernel) rfl
theorem dX10_watch_46 : decode cX10_watch 46 = .ok (.iload 4, 2) := zrD zrw_cX10_watch_30 (i := 16) (by decide +kernel) rfl
theorem dX10_watch_48 : decode cX10_watch 48 = .ok (.aload_n 0, 1) := zrD zrw_cX10_watch_30 (i := 18) (by decide +kernel) rfl
theorem dX10_watch_49 : decode cX10_watch 49 = .ok (.getfield 70, 3) := zrD zrw_cX10_watch_30 (i := 19) (by decide +kernel) rfl
theorem dX10_watch_52 : decode cX10_watch 52 = .ok (.getfield 175, 3) := zrD zrw_cX10_watch_30 (i := 22) (by decide +kernel) rfl
theorem dX10_watch_55 : decode cX10_watch 55 = .ok (.if_icmp .ge 28, 3) := zrD zrw_cX10_watch_30 (i := 25) (by decide +kernel) rfl
theorem dX10_watch_58 : decode cX10_watch 58 = .ok (.aload_n 0, 1) := zrD zrw_cX10_watch_30 (i := 28) (by decide +kernel) rfl
theorem dX10_watch_59 : decode cX10_watch 59 = .ok (.iload_n 2, 1) := zrD zrw_cX10_watch_30 (i := 29) (by decide +kernel) rfl
theorem dX10_watch_60 : decode cX10_watch 60 = .ok (.iload 4, 2) := zrD zrw_cX10_watch_30 (i := 30) (by decide +kernel) rfl
def zrk_cX10_watch_62 : ByteArray := .mk #[182, 1, 91, 42, 28, 29, 182, 1, 91, 162, 0, 6, 21, 4, 62, 132, 4, 1, 167, 255, 222, 29, 172]
theorem zrw_cX10_watch_62 : zrW 62 cX10_watch zrk_cX10_watch_62 := by unfold zrW; decide +kernel
theorem dX10_watch_62 : decode cX10_watch 62 = .ok (.invokevirtual 347, 3) := zrD zrw_cX10_watch_62 (i := 0) (by decide +kernel) rfl
theorem dX10_watch_65 : decode cX10_watch 65 = .ok (.aload_n 0, 1) := zrD zrw_cX10_watch_62 (i := 3) (by decide +kernel) rfl
theorem dX10_watch_66 : decode cX10_watch 66 = .ok (.iload_n 2, 1) := zrD zrw_cX10_watch_62 (i := 4) (by decide +kernel) rfl
theorem dX10_watch_67 : decode cX10_watch 67 = .ok (.iload_n 3, 1) := zrD zrw_cX10_watch_62 (i := 5) (by decide +kernel) rfl
theorem dX10_watch_68 : decode cX10_watch 68 = .ok (.invokevirtual 347, 3) := zrD zrw_cX10_watch_62 (i := 6) (by decide +kernel) rfl
theorem dX10_watch_71 : decode cX10_watch 71 = .ok (.if_icmp .ge 6, 3) := zrD zrw_cX10_watch_62 (i := 9) (by decide +kernel) rfl
theorem dX10_watch_74 : decode cX10_watch 74 = .ok (.iload 4, 2) := zrD zrw_cX10_watch_62 (i := 12) (by decide +kernel) rfl
theorem dX10_watch_76 : decode cX10_watch 76 = .ok (.istore_n 3, 1) := zrD zrw_cX10_watch_62 (i := 14) (by decide +kernel) rfl
theorem dX10_watch_77 : decode cX10_watch 77 = .ok (.iinc 4 1, 3) := zrD zrw_cX10_watch_62 (i := 15) (by decide +kernel) rfl
theorem dX10_watch_80 : decode cX10_watch 80 = .ok (.goto (-34), 3) := zrD zrw_cX10_watch_62 (i := 18) (by decide +kernel) rfl
theorem dX10_watch_83 : decode cX10_watch 83 = .ok (.iload_n 3, 1) := zrD zrw_cX10_watch_62 (i := 21) (by decide +kernel) rfl
theorem dX10_watch_84 : decode cX10_watch 84 = .ok (.ireturn, 1) := zrD zrw_cX10_watch_62 (i := 22) (by decide +kernel) rfl
def zrk_cX10_leftAtWorst_0 : ByteArray := .mk #[27, 42, 180, 0, 34, 28, 182, 1, 68, 126, 62, 29, 184, 0, 198, 27, 29, 2, 130, 126, 184, 0, 198, 184, 1, 77, 172]
theorem zrw_cX10_leftAtWorst_0 : zrW 0 cX10_leftAtWorst zrk_cX10_leftAtWorst_0 := by unfold zrW; decide +kernel
theorem dX10_leftAtWorst_0 : decode cX10_leftAtWorst 0 = .ok (.iload_n 1, 1) := zrD zrw_cX10_leftAtWorst_0 (i := 0) (by decide +kernel) rfl
theorem dX10_leftAtWorst_1 : decode cX10_leftAtWorst 1 = .ok (.aload_n 0, 1) := zrD zrw_cX10_leftAtWorst_0 (i := 1) (by decide +kernel) rfl
theorem dX10_leftAtWorst_2 : decode cX10_leftAtWorst 2 = .ok (.getfield 34, 3) := zrD zrw_cX10_leftAtWorst_0 (i := 2) (by decide +kernel) rfl
theorem dX10_leftAtWorst_5 : decode cX10_leftAtWorst 5 = .ok (.iload_n 2, 1) := zrD zrw_cX10_leftAtWorst_0 (i := 5) (by decide +kernel) rfl
theorem dX10_leftAtWorst_6 : decode cX10_leftAtWorst 6 = .ok (.invokevirtual 324, 3) := zrD zrw_cX10_leftAtWorst_0 (i := 6) (by decide +kernel) rfl
theorem dX10_leftAtWorst_9 : decode cX10_leftAtWorst 9 = .ok (.iand, 1) := zrD zrw_cX10_leftAtWorst_0 (i := 9) (by decide +kernel) rfl
theorem dX10_leftAtWorst_10 : decode cX10_leftAtWorst 10 = .ok (.istore_n 3, 1) := zrD zrw_cX10_leftAtWorst_0 (i := 10) (by decide +kernel) rfl
theorem dX10_leftAtWorst_11 : decode cX10_leftAtWorst 11 = .ok (.iload_n 3, 1) := zrD zrw_cX10_leftAtWorst_0 (i := 11) (by decide +kernel) rfl
theorem dX10_leftAtWorst_12 : decode cX10_leftAtWorst 12 = .ok (.invokestatic 198, 3) := zrD zrw_cX10_leftAtWorst_0 (i := 12) (by decide +kernel) rfl
theorem dX10_leftAtWorst_15 : decode cX10_leftAtWorst 15 = .ok (.iload_n 1, 1) := zrD zrw_cX10_leftAtWorst_0 (i := 15) (by decide +kernel) rfl
theorem dX10_leftAtWorst_16 : decode cX10_leftAtWorst 16 = .ok (.iload_n 3, 1) := zrD zrw_cX10_leftAtWorst_0 (i := 16) (by decide +kernel) rfl
theorem dX10_leftAtWorst_17 : decode cX10_leftAtWorst 17 = .ok (.iconst (-1), 1) := zrD zrw_cX10_leftAtWorst_0 (i := 17) (by decide +kernel) rfl
theorem dX10_leftAtWorst_18 : decode cX10_leftAtWorst 18 = .ok (.ixor, 1) := zrD zrw_cX10_leftAtWorst_0 (i := 18) (by decide +kernel) rfl
theorem dX10_leftAtWorst_19 : decode cX10_leftAtWorst 19 = .ok (.iand, 1) := zrD zrw_cX10_leftAtWorst_0 (i := 19) (by decide +kernel) rfl
theorem dX10_leftAtWorst_20 : decode cX10_leftAtWorst 20 = .ok (.invokestatic 198, 3) := zrD zrw_cX10_leftAtWorst_0 (i := 20) (by decide +kernel) rfl
theorem dX10_leftAtWorst_23 : decode cX10_leftAtWorst 23 = .ok (.invokestatic 333, 3) := zrD zrw_cX10_leftAtWorst_0 (i := 23) (by decide +kernel) rfl
theorem dX10_leftAtWorst_26 : decode cX10_leftAtWorst 26 = .ok (.ireturn, 1) := zrD zrw_cX10_leftAtWorst_0 (i := 26) (by decide +kernel) rfl
def zrk_cX10_look_0 : ByteArray := .mk #[42, 180, 0, 26, 42, 180, 0, 70, 42, 180, 0, 52, 182, 1, 15, 177]
theorem zrw_cX10_look_0 : zrW 0 cX10_look zrk_cX10_look_0 := by unfold zrW; decide +kernel
theorem dX10_look_0 : decode cX10_look 0 = .ok (.aload_n 0, 1) := zrD zrw_cX10_look_0 (i := 0) (by decide +kernel) rfl
theorem dX10_look_1 : decode cX10_look 1 = .ok (.getfield 26, 3) := zrD zrw_cX10_look_0 (i := 1) (by decide +kernel) rfl
theorem dX10_look_4 : decode cX10_look 4 = .ok (.aload_n 0, 1) := zrD zrw_cX10_look_0 (i := 4) (by decide +kernel) rfl
theorem dX10_look_5 : decode cX10_look 5 = .ok (.getfield 70, 3) := zrD zrw_cX10_look_0 (i := 5) (by decide +kernel) rfl
theorem dX10_look_8 : decode cX10_look 8 = .ok (.aload_n 0, 1) := zrD zrw_cX10_look_0 (i := 8) (by decide +kernel) rfl
theorem dX10_look_9 : decode cX10_look 9 = .ok (.getfield 52, 3) := zrD zrw_cX10_look_0 (i := 9) (by decide +kernel) rfl
theorem dX10_look_12 : decode cX10_look 12 = .ok (.invokevirtual 271, 3) := zrD zrw_cX10_look_0 (i := 12) (by decide +kernel) rfl
theorem dX10_look_15 : decode cX10_look 15 = .ok (.return_, 1) := zrD zrw_cX10_look_0 (i := 15) (by decide +kernel) rfl
def zrk_cX10_hasMouth_0 : ByteArray := .mk #[42, 180, 0, 70, 180, 0, 175, 158, 0, 7, 4, 167, 0, 4, 3, 172]
theorem zrw_cX10_hasMouth_0 : zrW 0 cX10_hasMouth zrk_cX10_hasMouth_0 := by unfold zrW; decide +kernel
theorem dX10_hasMouth_0 : decode cX10_hasMouth 0 = .ok (.aload_n 0, 1) := zrD zrw_cX10_hasMouth_0 (i := 0) (by decide +kernel) rfl
theorem dX10_hasMouth_1 : decode cX10_hasMouth 1 = .ok (.getfield 70, 3) := zrD zrw_cX10_hasMouth_0 (i := 1) (by decide +kernel) rfl
theorem dX10_hasMouth_4 : decode cX10_hasMouth 4 = .ok (.getfield 175, 3) := zrD zrw_cX10_hasMouth_0 (i := 4) (by decide +kernel) rfl
theorem dX10_hasMouth_7 : decode cX10_hasMouth 7 = .ok (.ifCond .le 7, 3) := zrD zrw_cX10_hasMouth_0 (i := 7) (by decide +kernel) rfl
theorem dX10_hasMouth_10 : decode cX10_hasMouth 10 = .ok (.iconst 1, 1) := zrD zrw_cX10_hasMouth_0 (i := 10) (by decide +kernel) rfl
theorem dX10_hasMouth_11 : decode cX10_hasMouth 11 = .ok (.goto 4, 3) := zrD zrw_cX10_hasMouth_0 (i := 11) (by decide +kernel) rfl
theorem dX10_hasMouth_14 : decode cX10_hasMouth 14 = .ok (.iconst 0, 1) := zrD zrw_cX10_hasMouth_0 (i := 14) (by decide +kernel) rfl
theorem dX10_hasMouth_15 : decode cX10_hasMouth 15 = .ok (.ireturn, 1) := zrD zrw_cX10_hasMouth_0 (i := 15) (by decide +kernel) rfl
def zrk_cX10_mouthFlow_0 : ByteArray := .mk #[42, 182, 1, 21, 153, 0, 15, 42, 180, 0, 26, 180, 0, 135, 3, 46, 167, 0, 4, 3, 172]
theorem zrw_cX10_mouthFlow_0 : zrW 0 cX10_mouthFlow zrk_cX10_mouthFlow_0 := by unfold zrW; decide +kernel
theorem dX10_mouthFlow_0 : decode cX10_mouthFlow 0 = .ok (.aload_n 0, 1) := zrD zrw_cX10_mouthFlow_0 (i := 0) (by decide +kernel) rfl
theorem dX10_mouthFlow_1 : decode cX10_mouthFlow 1 = .ok (.invokevirtual 277, 3) := zrD zrw_cX10_mouthFlow_0 (i := 1) (by decide +kernel) rfl
theorem dX10_mouthFlow_4 : decode cX10_mouthFlow 4 = .ok (.ifCond .eq 15, 3) := zrD zrw_cX10_mouthFlow_0 (i := 4) (by decide +kernel) rfl
theorem dX10_mouthFlow_7 : decode cX10_mouthFlow 7 = .ok (.aload_n 0, 1) := zrD zrw_cX10_mouthFlow_0 (i := 7) (by decide +kernel) rfl
theorem dX10_mouthFlow_8 : decode cX10_mouthFlow 8 = .ok (.getfield 26, 3) := zrD zrw_cX10_mouthFlow_0 (i := 8) (by decide +kernel) rfl
theorem dX10_mouthFlow_11 : decode cX10_mouthFlow 11 = .ok (.getfield 135, 3) := zrD zrw_cX10_mouthFlow_0 (i := 11) (by decide +kernel) rfl
theorem dX10_mouthFlow_14 : decode cX10_mouthFlow 14 = .ok (.iconst 0, 1) := zrD zrw_cX10_mouthFlow_0 (i := 14) (by decide +kernel) rfl
theorem dX10_mouthFlow_15 : decode cX10_mouthFlow 15 = .ok (.iaload, 1) := zrD zrw_cX10_mouthFlow_0 (i := 15) (by decide +kernel) rfl
theorem dX10_mouthFlow_16 : decode cX10_mouthFlow 16 = .ok (.goto 4, 3) := zrD zrw_cX10_mouthFlow_0 (i := 16) (by decide +kernel) rfl
theorem dX10_mouthFlow_19 : decode cX10_mouthFlow 19 = .ok (.iconst 0, 1) := zrD zrw_cX10_mouthFlow_0 (i := 19) (by decide +kernel) rfl
theorem dX10_mouthFlow_20 : decode cX10_mouthFlow 20 = .ok (.ireturn, 1) := zrD zrw_cX10_mouthFlow_0 (i := 20) (by decide +kernel) rfl
def zrk_cX10_isPlace_0 : ByteArray := .mk #[27, 3, 42, 180, 0, 70, 180, 0, 175, 4, 100, 184, 0, 229, 172]
theorem zrw_cX10_isPlace_0 : zrW 0 cX10_isPlace zrk_cX10_isPlace_0 := by unfold zrW; decide +kernel
theorem dX10_isPlace_0 : decode cX10_isPlace 0 = .ok (.iload_n 1, 1) := zrD zrw_cX10_isPlace_0 (i := 0) (by decide +kernel) rfl
theorem dX10_isPlace_1 : decode cX10_isPlace 1 = .ok (.iconst 0, 1) := zrD zrw_cX10_isPlace_0 (i := 1) (by decide +kernel) rfl
theorem dX10_isPlace_2 : decode cX10_isPlace 2 = .ok (.aload_n 0, 1) := zrD zrw_cX10_isPlace_0 (i := 2) (by decide +kernel) rfl
theorem dX10_isPlace_3 : decode cX10_isPlace 3 = .ok (.getfield 70, 3) := zrD zrw_cX10_isPlace_0 (i := 3) (by decide +kernel) rfl
theorem dX10_isPlace_6 : decode cX10_isPlace 6 = .ok (.getfield 175, 3) := zrD zrw_cX10_isPlace_0 (i := 6) (by decide +kernel) rfl
theorem dX10_isPlace_9 : decode cX10_isPlace 9 = .ok (.iconst 1, 1) := zrD zrw_cX10_isPlace_0 (i := 9) (by decide +kernel) rfl
theorem dX10_isPlace_10 : decode cX10_isPlace 10 = .ok (.isub, 1) := zrD zrw_cX10_isPlace_0 (i := 10) (by decide +kernel) rfl
theorem dX10_isPlace_11 : decode cX10_isPlace 11 = .ok (.invokestatic 229, 3) := zrD zrw_cX10_isPlace_0 (i := 11) (by decide +kernel) rfl
theorem dX10_isPlace_14 : decode cX10_isPlace 14 = .ok (.ireturn, 1) := zrD zrw_cX10_isPlace_0 (i := 14) (by decide +kernel) rfl
def zrk_cX10_isLaw_0 : ByteArray := .mk #[27, 3, 5, 184, 0, 229, 172]
theorem zrw_cX10_isLaw_0 : zrW 0 cX10_isLaw zrk_cX10_isLaw_0 := by unfold zrW; decide +kernel
theorem dX10_isLaw_0 : decode cX10_isLaw 0 = .ok (.iload_n 1, 1) := zrD zrw_cX10_isLaw_0 (i := 0) (by decide +kernel) rfl
theorem dX10_isLaw_1 : decode cX10_isLaw 1 = .ok (.iconst 0, 1) := zrD zrw_cX10_isLaw_0 (i := 1) (by decide +kernel) rfl
theorem dX10_isLaw_2 : decode cX10_isLaw 2 = .ok (.iconst 2, 1) := zrD zrw_cX10_isLaw_0 (i := 2) (by decide +kernel) rfl
theorem dX10_isLaw_3 : decode cX10_isLaw 3 = .ok (.invokestatic 229, 3) := zrD zrw_cX10_isLaw_0 (i := 3) (by decide +kernel) rfl
theorem dX10_isLaw_6 : decode cX10_isLaw 6 = .ok (.ireturn, 1) := zrD zrw_cX10_isLaw_0 (i := 6) (by decide +kernel) rfl
def zrk_cX10_isContest_0 : ByteArray := .mk #[42, 180, 0, 26, 42, 180, 0, 70, 42, 180, 0, 52, 182, 1, 15, 42, 28, 182, 0, 169, 153, 0, 18, 42, 180, 0, 34, 27, 182, 0, 146]
theorem zrw_cX10_isContest_0 : zrW 0 cX10_isContest zrk_cX10_isContest_0 := by unfold zrW; decide +kernel
theorem dX10_isContest_0 : decode cX10_isContest 0 = .ok (.aload_n 0, 1) := zrD zrw_cX10_isContest_0 (i := 0) (by decide +kernel) rfl
theorem dX10_isContest_1 : decode cX10_isContest 1 = .ok (.getfield 26, 3) := zrD zrw_cX10_isContest_0 (i := 1) (by decide +kernel) rfl
theorem dX10_isContest_4 : decode cX10_isContest 4 = .ok (.aload_n 0, 1) := zrD zrw_cX10_isContest_0 (i := 4) (by decide +kernel) rfl
theorem dX10_isContest_5 : decode cX10_isContest 5 = .ok (.getfield 70, 3) := zrD zrw_cX10_isContest_0 (i := 5) (by decide +kernel) rfl
theorem dX10_isContest_8 : decode cX10_isContest 8 = .ok (.aload_n 0, 1) := zrD zrw_cX10_isContest_0 (i := 8) (by decide +kernel) rfl
theorem dX10_isContest_9 : decode cX10_isContest 9 = .ok (.getfield 52, 3) := zrD zrw_cX10_isContest_0 (i := 9) (by decide +kernel) rfl
theorem dX10_isContest_12 : decode cX10_isContest 12 = .ok (.invokevirtual 271, 3) := zrD zrw_cX10_isContest_0 (i := 12) (by decide +kernel) rfl
theorem dX10_isContest_15 : decode cX10_isContest 15 = .ok (.aload_n 0, 1) := zrD zrw_cX10_isContest_0 (i := 15) (by decide +kernel) rfl
theorem dX10_isContest_16 : decode cX10_isContest 16 = .ok (.iload_n 2, 1) := zrD zrw_cX10_isContest_0 (i := 16) (by decide +kernel) rfl
theorem dX10_isContest_17 : decode cX10_isContest 17 = .ok (.invokevirtual 169, 3) := zrD zrw_cX10_isContest_0 (i := 17) (by decide +kernel) rfl
theorem dX10_isContest_20 : decode cX10_isContest 20 = .ok (.ifCond .eq 18, 3) := zrD zrw_cX10_isContest_0 (i := 20) (by decide +kernel) rfl
theorem dX10_isContest_23 : decode cX10_isContest 23 = .ok (.aload_n 0, 1) := zrD zrw_cX10_isContest_0 (i := 23) (by decide +kernel) rfl
theorem dX10_isContest_24 : decode cX10_isContest 24 = .ok (.getfield 34, 3) := zrD zrw_cX10_isContest_0 (i := 24) (by decide +kernel) rfl
theorem dX10_isContest_27 : decode cX10_isContest 27 = .ok (.iload_n 1, 1) := zrD zrw_cX10_isContest_0 (i := 27) (by decide +kernel) rfl
theorem dX10_isContest_28 : decode cX10_isContest 28 = .ok (.invokevirtual 146, 3) := zrD zrw_cX10_isContest_0 (i := 28) (by decide +kernel) rfl
def zrk_cX10_isContest_31 : ByteArray := .mk #[153, 0, 7, 4, 167, 0, 4, 3, 172]
theorem zrw_cX10_isContest_31 : zrW 31 cX10_isContest zrk_cX10_isContest_31 := by unfold zrW; decide +kernel
theorem dX10_isContest_31 : decode cX10_isContest 31 = .ok (.ifCond .eq 7, 3) := zrD zrw_cX10_isContest_31 (i := 0) (by decide +kernel) rfl
theorem dX10_isContest_34 : decode cX10_isContest 34 = .ok (.iconst 1, 1) := zrD zrw_cX10_isContest_31 (i := 3) (by decide +kernel) rfl
theorem dX10_isContest_35 : decode cX10_isContest 35 = .ok (.goto 4, 3) := zrD zrw_cX10_isContest_31 (i := 4) (by decide +kernel) rfl
theorem dX10_isContest_38 : decode cX10_isContest 38 = .ok (.iconst 0, 1) := zrD zrw_cX10_isContest_31 (i := 7) (by decide +kernel) rfl
theorem dX10_isContest_39 : decode cX10_isContest 39 = .ok (.ireturn, 1) := zrD zrw_cX10_isContest_31 (i := 8) (by decide +kernel) rfl
def zrk_cX10_isWithin_0 : ByteArray := .mk #[26, 27, 161, 0, 12, 26, 28, 163, 0, 7, 4, 167, 0, 4, 3, 172]
theorem zrw_cX10_isWithin_0 : zrW 0 cX10_isWithin zrk_cX10_isWithin_0 := by unfold zrW; decide +kernel
theorem dX10_isWithin_0 : decode cX10_isWithin 0 = .ok (.iload_n 0, 1) := zrD zrw_cX10_isWithin_0 (i := 0) (by decide +kernel) rfl
theorem dX10_isWithin_1 : decode cX10_isWithin 1 = .ok (.iload_n 1, 1) := zrD zrw_cX10_isWithin_0 (i := 1) (by decide +kernel) rfl
theorem dX10_isWithin_2 : decode cX10_isWithin 2 = .ok (.if_icmp .lt 12, 3) := zrD zrw_cX10_isWithin_0 (i := 2) (by decide +kernel) rfl
theorem dX10_isWithin_5 : decode cX10_isWithin 5 = .ok (.iload_n 0, 1) := zrD zrw_cX10_isWithin_0 (i := 5) (by decide +kernel) rfl
theorem dX10_isWithin_6 : decode cX10_isWithin 6 = .ok (.iload_n 2, 1) := zrD zrw_cX10_isWithin_0 (i := 6) (by decide +kernel) rfl
theorem dX10_isWithin_7 : decode cX10_isWithin 7 = .ok (.if_icmp .gt 7, 3) := zrD zrw_cX10_isWithin_0 (i := 7) (by decide +kernel) rfl
theorem dX10_isWithin_10 : decode cX10_isWithin 10 = .ok (.iconst 1, 1) := zrD zrw_cX10_isWithin_0 (i := 10) (by decide +kernel) rfl
theorem dX10_isWithin_11 : decode cX10_isWithin 11 = .ok (.goto 4, 3) := zrD zrw_cX10_isWithin_0 (i := 11) (by decide +kernel) rfl
theorem dX10_isWithin_14 : decode cX10_isWithin 14 = .ok (.iconst 0, 1) := zrD zrw_cX10_isWithin_0 (i := 14) (by decide +kernel) rfl
theorem dX10_isWithin_15 : decode cX10_isWithin 15 = .ok (.ireturn, 1) := zrD zrw_cX10_isWithin_0 (i := 15) (by decide +kernel) rfl
def zrk_cX10_held_0 : ByteArray := .mk #[27, 28, 26, 184, 1, 6, 184, 1, 77, 172]
theorem zrw_cX10_held_0 : zrW 0 cX10_held zrk_cX10_held_0 := by unfold zrW; decide +kernel
theorem dX10_held_0 : decode cX10_held 0 = .ok (.iload_n 1, 1) := zrD zrw_cX10_held_0 (i := 0) (by decide +kernel) rfl
theorem dX10_held_1 : decode cX10_held 1 = .ok (.iload_n 2, 1) := zrD zrw_cX10_held_0 (i := 1) (by decide +kernel) rfl
theorem dX10_held_2 : decode cX10_held 2 = .ok (.iload_n 0, 1) := zrD zrw_cX10_held_0 (i := 2) (by decide +kernel) rfl
theorem dX10_held_3 : decode cX10_held 3 = .ok (.invokestatic 262, 3) := zrD zrw_cX10_held_0 (i := 3) (by decide +kernel) rfl
theorem dX10_held_6 : decode cX10_held 6 = .ok (.invokestatic 333, 3) := zrD zrw_cX10_held_0 (i := 6) (by decide +kernel) rfl
theorem dX10_held_9 : decode cX10_held 9 = .ok (.ireturn, 1) := zrD zrw_cX10_held_0 (i := 9) (by decide +kernel) rfl
def zrk_cX10_bit_0 : ByteArray := .mk #[4, 26, 120, 172]
theorem zrw_cX10_bit_0 : zrW 0 cX10_bit zrk_cX10_bit_0 := by unfold zrW; decide +kernel
theorem dX10_bit_0 : decode cX10_bit 0 = .ok (.iconst 1, 1) := zrD zrw_cX10_bit_0 (i := 0) (by decide +kernel) rfl
theorem dX10_bit_1 : decode cX10_bit 1 = .ok (.iload_n 0, 1) := zrD zrw_cX10_bit_0 (i := 1) (by decide +kernel) rfl
theorem dX10_bit_2 : decode cX10_bit 2 = .ok (.ishl, 1) := zrD zrw_cX10_bit_0 (i := 2) (by decide +kernel) rfl
theorem dX10_bit_3 : decode cX10_bit 3 = .ok (.ireturn, 1) := zrD zrw_cX10_bit_0 (i := 3) (by decide +kernel) rfl
def zrk_cX10_has_0 : ByteArray := .mk #[26, 27, 184, 0, 216, 126, 153, 0, 7, 4, 167, 0, 4, 3, 172]
theorem zrw_cX10_has_0 : zrW 0 cX10_has zrk_cX10_has_0 := by unfold zrW; decide +kernel
theorem dX10_has_0 : decode cX10_has 0 = .ok (.iload_n 0, 1) := zrD zrw_cX10_has_0 (i := 0) (by decide +kernel) rfl
theorem dX10_has_1 : decode cX10_has 1 = .ok (.iload_n 1, 1) := zrD zrw_cX10_has_0 (i := 1) (by decide +kernel) rfl
theorem dX10_has_2 : decode cX10_has 2 = .ok (.invokestatic 216, 3) := zrD zrw_cX10_has_0 (i := 2) (by decide +kernel) rfl
theorem dX10_has_5 : decode cX10_has 5 = .ok (.iand, 1) := zrD zrw_cX10_has_0 (i := 5) (by decide +kernel) rfl
theorem dX10_has_6 : decode cX10_has 6 = .ok (.ifCond .eq 7, 3) := zrD zrw_cX10_has_0 (i := 6) (by decide +kernel) rfl
theorem dX10_has_9 : decode cX10_has 9 = .ok (.iconst 1, 1) := zrD zrw_cX10_has_0 (i := 9) (by decide +kernel) rfl
theorem dX10_has_10 : decode cX10_has 10 = .ok (.goto 4, 3) := zrD zrw_cX10_has_0 (i := 10) (by decide +kernel) rfl
theorem dX10_has_13 : decode cX10_has 13 = .ok (.iconst 0, 1) := zrD zrw_cX10_has_0 (i := 13) (by decide +kernel) rfl
theorem dX10_has_14 : decode cX10_has 14 = .ok (.ireturn, 1) := zrD zrw_cX10_has_0 (i := 14) (by decide +kernel) rfl
def zrk_cX10_bitAt_0 : ByteArray := .mk #[3, 61, 3, 62, 29, 16, 12, 162, 0, 27, 26, 29, 184, 0, 131, 153, 0, 13, 28, 27, 160, 0, 5, 29, 172, 132, 2, 1, 132, 3, 1]
theorem zrw_cX10_bitAt_0 : zrW 0 cX10_bitAt zrk_cX10_bitAt_0 := by unfold zrW; decide +kernel
theorem dX10_bitAt_0 : decode cX10_bitAt 0 = .ok (.iconst 0, 1) := zrD zrw_cX10_bitAt_0 (i := 0) (by decide +kernel) rfl
theorem dX10_bitAt_1 : decode cX10_bitAt 1 = .ok (.istore_n 2, 1) := zrD zrw_cX10_bitAt_0 (i := 1) (by decide +kernel) rfl
theorem dX10_bitAt_2 : decode cX10_bitAt 2 = .ok (.iconst 0, 1) := zrD zrw_cX10_bitAt_0 (i := 2) (by decide +kernel) rfl
theorem dX10_bitAt_3 : decode cX10_bitAt 3 = .ok (.istore_n 3, 1) := zrD zrw_cX10_bitAt_0 (i := 3) (by decide +kernel) rfl
theorem dX10_bitAt_4 : decode cX10_bitAt 4 = .ok (.iload_n 3, 1) := zrD zrw_cX10_bitAt_0 (i := 4) (by decide +kernel) rfl
theorem dX10_bitAt_5 : decode cX10_bitAt 5 = .ok (.bipush 12, 2) := zrD zrw_cX10_bitAt_0 (i := 5) (by decide +kernel) rfl
theorem dX10_bitAt_7 : decode cX10_bitAt 7 = .ok (.if_icmp .ge 27, 3) := zrD zrw_cX10_bitAt_0 (i := 7) (by decide +kernel) rfl
theorem dX10_bitAt_10 : decode cX10_bitAt 10 = .ok (.iload_n 0, 1) := zrD zrw_cX10_bitAt_0 (i := 10) (by decide +kernel) rfl
theorem dX10_bitAt_11 : decode cX10_bitAt 11 = .ok (.iload_n 3, 1) := zrD zrw_cX10_bitAt_0 (i := 11) (by decide +kernel) rfl
theorem dX10_bitAt_12 : decode cX10_bitAt 12 = .ok (.invokestatic 131, 3) := zrD zrw_cX10_bitAt_0 (i := 12) (by decide +kernel) rfl
theorem dX10_bitAt_15 : decode cX10_bitAt 15 = .ok (.ifCond .eq 13, 3) := zrD zrw_cX10_bitAt_0 (i := 15) (by decide +kernel) rfl
theorem dX10_bitAt_18 : decode cX10_bitAt 18 = .ok (.iload_n 2, 1) := zrD zrw_cX10_bitAt_0 (i := 18) (by decide +kernel) rfl
theorem dX10_bitAt_19 : decode cX10_bitAt 19 = .ok (.iload_n 1, 1) := zrD zrw_cX10_bitAt_0 (i := 19) (by decide +kernel) rfl
theorem dX10_bitAt_20 : decode cX10_bitAt 20 = .ok (.if_icmp .ne 5, 3) := zrD zrw_cX10_bitAt_0 (i := 20) (by decide +kernel) rfl
theorem dX10_bitAt_23 : decode cX10_bitAt 23 = .ok (.iload_n 3, 1) := zrD zrw_cX10_bitAt_0 (i := 23) (by decide +kernel) rfl
theorem dX10_bitAt_24 : decode cX10_bitAt 24 = .ok (.ireturn, 1) := zrD zrw_cX10_bitAt_0 (i := 24) (by decide +kernel) rfl
theorem dX10_bitAt_25 : decode cX10_bitAt 25 = .ok (.iinc 2 1, 3) := zrD zrw_cX10_bitAt_0 (i := 25) (by decide +kernel) rfl
theorem dX10_bitAt_28 : decode cX10_bitAt 28 = .ok (.iinc 3 1, 3) := zrD zrw_cX10_bitAt_0 (i := 28) (by decide +kernel) rfl
def zrk_cX10_bitAt_31 : ByteArray := .mk #[167, 255, 229, 2, 172]
theorem zrw_cX10_bitAt_31 : zrW 31 cX10_bitAt zrk_cX10_bitAt_31 := by unfold zrW; decide +kernel
theorem dX10_bitAt_31 : decode cX10_bitAt 31 = .ok (.goto (-27), 3) := zrD zrw_cX10_bitAt_31 (i := 0) (by decide +kernel) rfl
theorem dX10_bitAt_34 : decode cX10_bitAt 34 = .ok (.iconst (-1), 1) := zrD zrw_cX10_bitAt_31 (i := 3) (by decide +kernel) rfl
theorem dX10_bitAt_35 : decode cX10_bitAt 35 = .ok (.ireturn, 1) := zrD zrw_cX10_bitAt_31 (i := 4) (by decide +kernel) rfl
end
